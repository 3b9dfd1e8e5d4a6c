section
-- ===== PART A: goes FIRST, ahead of the names: the tables' words, and 'selects' of the private methods out of them =====
/-- a private method of a class that the tables say can be made, by its rows of tables_1 -/
def lw_okq (q : MethodName × Nat) : Prop := (q.1.cls ≠ "java/lang/invoke/MethodHandle" ∧ q.1.cls ≠ "java/lang/invoke/VarHandle") ∧ Cond.instantiable q.1.cls q.2 ∈ tables_1 ∧ Cond.privateMethod q.1 ∈ tables_1 ∧ Cond.instanceMethod q.1 ∈ tables_1
theorem lw_p0 : lw_okq (⟨"ShareNets$Tape", "goOn", "()V"⟩, 5) := ⟨⟨by decide +kernel, by decide +kernel⟩, List.mem_of_getElem? (i := 118) (by decide +kernel), List.mem_of_getElem? (i := 272) (by decide +kernel), List.mem_of_getElem? (i := 273) (by decide +kernel)⟩
theorem lw_p1 : lw_okq (⟨"ShareNets$Tape", "byteAt", "(I)I"⟩, 5) := ⟨⟨by decide +kernel, by decide +kernel⟩, List.mem_of_getElem? (i := 118) (by decide +kernel), List.mem_of_getElem? (i := 276) (by decide +kernel), List.mem_of_getElem? (i := 277) (by decide +kernel)⟩
theorem lw_p2 : lw_okq (⟨"ShareNets$Tape", "goesOnAt", "(I)Z"⟩, 5) := ⟨⟨by decide +kernel, by decide +kernel⟩, List.mem_of_getElem? (i := 118) (by decide +kernel), List.mem_of_getElem? (i := 280) (by decide +kernel), List.mem_of_getElem? (i := 281) (by decide +kernel)⟩
theorem lw_p3 : lw_okq (⟨"ShareNets$Tape", "isText", "()Z"⟩, 5) := ⟨⟨by decide +kernel, by decide +kernel⟩, List.mem_of_getElem? (i := 118) (by decide +kernel), List.mem_of_getElem? (i := 290) (by decide +kernel), List.mem_of_getElem? (i := 291) (by decide +kernel)⟩
theorem lw_p4 : lw_okq (⟨"ShareNets$Tape", "isName", "(Ljava/lang/String;)Z"⟩, 5) := ⟨⟨by decide +kernel, by decide +kernel⟩, List.mem_of_getElem? (i := 118) (by decide +kernel), List.mem_of_getElem? (i := 295) (by decide +kernel), List.mem_of_getElem? (i := 296) (by decide +kernel)⟩
theorem lw_p5 : lw_okq (⟨"ShareNets$Tape", "numberAtHand", "()I"⟩, 5) := ⟨⟨by decide +kernel, by decide +kernel⟩, List.mem_of_getElem? (i := 118) (by decide +kernel), List.mem_of_getElem? (i := 347) (by decide +kernel), List.mem_of_getElem? (i := 348) (by decide +kernel)⟩
theorem lw_p6 : lw_okq (⟨"ShareNets$Tape", "isByte", "(I)Z"⟩, 5) := ⟨⟨by decide +kernel, by decide +kernel⟩, List.mem_of_getElem? (i := 118) (by decide +kernel), List.mem_of_getElem? (i := 355) (by decide +kernel), List.mem_of_getElem? (i := 356) (by decide +kernel)⟩
theorem lw_p7 : lw_okq (⟨"ShareNets$Tape", "isPhrase", "()Z"⟩, 5) := ⟨⟨by decide +kernel, by decide +kernel⟩, List.mem_of_getElem? (i := 118) (by decide +kernel), List.mem_of_getElem? (i := 359) (by decide +kernel), List.mem_of_getElem? (i := 360) (by decide +kernel)⟩
theorem lw_p8 : lw_okq (⟨"ShareNets$Tape", "joinPost", "(II)V"⟩, 5) := ⟨⟨by decide +kernel, by decide +kernel⟩, List.mem_of_getElem? (i := 118) (by decide +kernel), List.mem_of_getElem? (i := 366) (by decide +kernel), List.mem_of_getElem? (i := 367) (by decide +kernel)⟩
theorem lw_p9 : lw_okq (⟨"ShareNets", "isPost", "(II)Z"⟩, 17) := ⟨⟨by decide +kernel, by decide +kernel⟩, List.mem_of_getElem? (i := 21) (by decide +kernel), List.mem_of_getElem? (i := 398) (by decide +kernel), List.mem_of_getElem? (i := 399) (by decide +kernel)⟩
theorem lw_p10 : lw_okq (⟨"ShareNets", "orderPosts", "(LShareNets$Net;)V"⟩, 17) := ⟨⟨by decide +kernel, by decide +kernel⟩, List.mem_of_getElem? (i := 21) (by decide +kernel), List.mem_of_getElem? (i := 435) (by decide +kernel), List.mem_of_getElem? (i := 436) (by decide +kernel)⟩
theorem lw_p11 : lw_okq (⟨"ShareNets", "canMatch", "(LShareNets$Net;LShareNets$Net;II)Z"⟩, 17) := ⟨⟨by decide +kernel, by decide +kernel⟩, List.mem_of_getElem? (i := 21) (by decide +kernel), List.mem_of_getElem? (i := 443) (by decide +kernel), List.mem_of_getElem? (i := 444) (by decide +kernel)⟩
theorem lw_p12 : lw_okq (⟨"ShareNets", "imageOfRoads", "(II)I"⟩, 17) := ⟨⟨by decide +kernel, by decide +kernel⟩, List.mem_of_getElem? (i := 21) (by decide +kernel), List.mem_of_getElem? (i := 447) (by decide +kernel), List.mem_of_getElem? (i := 448) (by decide +kernel)⟩
theorem lw_p13 : lw_okq (⟨"ShareNets$Tally", "choose", "(LShareNets$Net;IIII)V"⟩, 2) := ⟨⟨by decide +kernel, by decide +kernel⟩, List.mem_of_getElem? (i := 166) (by decide +kernel), List.mem_of_getElem? (i := 477) (by decide +kernel), List.mem_of_getElem? (i := 478) (by decide +kernel)⟩
theorem lw_p14 : lw_okq (⟨"ShareNets", "countInForm", "(IIII)I"⟩, 17) := ⟨⟨by decide +kernel, by decide +kernel⟩, List.mem_of_getElem? (i := 21) (by decide +kernel), List.mem_of_getElem? (i := 512) (by decide +kernel), List.mem_of_getElem? (i := 513) (by decide +kernel)⟩
theorem lw_p15 : lw_okq (⟨"ShareNets", "isFreeNet", "(LShareNets$Net;)Z"⟩, 17) := ⟨⟨by decide +kernel, by decide +kernel⟩, List.mem_of_getElem? (i := 21) (by decide +kernel), List.mem_of_getElem? (i := 539) (by decide +kernel), List.mem_of_getElem? (i := 540) (by decide +kernel)⟩
def lw_privs_1 : List (MethodName × Nat) := [(⟨"ShareNets$Tape", "goOn", "()V"⟩, 5), (⟨"ShareNets$Tape", "byteAt", "(I)I"⟩, 5), (⟨"ShareNets$Tape", "goesOnAt", "(I)Z"⟩, 5), (⟨"ShareNets$Tape", "isText", "()Z"⟩, 5), (⟨"ShareNets$Tape", "isName", "(Ljava/lang/String;)Z"⟩, 5), (⟨"ShareNets$Tape", "numberAtHand", "()I"⟩, 5), (⟨"ShareNets$Tape", "isByte", "(I)Z"⟩, 5), (⟨"ShareNets$Tape", "isPhrase", "()Z"⟩, 5), (⟨"ShareNets$Tape", "joinPost", "(II)V"⟩, 5), (⟨"ShareNets", "isPost", "(II)Z"⟩, 17), (⟨"ShareNets", "orderPosts", "(LShareNets$Net;)V"⟩, 17), (⟨"ShareNets", "canMatch", "(LShareNets$Net;LShareNets$Net;II)Z"⟩, 17), (⟨"ShareNets", "imageOfRoads", "(II)I"⟩, 17), (⟨"ShareNets$Tally", "choose", "(LShareNets$Net;IIII)V"⟩, 2), (⟨"ShareNets", "countInForm", "(IIII)I"⟩, 17), (⟨"ShareNets", "isFreeNet", "(LShareNets$Net;)Z"⟩, 17)]
theorem lw_r1 : ∀ q ∈ lw_privs_1, lw_okq q := List.forall_mem_cons.mpr ⟨lw_p0, List.forall_mem_cons.mpr ⟨lw_p1, List.forall_mem_cons.mpr ⟨lw_p2, List.forall_mem_cons.mpr ⟨lw_p3, List.forall_mem_cons.mpr ⟨lw_p4, List.forall_mem_cons.mpr ⟨lw_p5, List.forall_mem_cons.mpr ⟨lw_p6, List.forall_mem_cons.mpr ⟨lw_p7, List.forall_mem_cons.mpr ⟨lw_p8, List.forall_mem_cons.mpr ⟨lw_p9, List.forall_mem_cons.mpr ⟨lw_p10, List.forall_mem_cons.mpr ⟨lw_p11, List.forall_mem_cons.mpr ⟨lw_p12, List.forall_mem_cons.mpr ⟨lw_p13, List.forall_mem_cons.mpr ⟨lw_p14, List.forall_mem_cons.mpr ⟨lw_p15, fun _ h => absurd h List.not_mem_nil⟩⟩⟩⟩⟩⟩⟩⟩⟩⟩⟩⟩⟩⟩⟩⟩
theorem lw_p16 : lw_okq (⟨"ShareNets", "holdsOut", "(I)Z"⟩, 17) := ⟨⟨by decide +kernel, by decide +kernel⟩, List.mem_of_getElem? (i := 21) (by decide +kernel), List.mem_of_getElem? (i := 543) (by decide +kernel), List.mem_of_getElem? (i := 544) (by decide +kernel)⟩
theorem lw_p17 : lw_okq (⟨"ShareNets", "freeForms", "(I)I"⟩, 17) := ⟨⟨by decide +kernel, by decide +kernel⟩, List.mem_of_getElem? (i := 21) (by decide +kernel), List.mem_of_getElem? (i := 551) (by decide +kernel), List.mem_of_getElem? (i := 552) (by decide +kernel)⟩
theorem lw_p18 : lw_okq (⟨"ShareNets", "mostInFive", "(III)I"⟩, 17) := ⟨⟨by decide +kernel, by decide +kernel⟩, List.mem_of_getElem? (i := 21) (by decide +kernel), List.mem_of_getElem? (i := 559) (by decide +kernel), List.mem_of_getElem? (i := 560) (by decide +kernel)⟩
theorem lw_p19 : lw_okq (⟨"ShareNets", "countInFive", "(II)I"⟩, 17) := ⟨⟨by decide +kernel, by decide +kernel⟩, List.mem_of_getElem? (i := 21) (by decide +kernel), List.mem_of_getElem? (i := 563) (by decide +kernel), List.mem_of_getElem? (i := 564) (by decide +kernel)⟩
theorem lw_p20 : lw_okq (⟨"ShareNets", "mostInForms", "(IIII)I"⟩, 17) := ⟨⟨by decide +kernel, by decide +kernel⟩, List.mem_of_getElem? (i := 21) (by decide +kernel), List.mem_of_getElem? (i := 570) (by decide +kernel), List.mem_of_getElem? (i := 571) (by decide +kernel)⟩
theorem lw_p21 : lw_okq (⟨"ShareNets$Limit", "drawParts", "(IIIIJ)V"⟩, 7) := ⟨⟨by decide +kernel, by decide +kernel⟩, List.mem_of_getElem? (i := 37) (by decide +kernel), List.mem_of_getElem? (i := 613) (by decide +kernel), List.mem_of_getElem? (i := 614) (by decide +kernel)⟩
theorem lw_p22 : lw_okq (⟨"ShareNets$Limit", "drawRoads", "(IIIJ)V"⟩, 7) := ⟨⟨by decide +kernel, by decide +kernel⟩, List.mem_of_getElem? (i := 37) (by decide +kernel), List.mem_of_getElem? (i := 618) (by decide +kernel), List.mem_of_getElem? (i := 619) (by decide +kernel)⟩
theorem lw_p23 : lw_okq (⟨"ShareNets", "isFreeLimit", "()Z"⟩, 17) := ⟨⟨by decide +kernel, by decide +kernel⟩, List.mem_of_getElem? (i := 21) (by decide +kernel), List.mem_of_getElem? (i := 639) (by decide +kernel), List.mem_of_getElem? (i := 640) (by decide +kernel)⟩
theorem lw_p24 : lw_okq (⟨"ShareNets$Limit", "dealCut", "(I)I"⟩, 7) := ⟨⟨by decide +kernel, by decide +kernel⟩, List.mem_of_getElem? (i := 37) (by decide +kernel), List.mem_of_getElem? (i := 661) (by decide +kernel), List.mem_of_getElem? (i := 662) (by decide +kernel)⟩
theorem lw_p25 : lw_okq (⟨"ShareNets$Limit", "greatestRest", "()I"⟩, 7) := ⟨⟨by decide +kernel, by decide +kernel⟩, List.mem_of_getElem? (i := 37) (by decide +kernel), List.mem_of_getElem? (i := 665) (by decide +kernel), List.mem_of_getElem? (i := 666) (by decide +kernel)⟩
theorem lw_p26 : lw_okq (⟨"ShareNets", "happens", "(I)Z"⟩, 17) := ⟨⟨by decide +kernel, by decide +kernel⟩, List.mem_of_getElem? (i := 21) (by decide +kernel), List.mem_of_getElem? (i := 669) (by decide +kernel), List.mem_of_getElem? (i := 670) (by decide +kernel)⟩
theorem lw_p27 : lw_okq (⟨"ShareNets", "isShare", "(I)Z"⟩, 17) := ⟨⟨by decide +kernel, by decide +kernel⟩, List.mem_of_getElem? (i := 21) (by decide +kernel), List.mem_of_getElem? (i := 771) (by decide +kernel), List.mem_of_getElem? (i := 772) (by decide +kernel)⟩
theorem lw_p28 : lw_okq (⟨"ShareNets", "greatestHeight", "(III)I"⟩, 17) := ⟨⟨by decide +kernel, by decide +kernel⟩, List.mem_of_getElem? (i := 21) (by decide +kernel), List.mem_of_getElem? (i := 808) (by decide +kernel), List.mem_of_getElem? (i := 809) (by decide +kernel)⟩
theorem lw_p29 : lw_okq (⟨"ShareNets", "height", "(III)I"⟩, 17) := ⟨⟨by decide +kernel, by decide +kernel⟩, List.mem_of_getElem? (i := 21) (by decide +kernel), List.mem_of_getElem? (i := 813) (by decide +kernel), List.mem_of_getElem? (i := 814) (by decide +kernel)⟩
theorem lw_p30 : lw_okq (⟨"ShareNets", "isInRow", "(II)Z"⟩, 17) := ⟨⟨by decide +kernel, by decide +kernel⟩, List.mem_of_getElem? (i := 21) (by decide +kernel), List.mem_of_getElem? (i := 838) (by decide +kernel), List.mem_of_getElem? (i := 839) (by decide +kernel)⟩
theorem lw_p31 : lw_okq (⟨"ShareNets", "fillShelf", "(III)I"⟩, 17) := ⟨⟨by decide +kernel, by decide +kernel⟩, List.mem_of_getElem? (i := 21) (by decide +kernel), List.mem_of_getElem? (i := 880) (by decide +kernel), List.mem_of_getElem? (i := 881) (by decide +kernel)⟩
def lw_privs_2 : List (MethodName × Nat) := [(⟨"ShareNets", "holdsOut", "(I)Z"⟩, 17), (⟨"ShareNets", "freeForms", "(I)I"⟩, 17), (⟨"ShareNets", "mostInFive", "(III)I"⟩, 17), (⟨"ShareNets", "countInFive", "(II)I"⟩, 17), (⟨"ShareNets", "mostInForms", "(IIII)I"⟩, 17), (⟨"ShareNets$Limit", "drawParts", "(IIIIJ)V"⟩, 7), (⟨"ShareNets$Limit", "drawRoads", "(IIIJ)V"⟩, 7), (⟨"ShareNets", "isFreeLimit", "()Z"⟩, 17), (⟨"ShareNets$Limit", "dealCut", "(I)I"⟩, 7), (⟨"ShareNets$Limit", "greatestRest", "()I"⟩, 7), (⟨"ShareNets", "happens", "(I)Z"⟩, 17), (⟨"ShareNets", "isShare", "(I)Z"⟩, 17), (⟨"ShareNets", "greatestHeight", "(III)I"⟩, 17), (⟨"ShareNets", "height", "(III)I"⟩, 17), (⟨"ShareNets", "isInRow", "(II)Z"⟩, 17), (⟨"ShareNets", "fillShelf", "(III)I"⟩, 17)]
theorem lw_r2 : ∀ q ∈ lw_privs_2, lw_okq q := List.forall_mem_cons.mpr ⟨lw_p16, List.forall_mem_cons.mpr ⟨lw_p17, List.forall_mem_cons.mpr ⟨lw_p18, List.forall_mem_cons.mpr ⟨lw_p19, List.forall_mem_cons.mpr ⟨lw_p20, List.forall_mem_cons.mpr ⟨lw_p21, List.forall_mem_cons.mpr ⟨lw_p22, List.forall_mem_cons.mpr ⟨lw_p23, List.forall_mem_cons.mpr ⟨lw_p24, List.forall_mem_cons.mpr ⟨lw_p25, List.forall_mem_cons.mpr ⟨lw_p26, List.forall_mem_cons.mpr ⟨lw_p27, List.forall_mem_cons.mpr ⟨lw_p28, List.forall_mem_cons.mpr ⟨lw_p29, List.forall_mem_cons.mpr ⟨lw_p30, List.forall_mem_cons.mpr ⟨lw_p31, fun _ h => absurd h List.not_mem_nil⟩⟩⟩⟩⟩⟩⟩⟩⟩⟩⟩⟩⟩⟩⟩⟩
theorem lw_p32 : lw_okq (⟨"ShareNets", "shareOn", "(I)LShareNets$Share;"⟩, 17) := ⟨⟨by decide +kernel, by decide +kernel⟩, List.mem_of_getElem? (i := 21) (by decide +kernel), List.mem_of_getElem? (i := 888) (by decide +kernel), List.mem_of_getElem? (i := 889) (by decide +kernel)⟩
theorem lw_p33 : lw_okq (⟨"ShareNetsModel", "advance", "()V"⟩, 56) := ⟨⟨by decide +kernel, by decide +kernel⟩, List.mem_of_getElem? (i := 990) (by decide +kernel), List.mem_of_getElem? (i := 1189) (by decide +kernel), List.mem_of_getElem? (i := 1190) (by decide +kernel)⟩
theorem lw_p34 : lw_okq (⟨"ShareNetsModel", "byteAt", "(I)I"⟩, 56) := ⟨⟨by decide +kernel, by decide +kernel⟩, List.mem_of_getElem? (i := 990) (by decide +kernel), List.mem_of_getElem? (i := 1193) (by decide +kernel), List.mem_of_getElem? (i := 1194) (by decide +kernel)⟩
theorem lw_p35 : lw_okq (⟨"ShareNetsModel", "isWord", "(J)Z"⟩, 56) := ⟨⟨by decide +kernel, by decide +kernel⟩, List.mem_of_getElem? (i := 990) (by decide +kernel), List.mem_of_getElem? (i := 1207) (by decide +kernel), List.mem_of_getElem? (i := 1208) (by decide +kernel)⟩
theorem lw_p36 : lw_okq (⟨"ShareNetsModel", "wantNumber", "(II)I"⟩, 56) := ⟨⟨by decide +kernel, by decide +kernel⟩, List.mem_of_getElem? (i := 990) (by decide +kernel), List.mem_of_getElem? (i := 1211) (by decide +kernel), List.mem_of_getElem? (i := 1212) (by decide +kernel)⟩
theorem lw_p37 : lw_okq (⟨"ShareNetsModel", "wantEnd", "()V"⟩, 56) := ⟨⟨by decide +kernel, by decide +kernel⟩, List.mem_of_getElem? (i := 990) (by decide +kernel), List.mem_of_getElem? (i := 1215) (by decide +kernel), List.mem_of_getElem? (i := 1216) (by decide +kernel)⟩
theorem lw_p38 : lw_okq (⟨"ShareNetsModel", "wantClause", "(I)V"⟩, 56) := ⟨⟨by decide +kernel, by decide +kernel⟩, List.mem_of_getElem? (i := 990) (by decide +kernel), List.mem_of_getElem? (i := 1220) (by decide +kernel), List.mem_of_getElem? (i := 1221) (by decide +kernel)⟩
theorem lw_p39 : lw_okq (⟨"ShareNetsModel", "wantPost", "()V"⟩, 56) := ⟨⟨by decide +kernel, by decide +kernel⟩, List.mem_of_getElem? (i := 990) (by decide +kernel), List.mem_of_getElem? (i := 1226) (by decide +kernel), List.mem_of_getElem? (i := 1227) (by decide +kernel)⟩
theorem lw_p40 : lw_okq (⟨"ShareNetsModel", "freshRoad", "(II)V"⟩, 56) := ⟨⟨by decide +kernel, by decide +kernel⟩, List.mem_of_getElem? (i := 990) (by decide +kernel), List.mem_of_getElem? (i := 1230) (by decide +kernel), List.mem_of_getElem? (i := 1231) (by decide +kernel)⟩
theorem lw_p41 : lw_okq (⟨"ShareNetsModel", "roadsOf", "(I)I"⟩, 56) := ⟨⟨by decide +kernel, by decide +kernel⟩, List.mem_of_getElem? (i := 990) (by decide +kernel), List.mem_of_getElem? (i := 1234) (by decide +kernel), List.mem_of_getElem? (i := 1235) (by decide +kernel)⟩
theorem lw_p42 : lw_okq (⟨"ShareNetsModel", "clear", "(II)V"⟩, 56) := ⟨⟨by decide +kernel, by decide +kernel⟩, List.mem_of_getElem? (i := 990) (by decide +kernel), List.mem_of_getElem? (i := 1245) (by decide +kernel), List.mem_of_getElem? (i := 1246) (by decide +kernel)⟩
theorem lw_p43 : lw_okq (⟨"ShareNetsModel", "isPost", "(II)Z"⟩, 56) := ⟨⟨by decide +kernel, by decide +kernel⟩, List.mem_of_getElem? (i := 990) (by decide +kernel), List.mem_of_getElem? (i := 1253) (by decide +kernel), List.mem_of_getElem? (i := 1254) (by decide +kernel)⟩
theorem lw_p44 : lw_okq (⟨"ShareNetsModel", "isRoad", "(III)Z"⟩, 56) := ⟨⟨by decide +kernel, by decide +kernel⟩, List.mem_of_getElem? (i := 990) (by decide +kernel), List.mem_of_getElem? (i := 1257) (by decide +kernel), List.mem_of_getElem? (i := 1258) (by decide +kernel)⟩
theorem lw_p45 : lw_okq (⟨"ShareNetsModel", "setRoad", "(IIIZ)V"⟩, 56) := ⟨⟨by decide +kernel, by decide +kernel⟩, List.mem_of_getElem? (i := 990) (by decide +kernel), List.mem_of_getElem? (i := 1261) (by decide +kernel), List.mem_of_getElem? (i := 1262) (by decide +kernel)⟩
theorem lw_p46 : lw_okq (⟨"ShareNetsModel", "lacksSort", "(II)I"⟩, 56) := ⟨⟨by decide +kernel, by decide +kernel⟩, List.mem_of_getElem? (i := 990) (by decide +kernel), List.mem_of_getElem? (i := 1279) (by decide +kernel), List.mem_of_getElem? (i := 1280) (by decide +kernel)⟩
theorem lw_p47 : lw_okq (⟨"ShareNetsModel", "mayBe", "(III)Z"⟩, 56) := ⟨⟨by decide +kernel, by decide +kernel⟩, List.mem_of_getElem? (i := 990) (by decide +kernel), List.mem_of_getElem? (i := 1291) (by decide +kernel), List.mem_of_getElem? (i := 1292) (by decide +kernel)⟩
def lw_privs_3 : List (MethodName × Nat) := [(⟨"ShareNets", "shareOn", "(I)LShareNets$Share;"⟩, 17), (⟨"ShareNetsModel", "advance", "()V"⟩, 56), (⟨"ShareNetsModel", "byteAt", "(I)I"⟩, 56), (⟨"ShareNetsModel", "isWord", "(J)Z"⟩, 56), (⟨"ShareNetsModel", "wantNumber", "(II)I"⟩, 56), (⟨"ShareNetsModel", "wantEnd", "()V"⟩, 56), (⟨"ShareNetsModel", "wantClause", "(I)V"⟩, 56), (⟨"ShareNetsModel", "wantPost", "()V"⟩, 56), (⟨"ShareNetsModel", "freshRoad", "(II)V"⟩, 56), (⟨"ShareNetsModel", "roadsOf", "(I)I"⟩, 56), (⟨"ShareNetsModel", "clear", "(II)V"⟩, 56), (⟨"ShareNetsModel", "isPost", "(II)Z"⟩, 56), (⟨"ShareNetsModel", "isRoad", "(III)Z"⟩, 56), (⟨"ShareNetsModel", "setRoad", "(IIIZ)V"⟩, 56), (⟨"ShareNetsModel", "lacksSort", "(II)I"⟩, 56), (⟨"ShareNetsModel", "mayBe", "(III)Z"⟩, 56)]
theorem lw_r3 : ∀ q ∈ lw_privs_3, lw_okq q := List.forall_mem_cons.mpr ⟨lw_p32, List.forall_mem_cons.mpr ⟨lw_p33, List.forall_mem_cons.mpr ⟨lw_p34, List.forall_mem_cons.mpr ⟨lw_p35, List.forall_mem_cons.mpr ⟨lw_p36, List.forall_mem_cons.mpr ⟨lw_p37, List.forall_mem_cons.mpr ⟨lw_p38, List.forall_mem_cons.mpr ⟨lw_p39, List.forall_mem_cons.mpr ⟨lw_p40, List.forall_mem_cons.mpr ⟨lw_p41, List.forall_mem_cons.mpr ⟨lw_p42, List.forall_mem_cons.mpr ⟨lw_p43, List.forall_mem_cons.mpr ⟨lw_p44, List.forall_mem_cons.mpr ⟨lw_p45, List.forall_mem_cons.mpr ⟨lw_p46, List.forall_mem_cons.mpr ⟨lw_p47, fun _ h => absurd h List.not_mem_nil⟩⟩⟩⟩⟩⟩⟩⟩⟩⟩⟩⟩⟩⟩⟩⟩
theorem lw_p48 : lw_okq (⟨"ShareNetsModel", "isForm", "(II)Z"⟩, 56) := ⟨⟨by decide +kernel, by decide +kernel⟩, List.mem_of_getElem? (i := 990) (by decide +kernel), List.mem_of_getElem? (i := 1310) (by decide +kernel), List.mem_of_getElem? (i := 1311) (by decide +kernel)⟩
theorem lw_p49 : lw_okq (⟨"ShareNetsModel", "countOf", "(III)I"⟩, 56) := ⟨⟨by decide +kernel, by decide +kernel⟩, List.mem_of_getElem? (i := 990) (by decide +kernel), List.mem_of_getElem? (i := 1314) (by decide +kernel), List.mem_of_getElem? (i := 1315) (by decide +kernel)⟩
theorem lw_p50 : lw_okq (⟨"ShareNetsModel", "countIn", "([IIIII)I"⟩, 56) := ⟨⟨by decide +kernel, by decide +kernel⟩, List.mem_of_getElem? (i := 990) (by decide +kernel), List.mem_of_getElem? (i := 1318) (by decide +kernel), List.mem_of_getElem? (i := 1319) (by decide +kernel)⟩
theorem lw_p51 : lw_okq (⟨"ShareNetsModel", "formIn", "([III)I"⟩, 56) := ⟨⟨by decide +kernel, by decide +kernel⟩, List.mem_of_getElem? (i := 990) (by decide +kernel), List.mem_of_getElem? (i := 1322) (by decide +kernel), List.mem_of_getElem? (i := 1323) (by decide +kernel)⟩
theorem lw_p52 : lw_okq (⟨"ShareNetsModel", "lowest", "(JJ)V"⟩, 56) := ⟨⟨by decide +kernel, by decide +kernel⟩, List.mem_of_getElem? (i := 990) (by decide +kernel), List.mem_of_getElem? (i := 1333) (by decide +kernel), List.mem_of_getElem? (i := 1334) (by decide +kernel)⟩
theorem lw_p53 : lw_okq (⟨"ShareNetsModel", "told", "(I)J"⟩, 56) := ⟨⟨by decide +kernel, by decide +kernel⟩, List.mem_of_getElem? (i := 990) (by decide +kernel), List.mem_of_getElem? (i := 1337) (by decide +kernel), List.mem_of_getElem? (i := 1338) (by decide +kernel)⟩
theorem lw_p54 : lw_okq (⟨"ShareNetsModel", "countLittle", "(IIII)I"⟩, 56) := ⟨⟨by decide +kernel, by decide +kernel⟩, List.mem_of_getElem? (i := 990) (by decide +kernel), List.mem_of_getElem? (i := 1345) (by decide +kernel), List.mem_of_getElem? (i := 1346) (by decide +kernel)⟩
theorem lw_p55 : lw_okq (⟨"ShareNetsModel", "layLittle", "(II)V"⟩, 56) := ⟨⟨by decide +kernel, by decide +kernel⟩, List.mem_of_getElem? (i := 990) (by decide +kernel), List.mem_of_getElem? (i := 1349) (by decide +kernel), List.mem_of_getElem? (i := 1350) (by decide +kernel)⟩
theorem lw_p56 : lw_okq (⟨"ShareNetsModel", "outAt", "(II)I"⟩, 56) := ⟨⟨by decide +kernel, by decide +kernel⟩, List.mem_of_getElem? (i := 990) (by decide +kernel), List.mem_of_getElem? (i := 1357) (by decide +kernel), List.mem_of_getElem? (i := 1358) (by decide +kernel)⟩
theorem lw_p57 : lw_okq (⟨"ShareNetsModel", "isFreeIn", "([III)Z"⟩, 56) := ⟨⟨by decide +kernel, by decide +kernel⟩, List.mem_of_getElem? (i := 990) (by decide +kernel), List.mem_of_getElem? (i := 1365) (by decide +kernel), List.mem_of_getElem? (i := 1366) (by decide +kernel)⟩
theorem lw_p58 : lw_okq (⟨"ShareNetsModel", "heapOf", "(I)I"⟩, 56) := ⟨⟨by decide +kernel, by decide +kernel⟩, List.mem_of_getElem? (i := 990) (by decide +kernel), List.mem_of_getElem? (i := 1373) (by decide +kernel), List.mem_of_getElem? (i := 1374) (by decide +kernel)⟩
theorem lw_p59 : lw_okq (⟨"ShareNetsModel", "atOf", "(II)J"⟩, 56) := ⟨⟨by decide +kernel, by decide +kernel⟩, List.mem_of_getElem? (i := 990) (by decide +kernel), List.mem_of_getElem? (i := 1398) (by decide +kernel), List.mem_of_getElem? (i := 1399) (by decide +kernel)⟩
theorem lw_p60 : lw_okq (⟨"ShareNetsModel", "oftenOf", "(II)J"⟩, 56) := ⟨⟨by decide +kernel, by decide +kernel⟩, List.mem_of_getElem? (i := 990) (by decide +kernel), List.mem_of_getElem? (i := 1402) (by decide +kernel), List.mem_of_getElem? (i := 1403) (by decide +kernel)⟩
theorem lw_p61 : lw_okq (⟨"ShareNetsModel", "allOf", "(I)J"⟩, 56) := ⟨⟨by decide +kernel, by decide +kernel⟩, List.mem_of_getElem? (i := 990) (by decide +kernel), List.mem_of_getElem? (i := 1406) (by decide +kernel), List.mem_of_getElem? (i := 1407) (by decide +kernel)⟩
theorem lw_p62 : lw_okq (⟨"ShareNetsModel", "weightsInAll", "()I"⟩, 56) := ⟨⟨by decide +kernel, by decide +kernel⟩, List.mem_of_getElem? (i := 990) (by decide +kernel), List.mem_of_getElem? (i := 1410) (by decide +kernel), List.mem_of_getElem? (i := 1411) (by decide +kernel)⟩
theorem lw_p63 : lw_okq (⟨"ShareNetsModel", "isFreeLimit", "()Z"⟩, 56) := ⟨⟨by decide +kernel, by decide +kernel⟩, List.mem_of_getElem? (i := 990) (by decide +kernel), List.mem_of_getElem? (i := 1418) (by decide +kernel), List.mem_of_getElem? (i := 1419) (by decide +kernel)⟩
def lw_privs_4 : List (MethodName × Nat) := [(⟨"ShareNetsModel", "isForm", "(II)Z"⟩, 56), (⟨"ShareNetsModel", "countOf", "(III)I"⟩, 56), (⟨"ShareNetsModel", "countIn", "([IIIII)I"⟩, 56), (⟨"ShareNetsModel", "formIn", "([III)I"⟩, 56), (⟨"ShareNetsModel", "lowest", "(JJ)V"⟩, 56), (⟨"ShareNetsModel", "told", "(I)J"⟩, 56), (⟨"ShareNetsModel", "countLittle", "(IIII)I"⟩, 56), (⟨"ShareNetsModel", "layLittle", "(II)V"⟩, 56), (⟨"ShareNetsModel", "outAt", "(II)I"⟩, 56), (⟨"ShareNetsModel", "isFreeIn", "([III)Z"⟩, 56), (⟨"ShareNetsModel", "heapOf", "(I)I"⟩, 56), (⟨"ShareNetsModel", "atOf", "(II)J"⟩, 56), (⟨"ShareNetsModel", "oftenOf", "(II)J"⟩, 56), (⟨"ShareNetsModel", "allOf", "(I)J"⟩, 56), (⟨"ShareNetsModel", "weightsInAll", "()I"⟩, 56), (⟨"ShareNetsModel", "isFreeLimit", "()Z"⟩, 56)]
theorem lw_r4 : ∀ q ∈ lw_privs_4, lw_okq q := List.forall_mem_cons.mpr ⟨lw_p48, List.forall_mem_cons.mpr ⟨lw_p49, List.forall_mem_cons.mpr ⟨lw_p50, List.forall_mem_cons.mpr ⟨lw_p51, List.forall_mem_cons.mpr ⟨lw_p52, List.forall_mem_cons.mpr ⟨lw_p53, List.forall_mem_cons.mpr ⟨lw_p54, List.forall_mem_cons.mpr ⟨lw_p55, List.forall_mem_cons.mpr ⟨lw_p56, List.forall_mem_cons.mpr ⟨lw_p57, List.forall_mem_cons.mpr ⟨lw_p58, List.forall_mem_cons.mpr ⟨lw_p59, List.forall_mem_cons.mpr ⟨lw_p60, List.forall_mem_cons.mpr ⟨lw_p61, List.forall_mem_cons.mpr ⟨lw_p62, List.forall_mem_cons.mpr ⟨lw_p63, fun _ h => absurd h List.not_mem_nil⟩⟩⟩⟩⟩⟩⟩⟩⟩⟩⟩⟩⟩⟩⟩⟩
theorem lw_p64 : lw_okq (⟨"ShareNetsModel", "shareOut", "(I)V"⟩, 56) := ⟨⟨by decide +kernel, by decide +kernel⟩, List.mem_of_getElem? (i := 990) (by decide +kernel), List.mem_of_getElem? (i := 1430) (by decide +kernel), List.mem_of_getElem? (i := 1431) (by decide +kernel)⟩
theorem lw_p65 : lw_okq (⟨"ShareNetsModel", "lot", "()I"⟩, 56) := ⟨⟨by decide +kernel, by decide +kernel⟩, List.mem_of_getElem? (i := 990) (by decide +kernel), List.mem_of_getElem? (i := 1434) (by decide +kernel), List.mem_of_getElem? (i := 1435) (by decide +kernel)⟩
theorem lw_p66 : lw_okq (⟨"ShareNetsModel", "isShare", "(I)Z"⟩, 56) := ⟨⟨by decide +kernel, by decide +kernel⟩, List.mem_of_getElem? (i := 990) (by decide +kernel), List.mem_of_getElem? (i := 1459) (by decide +kernel), List.mem_of_getElem? (i := 1460) (by decide +kernel)⟩
theorem lw_p67 : lw_okq (⟨"ShareNetsModel", "its", "(II)I"⟩, 56) := ⟨⟨by decide +kernel, by decide +kernel⟩, List.mem_of_getElem? (i := 990) (by decide +kernel), List.mem_of_getElem? (i := 1463) (by decide +kernel), List.mem_of_getElem? (i := 1464) (by decide +kernel)⟩
theorem lw_p68 : lw_okq (⟨"ShareNetsModel", "givesOf", "(II)I"⟩, 56) := ⟨⟨by decide +kernel, by decide +kernel⟩, List.mem_of_getElem? (i := 990) (by decide +kernel), List.mem_of_getElem? (i := 1475) (by decide +kernel), List.mem_of_getElem? (i := 1476) (by decide +kernel)⟩
theorem lw_p69 : lw_okq (⟨"ShareNetsModel", "isBound", "(II)Z"⟩, 56) := ⟨⟨by decide +kernel, by decide +kernel⟩, List.mem_of_getElem? (i := 990) (by decide +kernel), List.mem_of_getElem? (i := 1493) (by decide +kernel), List.mem_of_getElem? (i := 1494) (by decide +kernel)⟩
theorem lw_p70 : lw_okq (⟨"ShareNetsModel", "findBound", "(II)Z"⟩, 56) := ⟨⟨by decide +kernel, by decide +kernel⟩, List.mem_of_getElem? (i := 990) (by decide +kernel), List.mem_of_getElem? (i := 1497) (by decide +kernel), List.mem_of_getElem? (i := 1498) (by decide +kernel)⟩
theorem lw_p71 : lw_okq (⟨"ShareNetsModel", "findRows", "(II)V"⟩, 56) := ⟨⟨by decide +kernel, by decide +kernel⟩, List.mem_of_getElem? (i := 990) (by decide +kernel), List.mem_of_getElem? (i := 1519) (by decide +kernel), List.mem_of_getElem? (i := 1520) (by decide +kernel)⟩
theorem lw_p72 : lw_okq (⟨"ShareNetsModel", "isRow", "(II)Z"⟩, 56) := ⟨⟨by decide +kernel, by decide +kernel⟩, List.mem_of_getElem? (i := 990) (by decide +kernel), List.mem_of_getElem? (i := 1527) (by decide +kernel), List.mem_of_getElem? (i := 1528) (by decide +kernel)⟩
theorem lw_p73 : lw_okq (⟨"ShareNetsModel", "isHeld", "(II)Z"⟩, 56) := ⟨⟨by decide +kernel, by decide +kernel⟩, List.mem_of_getElem? (i := 990) (by decide +kernel), List.mem_of_getElem? (i := 1555) (by decide +kernel), List.mem_of_getElem? (i := 1556) (by decide +kernel)⟩
theorem lw_p74 : lw_okq (⟨"ShareNetsModel", "kindOn", "(I)I"⟩, 56) := ⟨⟨by decide +kernel, by decide +kernel⟩, List.mem_of_getElem? (i := 990) (by decide +kernel), List.mem_of_getElem? (i := 1563) (by decide +kernel), List.mem_of_getElem? (i := 1564) (by decide +kernel)⟩
theorem lw_p75 : lw_okq (⟨"ShareNetsModel", "countsIt", "(I)I"⟩, 56) := ⟨⟨by decide +kernel, by decide +kernel⟩, List.mem_of_getElem? (i := 990) (by decide +kernel), List.mem_of_getElem? (i := 1574) (by decide +kernel), List.mem_of_getElem? (i := 1575) (by decide +kernel)⟩
theorem lw_p76 : lw_okq (⟨"ShareNetsModel", "ran", "(I)V"⟩, 56) := ⟨⟨by decide +kernel, by decide +kernel⟩, List.mem_of_getElem? (i := 990) (by decide +kernel), List.mem_of_getElem? (i := 1578) (by decide +kernel), List.mem_of_getElem? (i := 1579) (by decide +kernel)⟩
theorem lw_p77 : lw_okq (⟨"ShareNetsModel", "joinsIt", "(I)I"⟩, 56) := ⟨⟨by decide +kernel, by decide +kernel⟩, List.mem_of_getElem? (i := 990) (by decide +kernel), List.mem_of_getElem? (i := 1582) (by decide +kernel), List.mem_of_getElem? (i := 1583) (by decide +kernel)⟩
theorem lw_p78 : lw_okq (⟨"ShareNetsModel", "sumJoins", "(I)I"⟩, 56) := ⟨⟨by decide +kernel, by decide +kernel⟩, List.mem_of_getElem? (i := 990) (by decide +kernel), List.mem_of_getElem? (i := 1586) (by decide +kernel), List.mem_of_getElem? (i := 1587) (by decide +kernel)⟩
theorem lw_p79 : lw_okq (⟨"ShareNetsModel", "plainJoins", "(I)I"⟩, 56) := ⟨⟨by decide +kernel, by decide +kernel⟩, List.mem_of_getElem? (i := 990) (by decide +kernel), List.mem_of_getElem? (i := 1590) (by decide +kernel), List.mem_of_getElem? (i := 1591) (by decide +kernel)⟩
def lw_privs_5 : List (MethodName × Nat) := [(⟨"ShareNetsModel", "shareOut", "(I)V"⟩, 56), (⟨"ShareNetsModel", "lot", "()I"⟩, 56), (⟨"ShareNetsModel", "isShare", "(I)Z"⟩, 56), (⟨"ShareNetsModel", "its", "(II)I"⟩, 56), (⟨"ShareNetsModel", "givesOf", "(II)I"⟩, 56), (⟨"ShareNetsModel", "isBound", "(II)Z"⟩, 56), (⟨"ShareNetsModel", "findBound", "(II)Z"⟩, 56), (⟨"ShareNetsModel", "findRows", "(II)V"⟩, 56), (⟨"ShareNetsModel", "isRow", "(II)Z"⟩, 56), (⟨"ShareNetsModel", "isHeld", "(II)Z"⟩, 56), (⟨"ShareNetsModel", "kindOn", "(I)I"⟩, 56), (⟨"ShareNetsModel", "countsIt", "(I)I"⟩, 56), (⟨"ShareNetsModel", "ran", "(I)V"⟩, 56), (⟨"ShareNetsModel", "joinsIt", "(I)I"⟩, 56), (⟨"ShareNetsModel", "sumJoins", "(I)I"⟩, 56), (⟨"ShareNetsModel", "plainJoins", "(I)I"⟩, 56)]
theorem lw_r5 : ∀ q ∈ lw_privs_5, lw_okq q := List.forall_mem_cons.mpr ⟨lw_p64, List.forall_mem_cons.mpr ⟨lw_p65, List.forall_mem_cons.mpr ⟨lw_p66, List.forall_mem_cons.mpr ⟨lw_p67, List.forall_mem_cons.mpr ⟨lw_p68, List.forall_mem_cons.mpr ⟨lw_p69, List.forall_mem_cons.mpr ⟨lw_p70, List.forall_mem_cons.mpr ⟨lw_p71, List.forall_mem_cons.mpr ⟨lw_p72, List.forall_mem_cons.mpr ⟨lw_p73, List.forall_mem_cons.mpr ⟨lw_p74, List.forall_mem_cons.mpr ⟨lw_p75, List.forall_mem_cons.mpr ⟨lw_p76, List.forall_mem_cons.mpr ⟨lw_p77, List.forall_mem_cons.mpr ⟨lw_p78, List.forall_mem_cons.mpr ⟨lw_p79, fun _ h => absurd h List.not_mem_nil⟩⟩⟩⟩⟩⟩⟩⟩⟩⟩⟩⟩⟩⟩⟩⟩
theorem lw_p80 : lw_okq (⟨"ShareNetsModel", "partsIt", "(I)I"⟩, 56) := ⟨⟨by decide +kernel, by decide +kernel⟩, List.mem_of_getElem? (i := 990) (by decide +kernel), List.mem_of_getElem? (i := 1594) (by decide +kernel), List.mem_of_getElem? (i := 1595) (by decide +kernel)⟩
theorem lw_p81 : lw_okq (⟨"ShareNetsModel", "plainParts", "(I)I"⟩, 56) := ⟨⟨by decide +kernel, by decide +kernel⟩, List.mem_of_getElem? (i := 990) (by decide +kernel), List.mem_of_getElem? (i := 1598) (by decide +kernel), List.mem_of_getElem? (i := 1599) (by decide +kernel)⟩
theorem lw_p82 : lw_okq (⟨"ShareNetsModel", "tellsIt", "(I)I"⟩, 56) := ⟨⟨by decide +kernel, by decide +kernel⟩, List.mem_of_getElem? (i := 990) (by decide +kernel), List.mem_of_getElem? (i := 1602) (by decide +kernel), List.mem_of_getElem? (i := 1603) (by decide +kernel)⟩
theorem lw_p83 : lw_okq (⟨"ShareNetsModel", "plainTells", "(I)I"⟩, 56) := ⟨⟨by decide +kernel, by decide +kernel⟩, List.mem_of_getElem? (i := 990) (by decide +kernel), List.mem_of_getElem? (i := 1606) (by decide +kernel), List.mem_of_getElem? (i := 1607) (by decide +kernel)⟩
theorem lw_p84 : lw_okq (⟨"ShareNetsModel", "moveAll", "(Z)V"⟩, 56) := ⟨⟨by decide +kernel, by decide +kernel⟩, List.mem_of_getElem? (i := 990) (by decide +kernel), List.mem_of_getElem? (i := 1622) (by decide +kernel), List.mem_of_getElem? (i := 1623) (by decide +kernel)⟩
theorem lw_p85 : lw_okq (⟨"ShareNetsModel", "move", "([IIZ)V"⟩, 56) := ⟨⟨by decide +kernel, by decide +kernel⟩, List.mem_of_getElem? (i := 990) (by decide +kernel), List.mem_of_getElem? (i := 1626) (by decide +kernel), List.mem_of_getElem? (i := 1627) (by decide +kernel)⟩
def lw_privs_6 : List (MethodName × Nat) := [(⟨"ShareNetsModel", "partsIt", "(I)I"⟩, 56), (⟨"ShareNetsModel", "plainParts", "(I)I"⟩, 56), (⟨"ShareNetsModel", "tellsIt", "(I)I"⟩, 56), (⟨"ShareNetsModel", "plainTells", "(I)I"⟩, 56), (⟨"ShareNetsModel", "moveAll", "(Z)V"⟩, 56), (⟨"ShareNetsModel", "move", "([IIZ)V"⟩, 56)]
theorem lw_r6 : ∀ q ∈ lw_privs_6, lw_okq q := List.forall_mem_cons.mpr ⟨lw_p80, List.forall_mem_cons.mpr ⟨lw_p81, List.forall_mem_cons.mpr ⟨lw_p82, List.forall_mem_cons.mpr ⟨lw_p83, List.forall_mem_cons.mpr ⟨lw_p84, List.forall_mem_cons.mpr ⟨lw_p85, fun _ h => absurd h List.not_mem_nil⟩⟩⟩⟩⟩⟩
def lw_privs : List (MethodName × Nat) := lw_privs_1 ++ (lw_privs_2 ++ (lw_privs_3 ++ (lw_privs_4 ++ (lw_privs_5 ++ (lw_privs_6)))))
def lw_tbl : List Cond := k2_sels lw_privs ++ tables_1
theorem lw_privs_ok : ∀ q ∈ lw_privs, lw_okq q := by
  show ∀ q ∈ lw_privs_1 ++ (lw_privs_2 ++ (lw_privs_3 ++ (lw_privs_4 ++ (lw_privs_5 ++ (lw_privs_6))))), lw_okq q
  exact List.forall_mem_append.mpr ⟨lw_r1, List.forall_mem_append.mpr ⟨lw_r2, List.forall_mem_append.mpr ⟨lw_r3, List.forall_mem_append.mpr ⟨lw_r4, List.forall_mem_append.mpr ⟨lw_r5, lw_r6⟩⟩⟩⟩⟩
end
section
/-! the tables of the interpreter: values, memory, layout, classes, methods, code; printed by wip/whole/emit_tab.py -/
abbrev z_V : Type := Int32 ⊕ Int64 ⊕ (Nat × Nat) ⊕ Unit
abbrev z_i (x : Int32) : z_V := Sum.inl x
abbrev z_j (x : Int64) : z_V := Sum.inr (Sum.inl x)
abbrev z_r (t i : Nat) : z_V := Sum.inr (Sum.inr (Sum.inl (t, i)))
abbrev z_n : z_V := Sum.inr (Sum.inr (Sum.inr ()))
/-- phase (true: all made), (cells, slots, kinds of shares, references), ints, longs -/
abbrev z_X : Type := Nat × Nat × (Nat → Nat) × (Nat → Nat → Nat → Option (Nat × Nat))
abbrev z_M : Type := Bool × z_X × (Nat → Nat → Nat → Int32) × (Nat → Nat → Nat → Int64)
abbrev z_C : Type := Nat × Nat × List (Option z_V) × List z_V × z_M
abbrev z_E : Type := Instr × Nat × (Nat × Nat × Nat × Nat) × Int32 × Int64
def z_T0 : u_T := fun k => match k with
  | 0 => ("ShareNets$Share", "kind", "I", true)
  | 1 => ("ShareNets$Share", "number", "I", true)
  | 2 => ("ShareNets$Share", "a", "I", true)
  | _ => ("ShareNets$Share", "b", "I", true)
def z_y0 : Nat → FieldType := fun k => match k with
  | 0 => .int
  | 1 => .int
  | 2 => .int
  | _ => .int
def z_T1 : u_T := fun k => match k with
  | 0 => ("ShareNets$Limit", "weights", "[I", true)
  | 1 => ("ShareNets$Limit", "chances", "[I", true)
  | 2 => ("ShareNets$Limit", "parts", "I", false)
  | 3 => ("ShareNets$Limit", "above", "[J", true)
  | 4 => ("ShareNets$Limit", "partOf", "[I", true)
  | 5 => ("ShareNets$Limit", "dealt", "[I", true)
  | _ => ("ShareNets$Limit", "rests", "[I", true)
def z_y1 : Nat → FieldType := fun k => match k with
  | 0 => (.array .int)
  | 1 => (.array .int)
  | 2 => .int
  | 3 => (.array .long)
  | 4 => (.array .int)
  | 5 => (.array .int)
  | _ => (.array .int)
def z_T2 : u_T := fun k => match k with
  | 0 => ("ShareNets$Net", "roads", "[I", true)
  | _ => ("ShareNets$Net", "size", "I", false)
def z_y2 : Nat → FieldType := fun k => match k with
  | 0 => (.array .int)
  | _ => .int
def z_T3 : u_T := fun k => match k with
  | 0 => ("ShareNets$Share", "kind", "I", true)
  | 1 => ("ShareNets$Share", "number", "I", true)
  | 2 => ("ShareNets$Share", "a", "I", true)
  | _ => ("ShareNets$Share", "b", "I", true)
def z_y3 : Nat → FieldType := fun k => match k with
  | 0 => .int
  | 1 => .int
  | 2 => .int
  | _ => .int
def z_T4 : u_T := fun k => match k with
  | 0 => ("ShareNets$Sheet", "items", "[J", true)
  | 1 => ("ShareNets$Sheet", "sort", "I", false)
  | _ => ("ShareNets$Sheet", "length", "I", false)
def z_y4 : Nat → FieldType := fun k => match k with
  | 0 => (.array .long)
  | 1 => .int
  | _ => .int
def z_T5 : u_T := fun k => match k with
  | 0 => ("ShareNets$Share", "kind", "I", true)
  | 1 => ("ShareNets$Share", "number", "I", true)
  | 2 => ("ShareNets$Share", "a", "I", true)
  | _ => ("ShareNets$Share", "b", "I", true)
def z_y5 : Nat → FieldType := fun k => match k with
  | 0 => .int
  | 1 => .int
  | 2 => .int
  | _ => .int
def z_T6 : u_T := fun k => match k with
  | 0 => ("ShareNets$Share", "kind", "I", true)
  | 1 => ("ShareNets$Share", "number", "I", true)
  | 2 => ("ShareNets$Share", "a", "I", true)
  | _ => ("ShareNets$Share", "b", "I", true)
def z_y6 : Nat → FieldType := fun k => match k with
  | 0 => .int
  | 1 => .int
  | 2 => .int
  | _ => .int
def z_T7 : u_T := fun k => match k with
  | 0 => ("ShareNets$Tally", "counts", "[I", true)
  | _ => ("ShareNets$Tally", "chosen", "[I", true)
def z_y7 : Nat → FieldType := fun k => match k with
  | 0 => (.array .int)
  | _ => (.array .int)
def z_T8 : u_T := fun k => match k with
  | 0 => ("ShareNets$Tape", "told", "LShareNets$Net;", true)
  | 1 => ("ShareNets$Tape", "size", "I", false)
  | 2 => ("ShareNets$Tape", "bytes", "[I", true)
  | 3 => ("ShareNets$Tape", "start", "I", false)
  | _ => ("ShareNets$Tape", "end", "I", false)
def z_y8 : Nat → FieldType := fun k => match k with
  | 0 => (.object "ShareNets$Net")
  | 1 => .int
  | 2 => (.array .int)
  | 3 => .int
  | _ => .int
def z_T9 : u_T := fun k => match k with
  | 0 => ("ShareNets$Trace", "bodies", "[I", true)
  | 1 => ("ShareNets$Trace", "size", "I", false)
  | _ => ("ShareNets$Trace", "partedBy0", "Z", false)
def z_y9 : Nat → FieldType := fun k => match k with
  | 0 => (.array .int)
  | 1 => .int
  | _ => .boolean
def z_T10 : u_T := fun k => match k with
  | 0 => ("ShareNets$World", "nets", "[LShareNets$Net;", true)
  | 1 => ("ShareNets$World", "outs", "[I", true)
  | 2 => ("ShareNets$World", "limit", "LShareNets$Limit;", true)
  | 3 => ("ShareNets$World", "shares", "[LShareNets$Share;", true)
  | 4 => ("ShareNets$World", "weights", "[I", true)
  | 5 => ("ShareNets$World", "sharesHeld", "I", false)
  | _ => ("ShareNets$World", "z", "I", false)
def z_y10 : Nat → FieldType := fun k => match k with
  | 0 => (.array (.object "ShareNets$Net"))
  | 1 => (.array .int)
  | 2 => (.object "ShareNets$Limit")
  | 3 => (.array (.object "ShareNets$Share"))
  | 4 => (.array .int)
  | 5 => .int
  | _ => .int
def z_T11 : u_T := fun k => match k with
  | 0 => ("ShareNets", "now", "LShareNets$World;", true)
  | 1 => ("ShareNets", "kept", "LShareNets$World;", true)
  | 2 => ("ShareNets", "isKept", "Z", false)
  | 3 => ("ShareNets", "tape", "LShareNets$Tape;", true)
  | 4 => ("ShareNets", "latest", "LShareNets$Trace;", true)
  | 5 => ("ShareNets", "rowForms", "[I", true)
  | 6 => ("ShareNets", "rowCounts", "[I", true)
  | 7 => ("ShareNets", "rowsHeld", "I", false)
  | 8 => ("ShareNets", "sheets", "[LShareNets$Sheet;", true)
  | 9 => ("ShareNets", "shelfHolds", "[I", true)
  | 10 => ("ShareNets", "shelfNumbers", "[I", true)
  | 11 => ("ShareNets", "tally", "LShareNets$Tally;", true)
  | 12 => ("ShareNets", "smallTally", "LShareNets$Tally;", true)
  | 13 => ("ShareNets", "small", "LShareNets$Net;", true)
  | 14 => ("ShareNets", "lifted", "[I", true)
  | 15 => ("ShareNets", "order", "[I", true)
  | _ => ("ShareNets", "image", "[I", true)
def z_y11 : Nat → FieldType := fun k => match k with
  | 0 => (.object "ShareNets$World")
  | 1 => (.object "ShareNets$World")
  | 2 => .boolean
  | 3 => (.object "ShareNets$Tape")
  | 4 => (.object "ShareNets$Trace")
  | 5 => (.array .int)
  | 6 => (.array .int)
  | 7 => .int
  | 8 => (.array (.object "ShareNets$Sheet"))
  | 9 => (.array .int)
  | 10 => (.array .int)
  | 11 => (.object "ShareNets$Tally")
  | 12 => (.object "ShareNets$Tally")
  | 13 => (.object "ShareNets$Net")
  | 14 => (.array .int)
  | 15 => (.array .int)
  | _ => (.array .int)
def z_T12 : u_T := fun k => match k with
  | 0 => ("ShareNetsModel", "postsOf", "[I", true)
  | 1 => ("ShareNetsModel", "roads", "[I", true)
  | 2 => ("ShareNetsModel", "outs", "I", false)
  | 3 => ("ShareNetsModel", "out", "[I", true)
  | 4 => ("ShareNetsModel", "parts", "I", false)
  | 5 => ("ShareNetsModel", "weights", "[I", true)
  | 6 => ("ShareNetsModel", "chances", "[I", true)
  | 7 => ("ShareNetsModel", "z", "I", false)
  | 8 => ("ShareNetsModel", "shares", "I", false)
  | 9 => ("ShareNetsModel", "share", "[I", true)
  | 10 => ("ShareNetsModel", "formOf", "[I", true)
  | 11 => ("ShareNetsModel", "forms", "[I", true)
  | 12 => ("ShareNetsModel", "formMany", "[I", true)
  | 13 => ("ShareNetsModel", "tape", "[I", true)
  | 14 => ("ShareNetsModel", "tapeMany", "I", false)
  | 15 => ("ShareNetsModel", "sort", "I", false)
  | 16 => ("ShareNetsModel", "begins", "I", false)
  | 17 => ("ShareNetsModel", "tokenEnds", "I", false)
  | 18 => ("ShareNetsModel", "word", "J", false)
  | 19 => ("ShareNetsModel", "value", "I", false)
  | 20 => ("ShareNetsModel", "good", "Z", false)
  | 21 => ("ShareNetsModel", "freshPosts", "I", false)
  | 22 => ("ShareNetsModel", "fresh", "[I", true)
  | 23 => ("ShareNetsModel", "told", "[I", true)
  | 24 => ("ShareNetsModel", "toldMany", "I", false)
  | 25 => ("ShareNetsModel", "placed", "[I", true)
  | 26 => ("ShareNetsModel", "above", "J", false)
  | 27 => ("ShareNetsModel", "below", "J", false)
  | 28 => ("ShareNetsModel", "little", "[I", true)
  | 29 => ("ShareNetsModel", "drawnParts", "[I", true)
  | 30 => ("ShareNetsModel", "many", "[I", true)
  | 31 => ("ShareNetsModel", "rest", "[I", true)
  | 32 => ("ShareNetsModel", "partOf", "[I", true)
  | 33 => ("ShareNetsModel", "bounds", "[I", true)
  | 34 => ("ShareNetsModel", "bound", "I", false)
  | 35 => ("ShareNetsModel", "heap3", "I", false)
  | 36 => ("ShareNetsModel", "counted", "[I", true)
  | 37 => ("ShareNetsModel", "rowMany", "I", false)
  | 38 => ("ShareNetsModel", "must", "[I", true)
  | 39 => ("ShareNetsModel", "mustMany", "I", false)
  | 40 => ("ShareNetsModel", "sorts", "[I", true)
  | 41 => ("ShareNetsModel", "sizes", "[I", true)
  | 42 => ("ShareNetsModel", "sheets", "[J", true)
  | 43 => ("ShareNetsModel", "held", "[I", true)
  | 44 => ("ShareNetsModel", "heldNumber", "[I", true)
  | 45 => ("ShareNetsModel", "heldSize", "[I", true)
  | 46 => ("ShareNetsModel", "kind", "I", false)
  | 47 => ("ShareNetsModel", "number", "I", false)
  | 48 => ("ShareNetsModel", "own", "I", false)
  | 49 => ("ShareNetsModel", "traced", "[I", true)
  | 50 => ("ShareNetsModel", "bodies", "I", false)
  | 51 => ("ShareNetsModel", "isParted", "Z", false)
  | 52 => ("ShareNetsModel", "isKept", "Z", false)
  | 53 => ("ShareNetsModel", "kept", "[I", true)
  | 54 => ("ShareNetsModel", "movedTo", "I", false)
  | _ => ("ShareNetsModel", "single", "[I", true)
def z_y12 : Nat → FieldType := fun k => match k with
  | 0 => (.array .int)
  | 1 => (.array .int)
  | 2 => .int
  | 3 => (.array .int)
  | 4 => .int
  | 5 => (.array .int)
  | 6 => (.array .int)
  | 7 => .int
  | 8 => .int
  | 9 => (.array .int)
  | 10 => (.array .int)
  | 11 => (.array .int)
  | 12 => (.array .int)
  | 13 => (.array .int)
  | 14 => .int
  | 15 => .int
  | 16 => .int
  | 17 => .int
  | 18 => .long
  | 19 => .int
  | 20 => .boolean
  | 21 => .int
  | 22 => (.array .int)
  | 23 => (.array .int)
  | 24 => .int
  | 25 => (.array .int)
  | 26 => .long
  | 27 => .long
  | 28 => (.array .int)
  | 29 => (.array .int)
  | 30 => (.array .int)
  | 31 => (.array .int)
  | 32 => (.array .int)
  | 33 => (.array .int)
  | 34 => .int
  | 35 => .int
  | 36 => (.array .int)
  | 37 => .int
  | 38 => (.array .int)
  | 39 => .int
  | 40 => (.array .int)
  | 41 => (.array .int)
  | 42 => (.array .long)
  | 43 => (.array .int)
  | 44 => (.array .int)
  | 45 => (.array .int)
  | 46 => .int
  | 47 => .int
  | 48 => .int
  | 49 => (.array .int)
  | 50 => .int
  | 51 => .boolean
  | 52 => .boolean
  | 53 => (.array .int)
  | 54 => .int
  | _ => (.array .int)
def z_cl : List vw_C := [("ShareNets$Law", z_T0, 4), ("ShareNets$Limit", z_T1, 7), ("ShareNets$Net", z_T2, 2), ("ShareNets$Share", z_T3, 4), ("ShareNets$Sheet", z_T4, 3), ("ShareNets$Square", z_T5, 4), ("ShareNets$Sum", z_T6, 4), ("ShareNets$Tally", z_T7, 2), ("ShareNets$Tape", z_T8, 5), ("ShareNets$Trace", z_T9, 3), ("ShareNets$World", z_T10, 7), ("ShareNets", z_T11, 17), ("ShareNetsModel", z_T12, 56)]
def z_tyl : List (Nat → FieldType) := [z_y0, z_y1, z_y2, z_y3, z_y4, z_y5, z_y6, z_y7, z_y8, z_y9, z_y10, z_y11, z_y12]
/-- type codes of the fields: 0 int, 1 long, 2 reference, 3 boolean -/
def z_ftl : List (List Nat) := [[0, 0, 0, 0], [2, 2, 0, 2, 2, 2, 2], [2, 0], [0, 0, 0, 0], [2, 0, 0], [0, 0, 0, 0], [0, 0, 0, 0], [2, 2], [2, 0, 2, 0, 0], [2, 0, 3], [2, 2, 2, 2, 2, 0, 0], [2, 2, 3, 2, 2, 2, 2, 0, 2, 2, 2, 2, 2, 2, 2, 2, 2], [2, 2, 0, 2, 0, 2, 2, 0, 0, 2, 2, 2, 2, 2, 0, 0, 0, 0, 1, 0, 3, 0, 2, 2, 0, 2, 1, 1, 2, 2, 2, 2, 2, 2, 0, 0, 2, 0, 2, 0, 2, 2, 2, 2, 2, 2, 0, 0, 0, 2, 0, 3, 3, 2, 0, 2]]
def z_cn (c : Nat) : String := (["ShareNets$Law", "ShareNets$Limit", "ShareNets$Net", "ShareNets$Share", "ShareNets$Sheet", "ShareNets$Square", "ShareNets$Sum", "ShareNets$Tally", "ShareNets$Tape", "ShareNets$Trace", "ShareNets$World", "ShareNets", "ShareNetsModel"] : List String).getD c ""
def z_stn (k : Nat) : String × String × String := ([("ShareNets", "FORMS", "[I"), ("ShareNets", "FORM_INDEX", "[I"), ("ShareNets", "PAIR_LOW", "[I"), ("ShareNets", "PAIR_HIGH", "[I"), ("java/lang/String", "COMPACT_STRINGS", "Z"), ("jdk/internal/util/Preconditions", "SIOOBE_FORMATTER", "Ljava/util/function/BiFunction;")] : List (String × String × String)).getD k ("", "", "")
def z_stx (k : Nat) : String := (["posts", "all", "ring", "road"] : List String).getD k ""
def z_vt (v c : Nat) : Option Nat := (([[some 1, none, none, some 28, none, some 36, some 28], [some 39, none, none, some 29, none, some 37, some 39], [some 40, none, none, some 30, none, some 40, some 40], [some 2, none, none, some 31, none, some 31, some 31], [none, none, none, none, none, some 40, none]] : List (List (Option Nat))).getD v []).getD c none
def z_vx (v : Nat) : MethodName := ([⟨"ShareNets$Share", "counts", "(ILShareNets$Trace;)I"⟩, ⟨"ShareNets$Share", "joins", "(ILShareNets$Trace;)I"⟩, ⟨"ShareNets$Share", "parts", "(ILShareNets$Trace;)I"⟩, ⟨"ShareNets$Share", "tells", "(ILShareNets$Trace;)I"⟩, ⟨"ShareNets$Square", "parts", "(ILShareNets$Trace;)I"⟩] : List MethodName).getD v ⟨"", "", ""⟩
def z_vo (v : Nat) : Nat := ([28, 29, 30, 31, 40] : List Nat).getD v 0
/-- instanceof: is class c one of class d -/
def z_sub (c d : Nat) : Bool := (([[0, 6, 3], [1], [2], [3], [4], [5, 6, 3], [6, 3], [7], [8], [9], [10], [11], [12]] : List (List Nat)).getD c []).contains d
/-- name, bytes, locals, answer -/
noncomputable def z_mi (y : Nat) : MethodName × ByteArray × Nat × Option FieldType := ((([[(⟨"ShareNets$Law", "<init>", "(III)V"⟩, prog_2_method_1_code, 4, none), (⟨"ShareNets$Law", "counts", "(ILShareNets$Trace;)I"⟩, prog_2_method_2_code, 3, (some .int)), (⟨"ShareNets$Law", "tells", "(ILShareNets$Trace;)I"⟩, prog_2_method_3_code, 3, (some .int)), (⟨"ShareNets$Limit", "<init>", "()V"⟩, prog_3_method_1_code, 1, none), (⟨"ShareNets$Limit", "become", "(LShareNets$Limit;)V"⟩, prog_3_method_2_code, 3, none), (⟨"ShareNets$Limit", "hasPart", "(I)Z"⟩, prog_3_method_3_code, 2, (some .boolean)), (⟨"ShareNets$Limit", "addPart", "(I)I"⟩, prog_3_method_4_code, 4, (some .int)), (⟨"ShareNets$Limit", "chanceOf", "(II)I"⟩, prog_3_method_5_code, 3, (some .int)), (⟨"ShareNets$Limit", "setChance", "(III)V"⟩, prog_3_method_6_code, 4, none), (⟨"ShareNets$Limit", "blowFrom", "(LShareNets$Net;)V"⟩, prog_3_method_7_code, 4, none), (⟨"ShareNets$Limit", "allWeights", "()I"⟩, prog_3_method_8_code, 3, (some .int)), (⟨"ShareNets$Limit", "below", "(I)J"⟩, prog_3_method_9_code, 5, (some .long)), (⟨"ShareNets$Limit", "spread", "(I)V"⟩, prog_3_method_10_code, 3, none), (⟨"ShareNets$Limit", "drawParts", "(IIIIJ)V"⟩, prog_3_method_11_code, 9, none), (⟨"ShareNets$Limit", "drawRoads", "(IIIJ)V"⟩, prog_3_method_12_code, 7, none), (⟨"ShareNets$Limit", "deal", "(I)V"⟩, prog_3_method_13_code, 6, none)], [(⟨"ShareNets$Limit", "dealCut", "(I)I"⟩, prog_3_method_14_code, 5, (some .int)), (⟨"ShareNets$Limit", "greatestRest", "()I"⟩, prog_3_method_15_code, 3, (some .int)), (⟨"ShareNets$Net", "<init>", "()V"⟩, prog_4_method_1_code, 1, none), (⟨"ShareNets$Net", "clear", "(I)V"⟩, prog_4_method_2_code, 3, none), (⟨"ShareNets$Net", "become", "(LShareNets$Net;)V"⟩, prog_4_method_3_code, 3, none), (⟨"ShareNets$Net", "becomeCode", "(II)V"⟩, prog_4_method_4_code, 4, none), (⟨"ShareNets$Net", "hasRoad", "(II)Z"⟩, prog_4_method_5_code, 3, (some .boolean)), (⟨"ShareNets$Net", "setRoad", "(IIZ)V"⟩, prog_4_method_6_code, 4, none), (⟨"ShareNets$Net", "setLesserRoads", "(II)V"⟩, prog_4_method_7_code, 4, none), (⟨"ShareNets$Net", "turnRoads", "()V"⟩, prog_4_method_8_code, 3, none), (⟨"ShareNets$Net", "countRoads", "()I"⟩, prog_4_method_9_code, 3, (some .int)), (⟨"ShareNets$Share", "<init>", "(IIII)V"⟩, prog_5_method_1_code, 5, none), (⟨"ShareNets$Share", "counts", "(ILShareNets$Trace;)I"⟩, prog_5_method_2_code, 3, (some .int)), (⟨"ShareNets$Share", "joins", "(ILShareNets$Trace;)I"⟩, prog_5_method_3_code, 3, (some .int)), (⟨"ShareNets$Share", "parts", "(ILShareNets$Trace;)I"⟩, prog_5_method_4_code, 4, (some .int)), (⟨"ShareNets$Share", "tells", "(ILShareNets$Trace;)I"⟩, prog_5_method_5_code, 3, (some .int))], [(⟨"ShareNets$Sheet", "<init>", "()V"⟩, prog_6_method_1_code, 1, none), (⟨"ShareNets$Sheet", "become", "(II)V"⟩, prog_6_method_2_code, 4, none), (⟨"ShareNets$Sheet", "narrow", "(I)J"⟩, prog_6_method_3_code, 2, (some .long)), (⟨"ShareNets$Square", "<init>", "(III)V"⟩, prog_7_method_1_code, 4, none), (⟨"ShareNets$Square", "counts", "(ILShareNets$Trace;)I"⟩, prog_7_method_2_code, 3, (some .int)), (⟨"ShareNets$Square", "joins", "(ILShareNets$Trace;)I"⟩, prog_7_method_3_code, 3, (some .int)), (⟨"ShareNets$Sum", "<init>", "(IIII)V"⟩, prog_8_method_1_code, 5, none), (⟨"ShareNets$Sum", "joins", "(ILShareNets$Trace;)I"⟩, prog_8_method_2_code, 3, (some .int)), (⟨"ShareNets$Sum", "parts", "(ILShareNets$Trace;)I"⟩, prog_8_method_3_code, 3, (some .int)), (⟨"ShareNets$Tally", "<init>", "()V"⟩, prog_9_method_1_code, 1, none), (⟨"ShareNets$Tally", "take", "(LShareNets$Net;I)V"⟩, prog_9_method_2_code, 4, none), (⟨"ShareNets$Tally", "choose", "(LShareNets$Net;IIII)V"⟩, prog_9_method_3_code, 8, none), (⟨"ShareNets$Tally", "roadBits", "(LShareNets$Net;II)I"⟩, prog_9_method_4_code, 6, (some .int)), (⟨"ShareNets$Tape", "<init>", "()V"⟩, prog_10_method_1_code, 1, none), (⟨"ShareNets$Tape", "takeBytes", "(JI)I"⟩, prog_10_method_2_code, 5, (some .int)), (⟨"ShareNets$Tape", "useUp", "()I"⟩, prog_10_method_3_code, 2, (some .int))], [(⟨"ShareNets$Tape", "isText", "()Z"⟩, prog_10_method_4_code, 3, (some .boolean)), (⟨"ShareNets$Tape", "isPhrase", "()Z"⟩, prog_10_method_5_code, 9, (some .boolean)), (⟨"ShareNets$Tape", "joinPost", "(II)V"⟩, prog_10_method_6_code, 4, none), (⟨"ShareNets$Tape", "goOn", "()V"⟩, prog_10_method_7_code, 2, none), (⟨"ShareNets$Tape", "goesOnAt", "(I)Z"⟩, prog_10_method_8_code, 4, (some .boolean)), (⟨"ShareNets$Tape", "byteAt", "(I)I"⟩, prog_10_method_9_code, 2, (some .int)), (⟨"ShareNets$Tape", "isLetter", "(I)Z"⟩, prog_10_method_10_code, 1, (some .boolean)), (⟨"ShareNets$Tape", "isDigit", "(I)Z"⟩, prog_10_method_11_code, 1, (some .boolean)), (⟨"ShareNets$Tape", "isByte", "(I)Z"⟩, prog_10_method_12_code, 2, (some .boolean)), (⟨"ShareNets$Tape", "isName", "(Ljava/lang/String;)Z"⟩, prog_10_method_13_code, 3, (some .boolean)), (⟨"ShareNets$Tape", "numberAtHand", "()I"⟩, prog_10_method_14_code, 3, (some .int)), (⟨"ShareNets$Trace", "<init>", "()V"⟩, prog_11_method_1_code, 1, none), (⟨"ShareNets$Trace", "clear", "()V"⟩, prog_11_method_2_code, 1, none), (⟨"ShareNets$Trace", "begin", "(I)V"⟩, prog_11_method_3_code, 2, none), (⟨"ShareNets$World", "<init>", "()V"⟩, prog_12_method_1_code, 2, none), (⟨"ShareNets$World", "become", "(LShareNets$World;)V"⟩, prog_12_method_2_code, 3, none)], [(⟨"ShareNets$World", "countOuts", "()I"⟩, prog_12_method_3_code, 3, (some .int)), (⟨"ShareNets$World", "nextNumber", "()I"⟩, prog_12_method_4_code, 1, (some .int)), (⟨"ShareNets", "<init>", "()V"⟩, prog_1_method_1_code, 2, none), (⟨"ShareNets", "feed", "(JI)I"⟩, prog_1_method_2_code, 4, (some .int)), (⟨"ShareNets", "read", "(I)I"⟩, prog_1_method_3_code, 3, (some .int)), (⟨"ShareNets", "posts", "(II)I"⟩, prog_1_method_4_code, 3, (some .int)), (⟨"ShareNets", "road", "(IIIZ)I"⟩, prog_1_method_5_code, 5, (some .int)), (⟨"ShareNets", "netOf", "(II)I"⟩, prog_1_method_6_code, 4, (some .int)), (⟨"ShareNets", "rows", "(II)I"⟩, prog_1_method_7_code, 6, (some .int)), (⟨"ShareNets", "turn", "(I)I"⟩, prog_1_method_8_code, 2, (some .int)), (⟨"ShareNets", "same", "(II)I"⟩, prog_1_method_9_code, 5, (some .int)), (⟨"ShareNets", "form", "(II)I"⟩, prog_1_method_10_code, 3, (some .int)), (⟨"ShareNets", "formAt", "(II)I"⟩, prog_1_method_11_code, 3, (some .int)), (⟨"ShareNets", "count", "(III)I"⟩, prog_1_method_12_code, 5, (some .int)), (⟨"ShareNets", "share", "(IIII)I"⟩, prog_1_method_13_code, 7, (some .int)), (⟨"ShareNets", "lift", "(IIIII)I"⟩, prog_1_method_14_code, 8, (some .int))], [(⟨"ShareNets", "out", "(IIZ)I"⟩, prog_1_method_15_code, 6, (some .int)), (⟨"ShareNets", "free", "(I)I"⟩, prog_1_method_16_code, 2, (some .int)), (⟨"ShareNets", "heap", "(I)I"⟩, prog_1_method_17_code, 2, (some .int)), (⟨"ShareNets", "most", "(III)I"⟩, prog_1_method_18_code, 7, (some .int)), (⟨"ShareNets", "part", "(I)I"⟩, prog_1_method_19_code, 2, (some .int)), (⟨"ShareNets", "chance", "(III)I"⟩, prog_1_method_20_code, 6, (some .int)), (⟨"ShareNets", "bare", "()I"⟩, prog_1_method_21_code, 2, (some .int)), (⟨"ShareNets", "at", "(III)J"⟩, prog_1_method_22_code, 5, (some .long)), (⟨"ShareNets", "freeAt", "()I"⟩, prog_1_method_23_code, 1, (some .int)), (⟨"ShareNets", "blow", "(I)I"⟩, prog_1_method_24_code, 2, (some .int)), (⟨"ShareNets", "near", "(II)I"⟩, prog_1_method_25_code, 7, (some .int)), (⟨"ShareNets", "mixed", "(II)I"⟩, prog_1_method_26_code, 6, (some .int)), (⟨"ShareNets", "draw", "(II)I"⟩, prog_1_method_27_code, 8, (some .int)), (⟨"ShareNets", "seed", "(I)I"⟩, prog_1_method_28_code, 3, (some .int)), (⟨"ShareNets", "add", "(III)I"⟩, prog_1_method_29_code, 5, (some .int)), (⟨"ShareNets", "shareOf", "(II)I"⟩, prog_1_method_30_code, 4, (some .int))], [(⟨"ShareNets", "weight", "(II)I"⟩, prog_1_method_31_code, 4, (some .int)), (⟨"ShareNets", "gives", "(II)J"⟩, prog_1_method_32_code, 3, (some .long)), (⟨"ShareNets", "value", "(III)J"⟩, prog_1_method_33_code, 7, (some .long)), (⟨"ShareNets", "valueAt", "(II)J"⟩, prog_1_method_34_code, 6, (some .long)), (⟨"ShareNets", "bound", "(III)J"⟩, prog_1_method_35_code, 5, (some .long)), (⟨"ShareNets", "slack", "(IIII)J"⟩, prog_1_method_36_code, 6, (some .long)), (⟨"ShareNets", "tight", "(II)I"⟩, prog_1_method_37_code, 7, (some .int)), (⟨"ShareNets", "met", "(II)I"⟩, prog_1_method_38_code, 7, (some .int)), (⟨"ShareNets", "prove", "(II)I"⟩, prog_1_method_39_code, 4, (some .int)), (⟨"ShareNets", "row", "(II)I"⟩, prog_1_method_40_code, 3, (some .int)), (⟨"ShareNets", "alterRow", "(III)I"⟩, prog_1_method_41_code, 6, (some .int)), (⟨"ShareNets", "judge", "(II)I"⟩, prog_1_method_42_code, 5, (some .int)), (⟨"ShareNets", "sheet", "(III)I"⟩, prog_1_method_43_code, 4, (some .int)), (⟨"ShareNets", "put", "(III)I"⟩, prog_1_method_44_code, 5, (some .int)), (⟨"ShareNets", "item", "(III)I"⟩, prog_1_method_45_code, 5, (some .int)), (⟨"ShareNets", "shelf", "(III)I"⟩, prog_1_method_46_code, 5, (some .int))], [(⟨"ShareNets", "taken", "(II)I"⟩, prog_1_method_47_code, 5, (some .int)), (⟨"ShareNets", "act", "(III)I"⟩, prog_1_method_48_code, 6, (some .int)), (⟨"ShareNets", "trace", "(I)I"⟩, prog_1_method_49_code, 2, (some .int)), (⟨"ShareNets", "many", "(I)I"⟩, prog_1_method_50_code, 2, (some .int)), (⟨"ShareNets", "keep", "()I"⟩, prog_1_method_51_code, 1, (some .int)), (⟨"ShareNets", "again", "()I"⟩, prog_1_method_52_code, 1, (some .int)), (⟨"ShareNets", "isNet", "(I)Z"⟩, prog_1_method_53_code, 1, (some .boolean)), (⟨"ShareNets", "isPost", "(II)Z"⟩, prog_1_method_54_code, 3, (some .boolean)), (⟨"ShareNets", "isShare", "(I)Z"⟩, prog_1_method_55_code, 2, (some .boolean)), (⟨"ShareNets", "isFractionPart", "(I)Z"⟩, prog_1_method_56_code, 1, (some .boolean)), (⟨"ShareNets", "isSheet", "(I)Z"⟩, prog_1_method_57_code, 1, (some .boolean)), (⟨"ShareNets", "isSort", "(I)Z"⟩, prog_1_method_58_code, 1, (some .boolean)), (⟨"ShareNets", "isShelf", "(I)Z"⟩, prog_1_method_59_code, 1, (some .boolean)), (⟨"ShareNets", "isInRow", "(II)Z"⟩, prog_1_method_60_code, 3, (some .boolean)), (⟨"ShareNets", "pairsOf", "(I)I"⟩, prog_1_method_61_code, 1, (some .int)), (⟨"ShareNets", "formsOf", "(I)I"⟩, prog_1_method_62_code, 1, (some .int))], [(⟨"ShareNets", "indexOfForm", "(II)I"⟩, prog_1_method_63_code, 3, (some .int)), (⟨"ShareNets", "isBoundForm", "(II)Z"⟩, prog_1_method_64_code, 2, (some .boolean)), (⟨"ShareNets", "setsOf", "(II)I"⟩, prog_1_method_65_code, 4, (some .int)), (⟨"ShareNets", "partOfFraction", "(JJI)J"⟩, prog_1_method_66_code, 7, (some .long)), (⟨"ShareNets", "commonDivisor", "(JJ)J"⟩, prog_1_method_67_code, 11, (some .long)), (⟨"ShareNets", "bitAtPlace", "(II)I"⟩, prog_1_method_68_code, 4, (some .int)), (⟨"ShareNets", "orderPosts", "(LShareNets$Net;)V"⟩, prog_1_method_69_code, 9, none), (⟨"ShareNets", "canMatch", "(LShareNets$Net;LShareNets$Net;II)Z"⟩, prog_1_method_70_code, 8, (some .boolean)), (⟨"ShareNets", "imageOfRoads", "(II)I"⟩, prog_1_method_71_code, 5, (some .int)), (⟨"ShareNets", "isFreeNet", "(LShareNets$Net;)Z"⟩, prog_1_method_72_code, 3, (some .boolean)), (⟨"ShareNets", "holdsOut", "(I)Z"⟩, prog_1_method_73_code, 3, (some .boolean)), (⟨"ShareNets", "freeForms", "(I)I"⟩, prog_1_method_74_code, 4, (some .int)), (⟨"ShareNets", "countInForm", "(IIII)I"⟩, prog_1_method_75_code, 5, (some .int)), (⟨"ShareNets", "mostInForms", "(IIII)I"⟩, prog_1_method_76_code, 7, (some .int)), (⟨"ShareNets", "mostInFive", "(III)I"⟩, prog_1_method_77_code, 7, (some .int)), (⟨"ShareNets", "countInFive", "(II)I"⟩, prog_1_method_78_code, 5, (some .int))], [(⟨"ShareNets", "isFreeLimit", "()Z"⟩, prog_1_method_79_code, 3, (some .boolean)), (⟨"ShareNets", "happens", "(I)Z"⟩, prog_1_method_80_code, 2, (some .boolean)), (⟨"ShareNets", "isShareTold", "(III)Z"⟩, prog_1_method_81_code, 3, (some .boolean)), (⟨"ShareNets", "makeShare", "(IIII)LShareNets$Share;"⟩, prog_1_method_82_code, 4, (some (.object "ShareNets$Share"))), (⟨"ShareNets", "thirdsGiven", "(LShareNets$Share;I)I"⟩, prog_1_method_83_code, 2, (some .int)), (⟨"ShareNets", "thirdsOfLift", "(III)I"⟩, prog_1_method_84_code, 3, (some .int)), (⟨"ShareNets", "thirdsOfSquare", "(III)I"⟩, prog_1_method_85_code, 6, (some .int)), (⟨"ShareNets", "digitAt", "(II)I"⟩, prog_1_method_86_code, 4, (some .int)), (⟨"ShareNets", "height", "(III)I"⟩, prog_1_method_87_code, 6, (some .int)), (⟨"ShareNets", "greatestHeight", "(III)I"⟩, prog_1_method_88_code, 6, (some .int)), (⟨"ShareNets", "fillShelf", "(III)I"⟩, prog_1_method_89_code, 4, (some .int)), (⟨"ShareNets", "shareOn", "(I)LShareNets$Share;"⟩, prog_1_method_90_code, 2, (some (.object "ShareNets$Share"))), (⟨"ShareNets", "isOfKind", "(LShareNets$Share;I)Z"⟩, prog_1_method_91_code, 2, (some .boolean)), (⟨"ShareNetsModel", "<init>", "()V"⟩, prog_14_method_1_code, 6, none), (⟨"ShareNetsModel", "in", "(III)Z"⟩, prog_14_method_2_code, 3, (some .boolean)), (⟨"ShareNetsModel", "pairsOf", "(I)I"⟩, prog_14_method_3_code, 1, (some .int))], [(⟨"ShareNetsModel", "bitOf", "(II)I"⟩, prog_14_method_4_code, 2, (some .int)), (⟨"ShareNetsModel", "ordered", "(III)I"⟩, prog_14_method_5_code, 7, (some .int)), (⟨"ShareNetsModel", "isNet", "(I)Z"⟩, prog_14_method_6_code, 1, (some .boolean)), (⟨"ShareNetsModel", "isSide", "(I)Z"⟩, prog_14_method_7_code, 1, (some .boolean)), (⟨"ShareNetsModel", "isPost", "(II)Z"⟩, prog_14_method_8_code, 3, (some .boolean)), (⟨"ShareNetsModel", "isCode", "(II)Z"⟩, prog_14_method_9_code, 2, (some .boolean)), (⟨"ShareNetsModel", "isForm", "(II)Z"⟩, prog_14_method_10_code, 3, (some .boolean)), (⟨"ShareNetsModel", "isRoad", "(III)Z"⟩, prog_14_method_11_code, 4, (some .boolean)), (⟨"ShareNetsModel", "setRoad", "(IIIZ)V"⟩, prog_14_method_12_code, 5, none), (⟨"ShareNetsModel", "clear", "(II)V"⟩, prog_14_method_13_code, 4, none), (⟨"ShareNetsModel", "ones", "(I)I"⟩, prog_14_method_14_code, 3, (some .int)), (⟨"ShareNetsModel", "roadsOf", "(I)I"⟩, prog_14_method_15_code, 4, (some .int)), (⟨"ShareNetsModel", "feed", "(JI)I"⟩, prog_14_method_16_code, 5, (some .int)), (⟨"ShareNetsModel", "byteAt", "(I)I"⟩, prog_14_method_17_code, 2, (some .int)), (⟨"ShareNetsModel", "isLetter", "(I)Z"⟩, prog_14_method_18_code, 1, (some .boolean)), (⟨"ShareNetsModel", "isDigit", "(I)Z"⟩, prog_14_method_19_code, 1, (some .boolean))], [(⟨"ShareNetsModel", "advance", "()V"⟩, prog_14_method_20_code, 2, none), (⟨"ShareNetsModel", "isWord", "(J)Z"⟩, prog_14_method_21_code, 3, (some .boolean)), (⟨"ShareNetsModel", "wantNumber", "(II)I"⟩, prog_14_method_22_code, 4, (some .int)), (⟨"ShareNetsModel", "wantEnd", "()V"⟩, prog_14_method_23_code, 1, none), (⟨"ShareNetsModel", "freshRoad", "(II)V"⟩, prog_14_method_24_code, 3, none), (⟨"ShareNetsModel", "wantPost", "()V"⟩, prog_14_method_25_code, 3, none), (⟨"ShareNetsModel", "wantClause", "(I)V"⟩, prog_14_method_26_code, 6, none), (⟨"ShareNetsModel", "read", "(I)I"⟩, prog_14_method_27_code, 3, (some .int)), (⟨"ShareNetsModel", "posts", "(II)I"⟩, prog_14_method_28_code, 3, (some .int)), (⟨"ShareNetsModel", "road", "(IIIZ)I"⟩, prog_14_method_29_code, 6, (some .int)), (⟨"ShareNetsModel", "netOf", "(II)I"⟩, prog_14_method_30_code, 3, (some .int)), (⟨"ShareNetsModel", "rows", "(II)I"⟩, prog_14_method_31_code, 6, (some .int)), (⟨"ShareNetsModel", "turn", "(I)I"⟩, prog_14_method_32_code, 3, (some .int)), (⟨"ShareNetsModel", "mayBe", "(III)Z"⟩, prog_14_method_33_code, 5, (some .boolean)), (⟨"ShareNetsModel", "same", "(II)I"⟩, prog_14_method_34_code, 5, (some .int)), (⟨"ShareNetsModel", "form", "(II)I"⟩, prog_14_method_35_code, 3, (some .int))], [(⟨"ShareNetsModel", "formAt", "(II)I"⟩, prog_14_method_36_code, 3, (some .int)), (⟨"ShareNetsModel", "formIn", "([III)I"⟩, prog_14_method_37_code, 9, (some .int)), (⟨"ShareNetsModel", "countIn", "([IIIII)I"⟩, prog_14_method_38_code, 8, (some .int)), (⟨"ShareNetsModel", "waysOf", "(II)I"⟩, prog_14_method_39_code, 4, (some .int)), (⟨"ShareNetsModel", "countOf", "(III)I"⟩, prog_14_method_40_code, 4, (some .int)), (⟨"ShareNetsModel", "count", "(III)I"⟩, prog_14_method_41_code, 4, (some .int)), (⟨"ShareNetsModel", "lowest", "(JJ)V"⟩, prog_14_method_42_code, 11, none), (⟨"ShareNetsModel", "told", "(I)J"⟩, prog_14_method_43_code, 2, (some .long)), (⟨"ShareNetsModel", "share", "(IIII)I"⟩, prog_14_method_44_code, 5, (some .int)), (⟨"ShareNetsModel", "layLittle", "(II)V"⟩, prog_14_method_45_code, 5, none), (⟨"ShareNetsModel", "countLittle", "(IIII)I"⟩, prog_14_method_46_code, 5, (some .int)), (⟨"ShareNetsModel", "lift", "(IIIII)I"⟩, prog_14_method_47_code, 6, (some .int)), (⟨"ShareNetsModel", "outAt", "(II)I"⟩, prog_14_method_48_code, 4, (some .int)), (⟨"ShareNetsModel", "out", "(IIZ)I"⟩, prog_14_method_49_code, 5, (some .int)), (⟨"ShareNetsModel", "isFreeIn", "([III)Z"⟩, prog_14_method_50_code, 5, (some .boolean)), (⟨"ShareNetsModel", "free", "(I)I"⟩, prog_14_method_51_code, 2, (some .int))], [(⟨"ShareNetsModel", "heapOf", "(I)I"⟩, prog_14_method_52_code, 4, (some .int)), (⟨"ShareNetsModel", "heap", "(I)I"⟩, prog_14_method_53_code, 2, (some .int)), (⟨"ShareNetsModel", "most", "(III)I"⟩, prog_14_method_54_code, 7, (some .int)), (⟨"ShareNetsModel", "part", "(I)I"⟩, prog_14_method_55_code, 3, (some .int)), (⟨"ShareNetsModel", "chance", "(III)I"⟩, prog_14_method_56_code, 5, (some .int)), (⟨"ShareNetsModel", "bare", "()I"⟩, prog_14_method_57_code, 2, (some .int)), (⟨"ShareNetsModel", "weightsInAll", "()I"⟩, prog_14_method_58_code, 3, (some .int)), (⟨"ShareNetsModel", "oftenOf", "(II)J"⟩, prog_14_method_59_code, 8, (some .long)), (⟨"ShareNetsModel", "atOf", "(II)J"⟩, prog_14_method_60_code, 11, (some .long)), (⟨"ShareNetsModel", "allOf", "(I)J"⟩, prog_14_method_61_code, 5, (some .long)), (⟨"ShareNetsModel", "at", "(III)J"⟩, prog_14_method_62_code, 4, (some .long)), (⟨"ShareNetsModel", "isFreeLimit", "()Z"⟩, prog_14_method_63_code, 2, (some .boolean)), (⟨"ShareNetsModel", "freeAt", "()I"⟩, prog_14_method_64_code, 1, (some .int)), (⟨"ShareNetsModel", "blow", "(I)I"⟩, prog_14_method_65_code, 4, (some .int)), (⟨"ShareNetsModel", "lot", "()I"⟩, prog_14_method_66_code, 1, (some .int)), (⟨"ShareNetsModel", "shareOut", "(I)V"⟩, prog_14_method_67_code, 6, none)], [(⟨"ShareNetsModel", "near", "(II)I"⟩, prog_14_method_68_code, 8, (some .int)), (⟨"ShareNetsModel", "mixed", "(II)I"⟩, prog_14_method_69_code, 5, (some .int)), (⟨"ShareNetsModel", "draw", "(II)I"⟩, prog_14_method_70_code, 7, (some .int)), (⟨"ShareNetsModel", "seed", "(I)I"⟩, prog_14_method_71_code, 3, (some .int)), (⟨"ShareNetsModel", "isShare", "(I)Z"⟩, prog_14_method_72_code, 2, (some .boolean)), (⟨"ShareNetsModel", "its", "(II)I"⟩, prog_14_method_73_code, 3, (some .int)), (⟨"ShareNetsModel", "add", "(III)I"⟩, prog_14_method_74_code, 5, (some .int)), (⟨"ShareNetsModel", "shareOf", "(II)I"⟩, prog_14_method_75_code, 3, (some .int)), (⟨"ShareNetsModel", "weight", "(II)I"⟩, prog_14_method_76_code, 4, (some .int)), (⟨"ShareNetsModel", "givesOf", "(II)I"⟩, prog_14_method_77_code, 11, (some .int)), (⟨"ShareNetsModel", "gives", "(II)J"⟩, prog_14_method_78_code, 3, (some .long)), (⟨"ShareNetsModel", "value", "(III)J"⟩, prog_14_method_79_code, 7, (some .long)), (⟨"ShareNetsModel", "valueAt", "(II)J"⟩, prog_14_method_80_code, 6, (some .long)), (⟨"ShareNetsModel", "findBound", "(II)Z"⟩, prog_14_method_81_code, 5, (some .boolean)), (⟨"ShareNetsModel", "isBound", "(II)Z"⟩, prog_14_method_82_code, 3, (some .boolean)), (⟨"ShareNetsModel", "bound", "(III)J"⟩, prog_14_method_83_code, 4, (some .long))], [(⟨"ShareNetsModel", "slack", "(IIII)J"⟩, prog_14_method_84_code, 5, (some .long)), (⟨"ShareNetsModel", "tight", "(II)I"⟩, prog_14_method_85_code, 5, (some .int)), (⟨"ShareNetsModel", "met", "(II)I"⟩, prog_14_method_86_code, 3, (some .int)), (⟨"ShareNetsModel", "findRows", "(II)V"⟩, prog_14_method_87_code, 5, none), (⟨"ShareNetsModel", "prove", "(II)I"⟩, prog_14_method_88_code, 4, (some .int)), (⟨"ShareNetsModel", "isRow", "(II)Z"⟩, prog_14_method_89_code, 3, (some .boolean)), (⟨"ShareNetsModel", "row", "(II)I"⟩, prog_14_method_90_code, 3, (some .int)), (⟨"ShareNetsModel", "alterRow", "(III)I"⟩, prog_14_method_91_code, 5, (some .int)), (⟨"ShareNetsModel", "judge", "(II)I"⟩, prog_14_method_92_code, 4, (some .int)), (⟨"ShareNetsModel", "isShelf", "(I)Z"⟩, prog_14_method_93_code, 1, (some .boolean)), (⟨"ShareNetsModel", "sheet", "(III)I"⟩, prog_14_method_94_code, 5, (some .int)), (⟨"ShareNetsModel", "put", "(III)I"⟩, prog_14_method_95_code, 4, (some .int)), (⟨"ShareNetsModel", "lacksSort", "(II)I"⟩, prog_14_method_96_code, 3, (some .int)), (⟨"ShareNetsModel", "item", "(III)I"⟩, prog_14_method_97_code, 5, (some .int)), (⟨"ShareNetsModel", "isHeld", "(II)Z"⟩, prog_14_method_98_code, 3, (some .boolean)), (⟨"ShareNetsModel", "shelf", "(III)I"⟩, prog_14_method_99_code, 4, (some .int))], [(⟨"ShareNetsModel", "kindOn", "(I)I"⟩, prog_14_method_100_code, 2, (some .int)), (⟨"ShareNetsModel", "isUnder", "(II)Z"⟩, prog_14_method_101_code, 2, (some .boolean)), (⟨"ShareNetsModel", "taken", "(II)I"⟩, prog_14_method_102_code, 4, (some .int)), (⟨"ShareNetsModel", "ran", "(I)V"⟩, prog_14_method_103_code, 2, none), (⟨"ShareNetsModel", "countsIt", "(I)I"⟩, prog_14_method_104_code, 4, (some .int)), (⟨"ShareNetsModel", "plainJoins", "(I)I"⟩, prog_14_method_105_code, 2, (some .int)), (⟨"ShareNetsModel", "sumJoins", "(I)I"⟩, prog_14_method_106_code, 2, (some .int)), (⟨"ShareNetsModel", "joinsIt", "(I)I"⟩, prog_14_method_107_code, 3, (some .int)), (⟨"ShareNetsModel", "plainParts", "(I)I"⟩, prog_14_method_108_code, 2, (some .int)), (⟨"ShareNetsModel", "partsIt", "(I)I"⟩, prog_14_method_109_code, 2, (some .int)), (⟨"ShareNetsModel", "plainTells", "(I)I"⟩, prog_14_method_110_code, 2, (some .int)), (⟨"ShareNetsModel", "tellsIt", "(I)I"⟩, prog_14_method_111_code, 2, (some .int)), (⟨"ShareNetsModel", "act", "(III)I"⟩, prog_14_method_112_code, 6, (some .int)), (⟨"ShareNetsModel", "trace", "(I)I"⟩, prog_14_method_113_code, 2, (some .int)), (⟨"ShareNetsModel", "many", "(I)I"⟩, prog_14_method_114_code, 2, (some .int)), (⟨"ShareNetsModel", "move", "([IIZ)V"⟩, prog_14_method_115_code, 5, none)], [(⟨"ShareNetsModel", "moveAll", "(Z)V"⟩, prog_14_method_116_code, 2, none), (⟨"ShareNetsModel", "keep", "()I"⟩, prog_14_method_117_code, 1, (some .int)), (⟨"ShareNetsModel", "again", "()I"⟩, prog_14_method_118_code, 1, (some .int)), (⟨"java/lang/Integer", "bitCount", "(I)I"⟩, prog_15_method_49_code, 1, (some .int)), (⟨"java/lang/Math", "abs", "(J)J"⟩, prog_16_method_61_code, 2, (some .long)), (⟨"java/lang/Math", "max", "(II)I"⟩, prog_16_method_65_code, 2, (some .int)), (⟨"java/lang/String", "length", "()I"⟩, prog_17_method_54_code, 1, (some .int)), (⟨"java/lang/String", "charAt", "(I)C"⟩, prog_17_method_56_code, 2, (some .char)), (⟨"java/lang/String", "coder", "()B"⟩, prog_17_method_152_code, 1, (some .byte)), (⟨"java/lang/String", "isLatin1", "()Z"⟩, prog_17_method_154_code, 1, (some .boolean)), (⟨"java/lang/String", "checkIndex", "(II)V"⟩, prog_17_method_155_code, 2, none), (⟨"java/lang/StringLatin1", "charAt", "([BI)C"⟩, prog_18_method_2_code, 2, (some .char)), (⟨"jdk/internal/util/Preconditions", "checkIndex", "(IILjava/util/function/BiFunction;)I"⟩, prog_20_method_11_code, 3, (some .int)), (⟨"ShareNetsLaw", "law", "([I)Z"⟩, code, 4, (some .boolean))]] : List (List (MethodName × ByteArray × Nat × Option FieldType))).getD (y / 16) []).getD (y % 16) (⟨"", "", ""⟩, ⟨#[]⟩, 0, none))
def z_ml (y : Nat) : Nat := ((([[4, 3, 3, 1, 3, 2, 4, 3, 4, 4, 3, 5, 3, 9, 7, 6], [5, 3, 1, 3, 3, 4, 3, 4, 4, 3, 3, 5, 3, 3, 4, 3], [1, 4, 2, 4, 3, 3, 5, 3, 3, 1, 4, 8, 6, 1, 5, 2], [3, 9, 4, 2, 4, 2, 1, 1, 2, 3, 3, 1, 1, 2, 2, 3], [3, 1, 2, 4, 3, 3, 5, 4, 6, 2, 5, 3, 3, 5, 7, 8], [6, 2, 2, 7, 2, 6, 2, 5, 1, 2, 7, 6, 8, 3, 5, 4], [4, 3, 7, 6, 5, 6, 7, 7, 4, 3, 6, 5, 4, 5, 5, 5], [5, 6, 2, 2, 1, 1, 1, 3, 2, 1, 1, 1, 1, 3, 1, 1], [3, 2, 4, 7, 11, 4, 9, 8, 5, 3, 3, 4, 5, 7, 7, 5], [3, 2, 3, 4, 2, 3, 6, 4, 6, 6, 4, 2, 2, 6, 3, 1], [2, 7, 1, 1, 3, 2, 3, 4, 5, 4, 3, 4, 5, 2, 1, 1], [2, 3, 4, 1, 3, 3, 6, 3, 3, 6, 3, 6, 3, 5, 5, 3], [3, 9, 8, 4, 4, 4, 11, 2, 5, 5, 5, 6, 4, 5, 5, 2], [4, 2, 7, 3, 5, 2, 3, 8, 11, 5, 4, 2, 1, 4, 1, 6], [8, 5, 7, 3, 2, 3, 5, 3, 4, 11, 3, 7, 6, 5, 3, 4], [5, 5, 3, 5, 4, 3, 3, 5, 4, 1, 5, 4, 3, 5, 3, 4], [2, 2, 4, 2, 4, 2, 2, 3, 2, 2, 2, 2, 6, 2, 2, 5], [2, 1, 1, 1, 2, 2, 1, 2, 1, 1, 2, 2, 3, 4]] : List (List Nat)).getD (y / 16) []).getD (y % 16) 0)
end
section
-- ShareNets$Law.<init>(III)V
set_option maxRecDepth 100000 in
noncomputable def z_k0 : List (Nat × List (Nat × z_E)) := [(1000000, [(0, .aload_n 0, 1, (0, 0, 0, 0), 0, 0), (1, .iconst 3, 1, (0, 0, 0, 0), 3, 0), (2, .iload_n 1, 1, (1, 0, 0, 0), 0, 0), (3, .iload_n 2, 1, (2, 0, 0, 0), 0, 0), (4, .iload_n 3, 1, (3, 0, 0, 0), 0, 0), (5, .invokespecial 3, 3, (38, 2, 4, 0), 0, 0), (8, .return_, 1, (0, 0, 0, 0), 0, 0)])]
-- ShareNets$Law.counts(ILShareNets$Trace;)I
set_option maxRecDepth 100000 in
noncomputable def z_k1 : List (Nat × List (Nat × z_E)) := [(1000000, [(0, .aload_n 2, 1, (2, 0, 0, 0), 0, 0), (1, .bipush 40, 2, (0, 0, 0, 0), 40, 0), (3, .invokevirtual 9, 3, (61, 4, 1, 0), 0, 0), (6, .iconst 0, 1, (0, 0, 0, 0), 0, 0), (7, .aload_n 0, 1, (0, 0, 0, 0), 0, 0), (8, .iload_n 1, 1, (1, 0, 0, 0), 0, 0), (9, .aload_n 2, 1, (2, 0, 0, 0), 0, 0), (10, .invokespecial 15, 3, (28, 7, 2, 6), 0, 0), (13, .isub, 1, (0, 0, 0, 0), 0, 0), (14, .ireturn, 1, (0, 0, 0, 0), 0, 0)])]
-- ShareNets$Law.tells(ILShareNets$Trace;)I
set_option maxRecDepth 100000 in
noncomputable def z_k2 : List (Nat × List (Nat × z_E)) := [(1000000, [(0, .aload_n 2, 1, (2, 0, 0, 0), 0, 0), (1, .bipush 41, 2, (0, 0, 0, 0), 41, 0), (3, .invokevirtual 9, 3, (61, 4, 1, 0), 0, 0), (6, .aload_n 0, 1, (0, 0, 0, 0), 0, 0), (7, .iload_n 1, 1, (1, 0, 0, 0), 0, 0), (8, .aload_n 2, 1, (2, 0, 0, 0), 0, 0), (9, .invokespecial 19, 3, (31, 7, 2, 6), 0, 0), (12, .iconst 2, 1, (0, 0, 0, 0), 2, 0), (13, .imul, 1, (0, 0, 0, 0), 0, 0), (14, .ireturn, 1, (0, 0, 0, 0), 0, 0)])]
-- ShareNets$Limit.<init>()V
set_option maxRecDepth 100000 in
noncomputable def z_k3 : List (Nat × List (Nat × z_E)) := [(44, [(0, .aload_n 0, 1, (0, 0, 0, 0), 0, 0), (1, .invokespecial 3, 3, (0, 9, 0, 0), 0, 0), (4, .aload_n 0, 1, (0, 0, 0, 0), 0, 0), (5, .iconst 5, 1, (0, 0, 0, 0), 5, 0), (6, .newarray .int, 2, (0, 0, 0, 0), 0, 0), (8, .putfield 9, 3, (0, 2, 1, 0), 0, 0), (11, .aload_n 0, 1, (0, 0, 0, 0), 0, 0), (12, .bipush 25, 2, (0, 0, 0, 0), 25, 0), (14, .newarray .int, 2, (0, 0, 0, 0), 0, 0), (16, .putfield 15, 3, (1, 2, 1, 0), 0, 0), (19, .aload_n 0, 1, (0, 0, 0, 0), 0, 0), (20, .iconst 0, 1, (0, 0, 0, 0), 0, 0), (21, .putfield 18, 3, (2, 0, 1, 0), 0, 0), (24, .aload_n 0, 1, (0, 0, 0, 0), 0, 0), (25, .bipush 11, 2, (0, 0, 0, 0), 11, 0), (27, .newarray .long, 2, (1, 0, 0, 0), 0, 0), (29, .putfield 22, 3, (3, 2, 1, 0), 0, 0), (32, .aload_n 0, 1, (0, 0, 0, 0), 0, 0), (33, .bipush 10, 2, (0, 0, 0, 0), 10, 0), (35, .newarray .int, 2, (0, 0, 0, 0), 0, 0), (37, .putfield 26, 3, (4, 2, 1, 0), 0, 0), (40, .aload_n 0, 1, (0, 0, 0, 0), 0, 0), (41, .iconst 5, 1, (0, 0, 0, 0), 5, 0), (42, .newarray .int, 2, (0, 0, 0, 0), 0, 0)]),
  (1000000, [(44, .putfield 29, 3, (5, 2, 1, 0), 0, 0), (47, .aload_n 0, 1, (0, 0, 0, 0), 0, 0), (48, .iconst 5, 1, (0, 0, 0, 0), 5, 0), (49, .newarray .int, 2, (0, 0, 0, 0), 0, 0), (51, .putfield 32, 3, (6, 2, 1, 0), 0, 0), (54, .return_, 1, (0, 0, 0, 0), 0, 0)])]
-- ShareNets$Limit.become(LShareNets$Limit;)V
set_option maxRecDepth 100000 in
noncomputable def z_k4 : List (Nat × List (Nat × z_E)) := [(40, [(0, .aload_n 0, 1, (0, 0, 0, 0), 0, 0), (1, .aload_n 1, 1, (1, 0, 0, 0), 0, 0), (2, .getfield 18, 3, (2, 0, 1, 0), 0, 0), (5, .putfield 18, 3, (2, 0, 1, 0), 0, 0), (8, .iconst 0, 1, (0, 0, 0, 0), 0, 0), (9, .istore_n 2, 1, (2, 0, 0, 0), 0, 0), (10, .iload_n 2, 1, (2, 0, 0, 0), 0, 0), (11, .aload_n 0, 1, (0, 0, 0, 0), 0, 0), (12, .getfield 9, 3, (0, 2, 1, 0), 0, 0), (15, .arraylength, 1, (0, 0, 0, 0), 0, 0), (16, .if_icmp .ge 21, 3, (37, 0, 0, 0), 0, 0), (19, .aload_n 0, 1, (0, 0, 0, 0), 0, 0), (20, .getfield 9, 3, (0, 2, 1, 0), 0, 0), (23, .iload_n 2, 1, (2, 0, 0, 0), 0, 0), (24, .aload_n 1, 1, (1, 0, 0, 0), 0, 0), (25, .getfield 9, 3, (0, 2, 1, 0), 0, 0), (28, .iload_n 2, 1, (2, 0, 0, 0), 0, 0), (29, .iaload, 1, (0, 0, 0, 0), 0, 0), (30, .iastore, 1, (0, 0, 0, 0), 0, 0), (31, .iinc 2 1, 3, (2, 0, 0, 0), 1, 0), (34, .goto (-24), 3, (10, 0, 0, 0), 0, 0), (37, .iconst 0, 1, (0, 0, 0, 0), 0, 0), (38, .istore_n 2, 1, (2, 0, 0, 0), 0, 0), (39, .iload_n 2, 1, (2, 0, 0, 0), 0, 0)]),
  (1000000, [(40, .aload_n 0, 1, (0, 0, 0, 0), 0, 0), (41, .getfield 15, 3, (1, 2, 1, 0), 0, 0), (44, .arraylength, 1, (0, 0, 0, 0), 0, 0), (45, .if_icmp .ge 21, 3, (66, 0, 0, 0), 0, 0), (48, .aload_n 0, 1, (0, 0, 0, 0), 0, 0), (49, .getfield 15, 3, (1, 2, 1, 0), 0, 0), (52, .iload_n 2, 1, (2, 0, 0, 0), 0, 0), (53, .aload_n 1, 1, (1, 0, 0, 0), 0, 0), (54, .getfield 15, 3, (1, 2, 1, 0), 0, 0), (57, .iload_n 2, 1, (2, 0, 0, 0), 0, 0), (58, .iaload, 1, (0, 0, 0, 0), 0, 0), (59, .iastore, 1, (0, 0, 0, 0), 0, 0), (60, .iinc 2 1, 3, (2, 0, 0, 0), 1, 0), (63, .goto (-24), 3, (39, 0, 0, 0), 0, 0), (66, .return_, 1, (0, 0, 0, 0), 0, 0)])]
-- ShareNets$Limit.hasPart(I)Z
set_option maxRecDepth 100000 in
noncomputable def z_k5 : List (Nat × List (Nat × z_E)) := [(1000000, [(0, .iload_n 1, 1, (1, 0, 0, 0), 0, 0), (1, .ifCond .lt 15, 3, (16, 0, 0, 0), 0, 0), (4, .iload_n 1, 1, (1, 0, 0, 0), 0, 0), (5, .aload_n 0, 1, (0, 0, 0, 0), 0, 0), (6, .getfield 18, 3, (2, 0, 1, 0), 0, 0), (9, .if_icmp .ge 7, 3, (16, 0, 0, 0), 0, 0), (12, .iconst 1, 1, (0, 0, 0, 0), 1, 0), (13, .goto 4, 3, (17, 0, 0, 0), 0, 0), (16, .iconst 0, 1, (0, 0, 0, 0), 0, 0), (17, .ireturn, 1, (1, 0, 0, 0), 0, 0)])]
-- ShareNets$Limit.addPart(I)I
set_option maxRecDepth 100000 in
noncomputable def z_k6 : List (Nat × List (Nat × z_E)) := [(36, [(0, .aload_n 0, 1, (0, 0, 0, 0), 0, 0), (1, .getfield 18, 3, (2, 0, 1, 0), 0, 0), (4, .istore_n 2, 1, (2, 0, 0, 0), 0, 0), (5, .aload_n 0, 1, (0, 0, 0, 0), 0, 0), (6, .getfield 9, 3, (0, 2, 1, 0), 0, 0), (9, .iload_n 2, 1, (2, 0, 0, 0), 0, 0), (10, .iload_n 1, 1, (1, 0, 0, 0), 0, 0), (11, .iastore, 1, (0, 0, 0, 0), 0, 0), (12, .aload_n 0, 1, (0, 0, 0, 0), 0, 0), (13, .iload_n 2, 1, (2, 0, 0, 0), 0, 0), (14, .iconst 1, 1, (0, 0, 0, 0), 1, 0), (15, .iadd, 1, (0, 0, 0, 0), 0, 0), (16, .putfield 18, 3, (2, 0, 1, 0), 0, 0), (19, .iconst 0, 1, (0, 0, 0, 0), 0, 0), (20, .istore_n 3, 1, (3, 0, 0, 0), 0, 0), (21, .iload_n 3, 1, (3, 0, 0, 0), 0, 0), (22, .aload_n 0, 1, (0, 0, 0, 0), 0, 0), (23, .getfield 18, 3, (2, 0, 1, 0), 0, 0), (26, .if_icmp .ge 16, 3, (42, 0, 0, 0), 0, 0), (29, .aload_n 0, 1, (0, 0, 0, 0), 0, 0), (30, .iload_n 3, 1, (3, 0, 0, 0), 0, 0), (31, .iload_n 2, 1, (2, 0, 0, 0), 0, 0), (32, .iconst 0, 1, (0, 0, 0, 0), 0, 0), (33, .invokevirtual 35, 3, (8, 4, 3, 0), 0, 0)]),
  (1000000, [(36, .iinc 3 1, 3, (3, 0, 0, 0), 1, 0), (39, .goto (-18), 3, (21, 0, 0, 0), 0, 0), (42, .iload_n 2, 1, (2, 0, 0, 0), 0, 0), (43, .ireturn, 1, (0, 0, 0, 0), 0, 0)])]
-- ShareNets$Limit.chanceOf(II)I
set_option maxRecDepth 100000 in
noncomputable def z_k7 : List (Nat × List (Nat × z_E)) := [(1000000, [(0, .aload_n 0, 1, (0, 0, 0, 0), 0, 0), (1, .getfield 15, 3, (1, 2, 1, 0), 0, 0), (4, .iload_n 1, 1, (1, 0, 0, 0), 0, 0), (5, .iconst 5, 1, (0, 0, 0, 0), 5, 0), (6, .imul, 1, (0, 0, 0, 0), 0, 0), (7, .iload_n 2, 1, (2, 0, 0, 0), 0, 0), (8, .iadd, 1, (0, 0, 0, 0), 0, 0), (9, .iaload, 1, (0, 0, 0, 0), 0, 0), (10, .ireturn, 1, (0, 0, 0, 0), 0, 0)])]
-- ShareNets$Limit.setChance(III)V
set_option maxRecDepth 100000 in
noncomputable def z_k8 : List (Nat × List (Nat × z_E)) := [(1000000, [(0, .aload_n 0, 1, (0, 0, 0, 0), 0, 0), (1, .getfield 15, 3, (1, 2, 1, 0), 0, 0), (4, .iload_n 1, 1, (1, 0, 0, 0), 0, 0), (5, .iconst 5, 1, (0, 0, 0, 0), 5, 0), (6, .imul, 1, (0, 0, 0, 0), 0, 0), (7, .iload_n 2, 1, (2, 0, 0, 0), 0, 0), (8, .iadd, 1, (0, 0, 0, 0), 0, 0), (9, .iload_n 3, 1, (3, 0, 0, 0), 0, 0), (10, .iastore, 1, (0, 0, 0, 0), 0, 0), (11, .aload_n 0, 1, (0, 0, 0, 0), 0, 0), (12, .getfield 15, 3, (1, 2, 1, 0), 0, 0), (15, .iload_n 2, 1, (2, 0, 0, 0), 0, 0), (16, .iconst 5, 1, (0, 0, 0, 0), 5, 0), (17, .imul, 1, (0, 0, 0, 0), 0, 0), (18, .iload_n 1, 1, (1, 0, 0, 0), 0, 0), (19, .iadd, 1, (0, 0, 0, 0), 0, 0), (20, .iload_n 3, 1, (3, 0, 0, 0), 0, 0), (21, .iastore, 1, (0, 0, 0, 0), 0, 0), (22, .return_, 1, (0, 0, 0, 0), 0, 0)])]
-- ShareNets$Limit.blowFrom(LShareNets$Net;)V
set_option maxRecDepth 100000 in
noncomputable def z_k9 : List (Nat × List (Nat × z_E)) := [(36, [(0, .aload_n 0, 1, (0, 0, 0, 0), 0, 0), (1, .iconst 0, 1, (0, 0, 0, 0), 0, 0), (2, .putfield 18, 3, (2, 0, 1, 0), 0, 0), (5, .iconst 0, 1, (0, 0, 0, 0), 0, 0), (6, .istore_n 2, 1, (2, 0, 0, 0), 0, 0), (7, .iload_n 2, 1, (2, 0, 0, 0), 0, 0), (8, .aload_n 1, 1, (1, 0, 0, 0), 0, 0), (9, .getfield 39, 3, (1, 0, 2, 0), 0, 0), (12, .if_icmp .ge 53, 3, (65, 0, 0, 0), 0, 0), (15, .iload_n 2, 1, (2, 0, 0, 0), 0, 0), (16, .iconst 5, 1, (0, 0, 0, 0), 5, 0), (17, .if_icmp .ge 48, 3, (65, 0, 0, 0), 0, 0), (20, .aload_n 0, 1, (0, 0, 0, 0), 0, 0), (21, .iconst 1, 1, (0, 0, 0, 0), 1, 0), (22, .invokevirtual 44, 3, (6, 4, 1, 0), 0, 0), (25, .pop, 1, (0, 0, 0, 0), 0, 0), (26, .iconst 0, 1, (0, 0, 0, 0), 0, 0), (27, .istore_n 3, 1, (3, 0, 0, 0), 0, 0), (28, .iload_n 3, 1, (3, 0, 0, 0), 0, 0), (29, .iload_n 2, 1, (2, 0, 0, 0), 0, 0), (30, .if_icmp .ge 29, 3, (59, 0, 0, 0), 0, 0), (33, .aload_n 0, 1, (0, 0, 0, 0), 0, 0), (34, .iload_n 3, 1, (3, 0, 0, 0), 0, 0), (35, .iload_n 2, 1, (2, 0, 0, 0), 0, 0)]),
  (1000000, [(36, .aload_n 1, 1, (1, 0, 0, 0), 0, 0), (37, .iload_n 3, 1, (3, 0, 0, 0), 0, 0), (38, .iload_n 2, 1, (2, 0, 0, 0), 0, 0), (39, .invokevirtual 48, 3, (22, 4, 2, 0), 0, 0), (42, .ifCond .eq 7, 3, (49, 0, 0, 0), 0, 0), (45, .iconst 4, 1, (0, 0, 0, 0), 4, 0), (46, .goto 4, 3, (50, 0, 0, 0), 0, 0), (49, .iconst 0, 1, (0, 0, 0, 0), 0, 0), (50, .invokevirtual 35, 3, (8, 4, 3, 0), 0, 0), (53, .iinc 3 1, 3, (3, 0, 0, 0), 1, 0), (56, .goto (-28), 3, (28, 0, 0, 0), 0, 0), (59, .iinc 2 1, 3, (2, 0, 0, 0), 1, 0), (62, .goto (-55), 3, (7, 0, 0, 0), 0, 0), (65, .return_, 1, (0, 0, 0, 0), 0, 0)])]
-- ShareNets$Limit.allWeights()I
set_option maxRecDepth 100000 in
noncomputable def z_k10 : List (Nat × List (Nat × z_E)) := [(1000000, [(0, .iconst 0, 1, (0, 0, 0, 0), 0, 0), (1, .istore_n 1, 1, (1, 0, 0, 0), 0, 0), (2, .iconst 0, 1, (0, 0, 0, 0), 0, 0), (3, .istore_n 2, 1, (2, 0, 0, 0), 0, 0), (4, .iload_n 2, 1, (2, 0, 0, 0), 0, 0), (5, .aload_n 0, 1, (0, 0, 0, 0), 0, 0), (6, .getfield 18, 3, (2, 0, 1, 0), 0, 0), (9, .if_icmp .ge 18, 3, (27, 0, 0, 0), 0, 0), (12, .iload_n 1, 1, (1, 0, 0, 0), 0, 0), (13, .aload_n 0, 1, (0, 0, 0, 0), 0, 0), (14, .getfield 9, 3, (0, 2, 1, 0), 0, 0), (17, .iload_n 2, 1, (2, 0, 0, 0), 0, 0), (18, .iaload, 1, (0, 0, 0, 0), 0, 0), (19, .iadd, 1, (0, 0, 0, 0), 0, 0), (20, .istore_n 1, 1, (1, 0, 0, 0), 0, 0), (21, .iinc 2 1, 3, (2, 0, 0, 0), 1, 0), (24, .goto (-20), 3, (4, 0, 0, 0), 0, 0), (27, .iload_n 1, 1, (1, 0, 0, 0), 0, 0), (28, .ireturn, 1, (0, 0, 0, 0), 0, 0)])]
-- ShareNets$Limit.below(I)J
set_option maxRecDepth 100000 in
noncomputable def z_k11 : List (Nat × List (Nat × z_E)) := [(42, [(0, .lconst 1, 1, (0, 0, 0, 0), 0, 1), (1, .lstore_n 2, 1, (2, 0, 0, 0), 0, 0), (2, .iconst 0, 1, (0, 0, 0, 0), 0, 0), (3, .istore 4, 2, (4, 0, 0, 0), 0, 0), (5, .iload 4, 2, (4, 0, 0, 0), 0, 0), (7, .iload_n 1, 1, (1, 0, 0, 0), 0, 0), (8, .if_icmp .ge 17, 3, (25, 0, 0, 0), 0, 0), (11, .lload_n 2, 1, (2, 0, 0, 0), 0, 0), (12, .aload_n 0, 1, (0, 0, 0, 0), 0, 0), (13, .invokevirtual 52, 3, (10, 4, 0, 0), 0, 0), (16, .i2l, 1, (0, 0, 0, 0), 0, 0), (17, .lmul, 1, (0, 0, 0, 0), 0, 0), (18, .lstore_n 2, 1, (2, 0, 0, 0), 0, 0), (19, .iinc 4 1, 3, (4, 0, 0, 0), 1, 0), (22, .goto (-17), 3, (5, 0, 0, 0), 0, 0), (25, .iconst 0, 1, (0, 0, 0, 0), 0, 0), (26, .istore 4, 2, (4, 0, 0, 0), 0, 0), (28, .iload 4, 2, (4, 0, 0, 0), 0, 0), (30, .iload_n 1, 1, (1, 0, 0, 0), 0, 0), (31, .invokestatic 56, 3, (126, 1, 1, 0), 0, 0), (34, .if_icmp .ge 15, 3, (49, 0, 0, 0), 0, 0), (37, .lload_n 2, 1, (2, 0, 0, 0), 0, 0), (38, .ldc2_w 59, 3, (0, 0, 0, 0), 0, 4), (41, .lmul, 1, (0, 0, 0, 0), 0, 0)]),
  (1000000, [(42, .lstore_n 2, 1, (2, 0, 0, 0), 0, 0), (43, .iinc 4 1, 3, (4, 0, 0, 0), 1, 0), (46, .goto (-18), 3, (28, 0, 0, 0), 0, 0), (49, .lload_n 2, 1, (2, 0, 0, 0), 0, 0), (50, .lreturn, 1, (0, 0, 0, 0), 0, 0)])]
-- ShareNets$Limit.spread(I)V
set_option maxRecDepth 100000 in
noncomputable def z_k12 : List (Nat × List (Nat × z_E)) := [(1000000, [(0, .iconst 0, 1, (0, 0, 0, 0), 0, 0), (1, .istore_n 2, 1, (2, 0, 0, 0), 0, 0), (2, .iload_n 2, 1, (2, 0, 0, 0), 0, 0), (3, .bipush 11, 2, (0, 0, 0, 0), 11, 0), (5, .if_icmp .ge 16, 3, (21, 0, 0, 0), 0, 0), (8, .aload_n 0, 1, (0, 0, 0, 0), 0, 0), (9, .getfield 22, 3, (3, 2, 1, 0), 0, 0), (12, .iload_n 2, 1, (2, 0, 0, 0), 0, 0), (13, .lconst 0, 1, (0, 0, 0, 0), 0, 0), (14, .lastore, 1, (0, 0, 0, 0), 0, 0), (15, .iinc 2 1, 3, (2, 0, 0, 0), 1, 0), (18, .goto (-16), 3, (2, 0, 0, 0), 0, 0), (21, .aload_n 0, 1, (0, 0, 0, 0), 0, 0), (22, .iload_n 1, 1, (1, 0, 0, 0), 0, 0), (23, .iconst 0, 1, (0, 0, 0, 0), 0, 0), (24, .iconst 0, 1, (0, 0, 0, 0), 0, 0), (25, .iconst 0, 1, (0, 0, 0, 0), 0, 0), (26, .lconst 1, 1, (0, 0, 0, 0), 0, 1), (27, .invokevirtual 61, 3, (13, 4, 5, 0), 0, 0), (30, .return_, 1, (0, 0, 0, 0), 0, 0)])]
-- ShareNets$Limit.drawParts(IIIIJ)V
set_option maxRecDepth 100000 in
noncomputable def z_k13 : List (Nat × List (Nat × z_E)) := [(42, [(0, .iload_n 2, 1, (2, 0, 0, 0), 0, 0), (1, .iload_n 1, 1, (1, 0, 0, 0), 0, 0), (2, .if_icmp .ge 8, 3, (10, 0, 0, 0), 0, 0), (5, .iload_n 2, 1, (2, 0, 0, 0), 0, 0), (6, .iconst 4, 1, (0, 0, 0, 0), 4, 0), (7, .if_icmp .lt 16, 3, (23, 0, 0, 0), 0, 0), (10, .aload_n 0, 1, (0, 0, 0, 0), 0, 0), (11, .iload_n 1, 1, (1, 0, 0, 0), 0, 0), (12, .invokestatic 56, 3, (126, 1, 1, 0), 0, 0), (15, .iconst 0, 1, (0, 0, 0, 0), 0, 0), (16, .iconst 0, 1, (0, 0, 0, 0), 0, 0), (17, .lload 5, 2, (5, 0, 0, 0), 0, 0), (19, .invokevirtual 65, 3, (14, 4, 4, 0), 0, 0), (22, .return_, 1, (0, 0, 0, 0), 0, 0), (23, .iload_n 3, 1, (3, 0, 0, 0), 0, 0), (24, .istore 7, 2, (7, 0, 0, 0), 0, 0), (26, .iload 7, 2, (7, 0, 0, 0), 0, 0), (28, .aload_n 0, 1, (0, 0, 0, 0), 0, 0), (29, .getfield 18, 3, (2, 0, 1, 0), 0, 0), (32, .if_icmp .ge 76, 3, (108, 0, 0, 0), 0, 0), (35, .iload_n 2, 1, (2, 0, 0, 0), 0, 0), (36, .ifCond .le 23, 3, (59, 0, 0, 0), 0, 0), (39, .iload 7, 2, (7, 0, 0, 0), 0, 0), (41, .aload_n 0, 1, (0, 0, 0, 0), 0, 0)]),
  (79, [(42, .getfield 26, 3, (4, 2, 1, 0), 0, 0), (45, .iload_n 2, 1, (2, 0, 0, 0), 0, 0), (46, .iconst 1, 1, (0, 0, 0, 0), 1, 0), (47, .isub, 1, (0, 0, 0, 0), 0, 0), (48, .iaload, 1, (0, 0, 0, 0), 0, 0), (49, .if_icmp .ne 10, 3, (59, 0, 0, 0), 0, 0), (52, .iload 4, 2, (4, 0, 0, 0), 0, 0), (54, .iconst 1, 1, (0, 0, 0, 0), 1, 0), (55, .iadd, 1, (0, 0, 0, 0), 0, 0), (56, .goto 4, 3, (60, 0, 0, 0), 0, 0), (59, .iconst 1, 1, (0, 0, 0, 0), 1, 0), (60, .istore 8, 2, (8, 0, 0, 0), 0, 0), (62, .aload_n 0, 1, (0, 0, 0, 0), 0, 0), (63, .getfield 26, 3, (4, 2, 1, 0), 0, 0), (66, .iload_n 2, 1, (2, 0, 0, 0), 0, 0), (67, .iload 7, 2, (7, 0, 0, 0), 0, 0), (69, .iastore, 1, (0, 0, 0, 0), 0, 0), (70, .aload_n 0, 1, (0, 0, 0, 0), 0, 0), (71, .iload_n 1, 1, (1, 0, 0, 0), 0, 0), (72, .iload_n 2, 1, (2, 0, 0, 0), 0, 0), (73, .iconst 1, 1, (0, 0, 0, 0), 1, 0), (74, .iadd, 1, (0, 0, 0, 0), 0, 0), (75, .iload 7, 2, (7, 0, 0, 0), 0, 0), (77, .iload 8, 2, (8, 0, 0, 0), 0, 0)]),
  (1000000, [(79, .lload 5, 2, (5, 0, 0, 0), 0, 0), (81, .aload_n 0, 1, (0, 0, 0, 0), 0, 0), (82, .getfield 9, 3, (0, 2, 1, 0), 0, 0), (85, .iload 7, 2, (7, 0, 0, 0), 0, 0), (87, .iaload, 1, (0, 0, 0, 0), 0, 0), (88, .i2l, 1, (0, 0, 0, 0), 0, 0), (89, .lmul, 1, (0, 0, 0, 0), 0, 0), (90, .iload_n 2, 1, (2, 0, 0, 0), 0, 0), (91, .iconst 1, 1, (0, 0, 0, 0), 1, 0), (92, .iadd, 1, (0, 0, 0, 0), 0, 0), (93, .i2l, 1, (0, 0, 0, 0), 0, 0), (94, .lmul, 1, (0, 0, 0, 0), 0, 0), (95, .iload 8, 2, (8, 0, 0, 0), 0, 0), (97, .i2l, 1, (0, 0, 0, 0), 0, 0), (98, .ldiv, 1, (0, 0, 0, 0), 0, 0), (99, .invokevirtual 61, 3, (13, 4, 5, 0), 0, 0), (102, .iinc 7 1, 3, (7, 0, 0, 0), 1, 0), (105, .goto (-79), 3, (26, 0, 0, 0), 0, 0), (108, .return_, 1, (0, 0, 0, 0), 0, 0)])]
-- ShareNets$Limit.drawRoads(IIIJ)V
set_option maxRecDepth 100000 in
noncomputable def z_k14 : List (Nat × List (Nat × z_E)) := [(39, [(0, .lload 4, 2, (4, 0, 0, 0), 0, 0), (2, .lconst 0, 1, (0, 0, 0, 0), 0, 0), (3, .lcmp, 1, (0, 0, 0, 0), 0, 0), (4, .ifCond .ne 4, 3, (8, 0, 0, 0), 0, 0), (7, .return_, 1, (0, 0, 0, 0), 0, 0), (8, .iload_n 2, 1, (2, 0, 0, 0), 0, 0), (9, .iload_n 1, 1, (1, 0, 0, 0), 0, 0), (10, .if_icmp .ge 11, 3, (21, 0, 0, 0), 0, 0), (13, .iload_n 2, 1, (2, 0, 0, 0), 0, 0), (14, .getstatic 69, 3, (2, 0, 0, 1), 0, 0), (17, .arraylength, 1, (0, 0, 0, 0), 0, 0), (18, .if_icmp .lt 22, 3, (40, 0, 0, 0), 0, 0), (21, .aload_n 0, 1, (0, 0, 0, 0), 0, 0), (22, .getfield 22, 3, (3, 2, 1, 0), 0, 0), (25, .getstatic 72, 3, (1, 0, 0, 1), 0, 0), (28, .iload_n 3, 1, (3, 0, 0, 0), 0, 0), (29, .bipush 63, 2, (0, 0, 0, 0), 63, 0), (31, .iand, 1, (0, 0, 0, 0), 0, 0), (32, .iaload, 1, (0, 0, 0, 0), 0, 0), (33, .dup2, 1, (0, 0, 0, 0), 0, 0), (34, .laload, 1, (0, 0, 0, 0), 0, 0), (35, .lload 4, 2, (4, 0, 0, 0), 0, 0), (37, .ladd, 1, (0, 0, 0, 0), 0, 0), (38, .lastore, 1, (0, 0, 0, 0), 0, 0)]),
  (75, [(39, .return_, 1, (0, 0, 0, 0), 0, 0), (40, .aload_n 0, 1, (0, 0, 0, 0), 0, 0), (41, .aload_n 0, 1, (0, 0, 0, 0), 0, 0), (42, .getfield 26, 3, (4, 2, 1, 0), 0, 0), (45, .getstatic 69, 3, (2, 0, 0, 1), 0, 0), (48, .iload_n 2, 1, (2, 0, 0, 0), 0, 0), (49, .iaload, 1, (0, 0, 0, 0), 0, 0), (50, .iaload, 1, (0, 0, 0, 0), 0, 0), (51, .aload_n 0, 1, (0, 0, 0, 0), 0, 0), (52, .getfield 26, 3, (4, 2, 1, 0), 0, 0), (55, .getstatic 75, 3, (3, 0, 0, 1), 0, 0), (58, .iload_n 2, 1, (2, 0, 0, 0), 0, 0), (59, .iaload, 1, (0, 0, 0, 0), 0, 0), (60, .iaload, 1, (0, 0, 0, 0), 0, 0), (61, .invokevirtual 78, 3, (7, 4, 2, 0), 0, 0), (64, .istore 6, 2, (6, 0, 0, 0), 0, 0), (66, .aload_n 0, 1, (0, 0, 0, 0), 0, 0), (67, .iload_n 1, 1, (1, 0, 0, 0), 0, 0), (68, .iload_n 2, 1, (2, 0, 0, 0), 0, 0), (69, .iconst 1, 1, (0, 0, 0, 0), 1, 0), (70, .iadd, 1, (0, 0, 0, 0), 0, 0), (71, .iload_n 3, 1, (3, 0, 0, 0), 0, 0), (72, .lload 4, 2, (4, 0, 0, 0), 0, 0), (74, .iconst 4, 1, (0, 0, 0, 0), 4, 0)]),
  (1000000, [(75, .iload 6, 2, (6, 0, 0, 0), 0, 0), (77, .isub, 1, (0, 0, 0, 0), 0, 0), (78, .i2l, 1, (0, 0, 0, 0), 0, 0), (79, .lmul, 1, (0, 0, 0, 0), 0, 0), (80, .invokevirtual 65, 3, (14, 4, 4, 0), 0, 0), (83, .aload_n 0, 1, (0, 0, 0, 0), 0, 0), (84, .iload_n 1, 1, (1, 0, 0, 0), 0, 0), (85, .iload_n 2, 1, (2, 0, 0, 0), 0, 0), (86, .iconst 1, 1, (0, 0, 0, 0), 1, 0), (87, .iadd, 1, (0, 0, 0, 0), 0, 0), (88, .iload_n 3, 1, (3, 0, 0, 0), 0, 0), (89, .iconst 1, 1, (0, 0, 0, 0), 1, 0), (90, .iload_n 2, 1, (2, 0, 0, 0), 0, 0), (91, .ishl, 1, (0, 0, 0, 0), 0, 0), (92, .ior, 1, (0, 0, 0, 0), 0, 0), (93, .lload 4, 2, (4, 0, 0, 0), 0, 0), (95, .iload 6, 2, (6, 0, 0, 0), 0, 0), (97, .i2l, 1, (0, 0, 0, 0), 0, 0), (98, .lmul, 1, (0, 0, 0, 0), 0, 0), (99, .invokevirtual 65, 3, (14, 4, 4, 0), 0, 0), (102, .return_, 1, (0, 0, 0, 0), 0, 0)])]
-- ShareNets$Limit.deal(I)V
set_option maxRecDepth 100000 in
noncomputable def z_k15 : List (Nat × List (Nat × z_E)) := [(36, [(0, .iload_n 1, 1, (1, 0, 0, 0), 0, 0), (1, .aload_n 0, 1, (0, 0, 0, 0), 0, 0), (2, .iload_n 1, 1, (1, 0, 0, 0), 0, 0), (3, .invokevirtual 82, 3, (16, 4, 1, 0), 0, 0), (6, .isub, 1, (0, 0, 0, 0), 0, 0), (7, .istore_n 2, 1, (2, 0, 0, 0), 0, 0), (8, .iconst 0, 1, (0, 0, 0, 0), 0, 0), (9, .istore_n 3, 1, (3, 0, 0, 0), 0, 0), (10, .iload_n 3, 1, (3, 0, 0, 0), 0, 0), (11, .iload_n 2, 1, (2, 0, 0, 0), 0, 0), (12, .if_icmp .ge 39, 3, (51, 0, 0, 0), 0, 0), (15, .iload_n 3, 1, (3, 0, 0, 0), 0, 0), (16, .iconst 5, 1, (0, 0, 0, 0), 5, 0), (17, .if_icmp .ge 34, 3, (51, 0, 0, 0), 0, 0), (20, .aload_n 0, 1, (0, 0, 0, 0), 0, 0), (21, .invokevirtual 85, 3, (17, 4, 0, 0), 0, 0), (24, .istore 4, 2, (4, 0, 0, 0), 0, 0), (26, .aload_n 0, 1, (0, 0, 0, 0), 0, 0), (27, .getfield 29, 3, (5, 2, 1, 0), 0, 0), (30, .iload 4, 2, (4, 0, 0, 0), 0, 0), (32, .dup2, 1, (0, 0, 0, 0), 0, 0), (33, .iaload, 1, (0, 0, 0, 0), 0, 0), (34, .iconst 1, 1, (0, 0, 0, 0), 1, 0), (35, .iadd, 1, (0, 0, 0, 0), 0, 0)]),
  (80, [(36, .iastore, 1, (0, 0, 0, 0), 0, 0), (37, .aload_n 0, 1, (0, 0, 0, 0), 0, 0), (38, .getfield 32, 3, (6, 2, 1, 0), 0, 0), (41, .iload 4, 2, (4, 0, 0, 0), 0, 0), (43, .iconst (-1), 1, (0, 0, 0, 0), (-1), 0), (44, .iastore, 1, (0, 0, 0, 0), 0, 0), (45, .iinc 3 1, 3, (3, 0, 0, 0), 1, 0), (48, .goto (-38), 3, (10, 0, 0, 0), 0, 0), (51, .iconst 0, 1, (0, 0, 0, 0), 0, 0), (52, .istore_n 3, 1, (3, 0, 0, 0), 0, 0), (53, .iconst 0, 1, (0, 0, 0, 0), 0, 0), (54, .istore 4, 2, (4, 0, 0, 0), 0, 0), (56, .iload 4, 2, (4, 0, 0, 0), 0, 0), (58, .aload_n 0, 1, (0, 0, 0, 0), 0, 0), (59, .getfield 18, 3, (2, 0, 1, 0), 0, 0), (62, .if_icmp .ge 47, 3, (109, 0, 0, 0), 0, 0), (65, .iconst 0, 1, (0, 0, 0, 0), 0, 0), (66, .istore 5, 2, (5, 0, 0, 0), 0, 0), (68, .iload 5, 2, (5, 0, 0, 0), 0, 0), (70, .aload_n 0, 1, (0, 0, 0, 0), 0, 0), (71, .getfield 29, 3, (5, 2, 1, 0), 0, 0), (74, .iload 4, 2, (4, 0, 0, 0), 0, 0), (76, .iaload, 1, (0, 0, 0, 0), 0, 0), (77, .if_icmp .ge 26, 3, (103, 0, 0, 0), 0, 0)]),
  (1000000, [(80, .iload_n 3, 1, (3, 0, 0, 0), 0, 0), (81, .bipush 10, 2, (0, 0, 0, 0), 10, 0), (83, .if_icmp .ge 20, 3, (103, 0, 0, 0), 0, 0), (86, .aload_n 0, 1, (0, 0, 0, 0), 0, 0), (87, .getfield 26, 3, (4, 2, 1, 0), 0, 0), (90, .iload_n 3, 1, (3, 0, 0, 0), 0, 0), (91, .iload 4, 2, (4, 0, 0, 0), 0, 0), (93, .iastore, 1, (0, 0, 0, 0), 0, 0), (94, .iinc 3 1, 3, (3, 0, 0, 0), 1, 0), (97, .iinc 5 1, 3, (5, 0, 0, 0), 1, 0), (100, .goto (-32), 3, (68, 0, 0, 0), 0, 0), (103, .iinc 4 1, 3, (4, 0, 0, 0), 1, 0), (106, .goto (-50), 3, (56, 0, 0, 0), 0, 0), (109, .return_, 1, (0, 0, 0, 0), 0, 0)])]
-- ShareNets$Limit.dealCut(I)I
set_option maxRecDepth 100000 in
noncomputable def z_k16 : List (Nat × List (Nat × z_E)) := [(40, [(0, .aload_n 0, 1, (0, 0, 0, 0), 0, 0), (1, .invokevirtual 52, 3, (10, 4, 0, 0), 0, 0), (4, .istore_n 2, 1, (2, 0, 0, 0), 0, 0), (5, .iconst 0, 1, (0, 0, 0, 0), 0, 0), (6, .istore_n 3, 1, (3, 0, 0, 0), 0, 0), (7, .iconst 0, 1, (0, 0, 0, 0), 0, 0), (8, .istore 4, 2, (4, 0, 0, 0), 0, 0), (10, .iload 4, 2, (4, 0, 0, 0), 0, 0), (12, .aload_n 0, 1, (0, 0, 0, 0), 0, 0), (13, .getfield 18, 3, (2, 0, 1, 0), 0, 0), (16, .if_icmp .ge 59, 3, (75, 0, 0, 0), 0, 0), (19, .iload_n 2, 1, (2, 0, 0, 0), 0, 0), (20, .ifCond .le 55, 3, (75, 0, 0, 0), 0, 0), (23, .aload_n 0, 1, (0, 0, 0, 0), 0, 0), (24, .getfield 29, 3, (5, 2, 1, 0), 0, 0), (27, .iload 4, 2, (4, 0, 0, 0), 0, 0), (29, .iload_n 1, 1, (1, 0, 0, 0), 0, 0), (30, .aload_n 0, 1, (0, 0, 0, 0), 0, 0), (31, .getfield 9, 3, (0, 2, 1, 0), 0, 0), (34, .iload 4, 2, (4, 0, 0, 0), 0, 0), (36, .iaload, 1, (0, 0, 0, 0), 0, 0), (37, .imul, 1, (0, 0, 0, 0), 0, 0), (38, .iload_n 2, 1, (2, 0, 0, 0), 0, 0), (39, .idiv, 1, (0, 0, 0, 0), 0, 0)]),
  (1000000, [(40, .iastore, 1, (0, 0, 0, 0), 0, 0), (41, .aload_n 0, 1, (0, 0, 0, 0), 0, 0), (42, .getfield 32, 3, (6, 2, 1, 0), 0, 0), (45, .iload 4, 2, (4, 0, 0, 0), 0, 0), (47, .iload_n 1, 1, (1, 0, 0, 0), 0, 0), (48, .aload_n 0, 1, (0, 0, 0, 0), 0, 0), (49, .getfield 9, 3, (0, 2, 1, 0), 0, 0), (52, .iload 4, 2, (4, 0, 0, 0), 0, 0), (54, .iaload, 1, (0, 0, 0, 0), 0, 0), (55, .imul, 1, (0, 0, 0, 0), 0, 0), (56, .iload_n 2, 1, (2, 0, 0, 0), 0, 0), (57, .irem, 1, (0, 0, 0, 0), 0, 0), (58, .iastore, 1, (0, 0, 0, 0), 0, 0), (59, .iload_n 3, 1, (3, 0, 0, 0), 0, 0), (60, .aload_n 0, 1, (0, 0, 0, 0), 0, 0), (61, .getfield 29, 3, (5, 2, 1, 0), 0, 0), (64, .iload 4, 2, (4, 0, 0, 0), 0, 0), (66, .iaload, 1, (0, 0, 0, 0), 0, 0), (67, .iadd, 1, (0, 0, 0, 0), 0, 0), (68, .istore_n 3, 1, (3, 0, 0, 0), 0, 0), (69, .iinc 4 1, 3, (4, 0, 0, 0), 1, 0), (72, .goto (-62), 3, (10, 0, 0, 0), 0, 0), (75, .iload_n 3, 1, (3, 0, 0, 0), 0, 0), (76, .ireturn, 1, (0, 0, 0, 0), 0, 0)])]
-- ShareNets$Limit.greatestRest()I
set_option maxRecDepth 100000 in
noncomputable def z_k17 : List (Nat × List (Nat × z_E)) := [(1000000, [(0, .iconst 0, 1, (0, 0, 0, 0), 0, 0), (1, .istore_n 1, 1, (1, 0, 0, 0), 0, 0), (2, .iconst 1, 1, (0, 0, 0, 0), 1, 0), (3, .istore_n 2, 1, (2, 0, 0, 0), 0, 0), (4, .iload_n 2, 1, (2, 0, 0, 0), 0, 0), (5, .aload_n 0, 1, (0, 0, 0, 0), 0, 0), (6, .getfield 18, 3, (2, 0, 1, 0), 0, 0), (9, .if_icmp .ge 26, 3, (35, 0, 0, 0), 0, 0), (12, .aload_n 0, 1, (0, 0, 0, 0), 0, 0), (13, .getfield 32, 3, (6, 2, 1, 0), 0, 0), (16, .iload_n 2, 1, (2, 0, 0, 0), 0, 0), (17, .iaload, 1, (0, 0, 0, 0), 0, 0), (18, .aload_n 0, 1, (0, 0, 0, 0), 0, 0), (19, .getfield 32, 3, (6, 2, 1, 0), 0, 0), (22, .iload_n 1, 1, (1, 0, 0, 0), 0, 0), (23, .iaload, 1, (0, 0, 0, 0), 0, 0), (24, .if_icmp .le 5, 3, (29, 0, 0, 0), 0, 0), (27, .iload_n 2, 1, (2, 0, 0, 0), 0, 0), (28, .istore_n 1, 1, (1, 0, 0, 0), 0, 0), (29, .iinc 2 1, 3, (2, 0, 0, 0), 1, 0), (32, .goto (-28), 3, (4, 0, 0, 0), 0, 0), (35, .iload_n 1, 1, (1, 0, 0, 0), 0, 0), (36, .ireturn, 1, (0, 0, 0, 0), 0, 0)])]
-- ShareNets$Net.<init>()V
set_option maxRecDepth 100000 in
noncomputable def z_k18 : List (Nat × List (Nat × z_E)) := [(1000000, [(0, .aload_n 0, 1, (0, 0, 0, 0), 0, 0), (1, .invokespecial 3, 3, (0, 9, 0, 0), 0, 0), (4, .aload_n 0, 1, (0, 0, 0, 0), 0, 0), (5, .bipush 10, 2, (0, 0, 0, 0), 10, 0), (7, .newarray .int, 2, (0, 0, 0, 0), 0, 0), (9, .putfield 9, 3, (0, 2, 2, 0), 0, 0), (12, .aload_n 0, 1, (0, 0, 0, 0), 0, 0), (13, .iconst 1, 1, (0, 0, 0, 0), 1, 0), (14, .putfield 15, 3, (1, 0, 2, 0), 0, 0), (17, .return_, 1, (0, 0, 0, 0), 0, 0)])]
-- ShareNets$Net.clear(I)V
set_option maxRecDepth 100000 in
noncomputable def z_k19 : List (Nat × List (Nat × z_E)) := [(1000000, [(0, .aload_n 0, 1, (0, 0, 0, 0), 0, 0), (1, .iload_n 1, 1, (1, 0, 0, 0), 0, 0), (2, .putfield 15, 3, (1, 0, 2, 0), 0, 0), (5, .iconst 0, 1, (0, 0, 0, 0), 0, 0), (6, .istore_n 2, 1, (2, 0, 0, 0), 0, 0), (7, .iload_n 2, 1, (2, 0, 0, 0), 0, 0), (8, .bipush 10, 2, (0, 0, 0, 0), 10, 0), (10, .if_icmp .ge 16, 3, (26, 0, 0, 0), 0, 0), (13, .aload_n 0, 1, (0, 0, 0, 0), 0, 0), (14, .getfield 9, 3, (0, 2, 2, 0), 0, 0), (17, .iload_n 2, 1, (2, 0, 0, 0), 0, 0), (18, .iconst 0, 1, (0, 0, 0, 0), 0, 0), (19, .iastore, 1, (0, 0, 0, 0), 0, 0), (20, .iinc 2 1, 3, (2, 0, 0, 0), 1, 0), (23, .goto (-16), 3, (7, 0, 0, 0), 0, 0), (26, .return_, 1, (0, 0, 0, 0), 0, 0)])]
-- ShareNets$Net.become(LShareNets$Net;)V
set_option maxRecDepth 100000 in
noncomputable def z_k20 : List (Nat × List (Nat × z_E)) := [(1000000, [(0, .aload_n 0, 1, (0, 0, 0, 0), 0, 0), (1, .aload_n 1, 1, (1, 0, 0, 0), 0, 0), (2, .getfield 15, 3, (1, 0, 2, 0), 0, 0), (5, .putfield 15, 3, (1, 0, 2, 0), 0, 0), (8, .iconst 0, 1, (0, 0, 0, 0), 0, 0), (9, .istore_n 2, 1, (2, 0, 0, 0), 0, 0), (10, .iload_n 2, 1, (2, 0, 0, 0), 0, 0), (11, .bipush 10, 2, (0, 0, 0, 0), 10, 0), (13, .if_icmp .ge 21, 3, (34, 0, 0, 0), 0, 0), (16, .aload_n 0, 1, (0, 0, 0, 0), 0, 0), (17, .getfield 9, 3, (0, 2, 2, 0), 0, 0), (20, .iload_n 2, 1, (2, 0, 0, 0), 0, 0), (21, .aload_n 1, 1, (1, 0, 0, 0), 0, 0), (22, .getfield 9, 3, (0, 2, 2, 0), 0, 0), (25, .iload_n 2, 1, (2, 0, 0, 0), 0, 0), (26, .iaload, 1, (0, 0, 0, 0), 0, 0), (27, .iastore, 1, (0, 0, 0, 0), 0, 0), (28, .iinc 2 1, 3, (2, 0, 0, 0), 1, 0), (31, .goto (-21), 3, (10, 0, 0, 0), 0, 0), (34, .return_, 1, (0, 0, 0, 0), 0, 0)])]
-- ShareNets$Net.becomeCode(II)V
set_option maxRecDepth 100000 in
noncomputable def z_k21 : List (Nat × List (Nat × z_E)) := [(40, [(0, .aload_n 0, 1, (0, 0, 0, 0), 0, 0), (1, .iload_n 1, 1, (1, 0, 0, 0), 0, 0), (2, .invokevirtual 19, 3, (19, 4, 1, 0), 0, 0), (5, .iconst 0, 1, (0, 0, 0, 0), 0, 0), (6, .istore_n 3, 1, (3, 0, 0, 0), 0, 0), (7, .iload_n 3, 1, (3, 0, 0, 0), 0, 0), (8, .iload_n 1, 1, (1, 0, 0, 0), 0, 0), (9, .invokestatic 23, 3, (126, 1, 1, 0), 0, 0), (12, .if_icmp .ge 40, 3, (52, 0, 0, 0), 0, 0), (15, .iload_n 3, 1, (3, 0, 0, 0), 0, 0), (16, .getstatic 27, 3, (2, 0, 0, 1), 0, 0), (19, .arraylength, 1, (0, 0, 0, 0), 0, 0), (20, .if_icmp .ge 32, 3, (52, 0, 0, 0), 0, 0), (23, .iload_n 2, 1, (2, 0, 0, 0), 0, 0), (24, .iload_n 3, 1, (3, 0, 0, 0), 0, 0), (25, .ishr, 1, (0, 0, 0, 0), 0, 0), (26, .iconst 1, 1, (0, 0, 0, 0), 1, 0), (27, .iand, 1, (0, 0, 0, 0), 0, 0), (28, .ifCond .eq 18, 3, (46, 0, 0, 0), 0, 0), (31, .aload_n 0, 1, (0, 0, 0, 0), 0, 0), (32, .getstatic 27, 3, (2, 0, 0, 1), 0, 0), (35, .iload_n 3, 1, (3, 0, 0, 0), 0, 0), (36, .iaload, 1, (0, 0, 0, 0), 0, 0), (37, .getstatic 30, 3, (3, 0, 0, 1), 0, 0)]),
  (1000000, [(40, .iload_n 3, 1, (3, 0, 0, 0), 0, 0), (41, .iaload, 1, (0, 0, 0, 0), 0, 0), (42, .iconst 1, 1, (0, 0, 0, 0), 1, 0), (43, .invokevirtual 33, 3, (23, 4, 3, 0), 0, 0), (46, .iinc 3 1, 3, (3, 0, 0, 0), 1, 0), (49, .goto (-42), 3, (7, 0, 0, 0), 0, 0), (52, .return_, 1, (0, 0, 0, 0), 0, 0)])]
-- ShareNets$Net.hasRoad(II)Z
set_option maxRecDepth 100000 in
noncomputable def z_k22 : List (Nat × List (Nat × z_E)) := [(1000000, [(0, .aload_n 0, 1, (0, 0, 0, 0), 0, 0), (1, .getfield 9, 3, (0, 2, 2, 0), 0, 0), (4, .iload_n 1, 1, (1, 0, 0, 0), 0, 0), (5, .iaload, 1, (0, 0, 0, 0), 0, 0), (6, .iload_n 2, 1, (2, 0, 0, 0), 0, 0), (7, .ishr, 1, (0, 0, 0, 0), 0, 0), (8, .iconst 1, 1, (0, 0, 0, 0), 1, 0), (9, .iand, 1, (0, 0, 0, 0), 0, 0), (10, .ifCond .eq 7, 3, (17, 0, 0, 0), 0, 0), (13, .iconst 1, 1, (0, 0, 0, 0), 1, 0), (14, .goto 4, 3, (18, 0, 0, 0), 0, 0), (17, .iconst 0, 1, (0, 0, 0, 0), 0, 0), (18, .ireturn, 1, (1, 0, 0, 0), 0, 0)])]
-- ShareNets$Net.setRoad(IIZ)V
set_option maxRecDepth 100000 in
noncomputable def z_k23 : List (Nat × List (Nat × z_E)) := [(32, [(0, .iload_n 3, 1, (3, 0, 0, 0), 0, 0), (1, .ifCond .eq 30, 3, (31, 0, 0, 0), 0, 0), (4, .aload_n 0, 1, (0, 0, 0, 0), 0, 0), (5, .getfield 9, 3, (0, 2, 2, 0), 0, 0), (8, .iload_n 1, 1, (1, 0, 0, 0), 0, 0), (9, .dup2, 1, (0, 0, 0, 0), 0, 0), (10, .iaload, 1, (0, 0, 0, 0), 0, 0), (11, .iconst 1, 1, (0, 0, 0, 0), 1, 0), (12, .iload_n 2, 1, (2, 0, 0, 0), 0, 0), (13, .ishl, 1, (0, 0, 0, 0), 0, 0), (14, .ior, 1, (0, 0, 0, 0), 0, 0), (15, .iastore, 1, (0, 0, 0, 0), 0, 0), (16, .aload_n 0, 1, (0, 0, 0, 0), 0, 0), (17, .getfield 9, 3, (0, 2, 2, 0), 0, 0), (20, .iload_n 2, 1, (2, 0, 0, 0), 0, 0), (21, .dup2, 1, (0, 0, 0, 0), 0, 0), (22, .iaload, 1, (0, 0, 0, 0), 0, 0), (23, .iconst 1, 1, (0, 0, 0, 0), 1, 0), (24, .iload_n 1, 1, (1, 0, 0, 0), 0, 0), (25, .ishl, 1, (0, 0, 0, 0), 0, 0), (26, .ior, 1, (0, 0, 0, 0), 0, 0), (27, .iastore, 1, (0, 0, 0, 0), 0, 0), (28, .goto 31, 3, (59, 0, 0, 0), 0, 0), (31, .aload_n 0, 1, (0, 0, 0, 0), 0, 0)]),
  (1000000, [(32, .getfield 9, 3, (0, 2, 2, 0), 0, 0), (35, .iload_n 1, 1, (1, 0, 0, 0), 0, 0), (36, .dup2, 1, (0, 0, 0, 0), 0, 0), (37, .iaload, 1, (0, 0, 0, 0), 0, 0), (38, .iconst 1, 1, (0, 0, 0, 0), 1, 0), (39, .iload_n 2, 1, (2, 0, 0, 0), 0, 0), (40, .ishl, 1, (0, 0, 0, 0), 0, 0), (41, .iconst (-1), 1, (0, 0, 0, 0), (-1), 0), (42, .ixor, 1, (0, 0, 0, 0), 0, 0), (43, .iand, 1, (0, 0, 0, 0), 0, 0), (44, .iastore, 1, (0, 0, 0, 0), 0, 0), (45, .aload_n 0, 1, (0, 0, 0, 0), 0, 0), (46, .getfield 9, 3, (0, 2, 2, 0), 0, 0), (49, .iload_n 2, 1, (2, 0, 0, 0), 0, 0), (50, .dup2, 1, (0, 0, 0, 0), 0, 0), (51, .iaload, 1, (0, 0, 0, 0), 0, 0), (52, .iconst 1, 1, (0, 0, 0, 0), 1, 0), (53, .iload_n 1, 1, (1, 0, 0, 0), 0, 0), (54, .ishl, 1, (0, 0, 0, 0), 0, 0), (55, .iconst (-1), 1, (0, 0, 0, 0), (-1), 0), (56, .ixor, 1, (0, 0, 0, 0), 0, 0), (57, .iand, 1, (0, 0, 0, 0), 0, 0), (58, .iastore, 1, (0, 0, 0, 0), 0, 0), (59, .return_, 1, (0, 0, 0, 0), 0, 0)])]
-- ShareNets$Net.setLesserRoads(II)V
set_option maxRecDepth 100000 in
noncomputable def z_k24 : List (Nat × List (Nat × z_E)) := [(1000000, [(0, .iconst 0, 1, (0, 0, 0, 0), 0, 0), (1, .istore_n 3, 1, (3, 0, 0, 0), 0, 0), (2, .iload_n 3, 1, (3, 0, 0, 0), 0, 0), (3, .iload_n 1, 1, (1, 0, 0, 0), 0, 0), (4, .if_icmp .ge 28, 3, (32, 0, 0, 0), 0, 0), (7, .aload_n 0, 1, (0, 0, 0, 0), 0, 0), (8, .iload_n 3, 1, (3, 0, 0, 0), 0, 0), (9, .iload_n 1, 1, (1, 0, 0, 0), 0, 0), (10, .iload_n 2, 1, (2, 0, 0, 0), 0, 0), (11, .iload_n 3, 1, (3, 0, 0, 0), 0, 0), (12, .ishr, 1, (0, 0, 0, 0), 0, 0), (13, .iconst 1, 1, (0, 0, 0, 0), 1, 0), (14, .iand, 1, (0, 0, 0, 0), 0, 0), (15, .ifCond .eq 7, 3, (22, 0, 0, 0), 0, 0), (18, .iconst 1, 1, (0, 0, 0, 0), 1, 0), (19, .goto 4, 3, (23, 0, 0, 0), 0, 0), (22, .iconst 0, 1, (0, 0, 0, 0), 0, 0), (23, .invokevirtual 33, 3, (23, 4, 3, 0), 0, 0), (26, .iinc 3 1, 3, (3, 0, 0, 0), 1, 0), (29, .goto (-27), 3, (2, 0, 0, 0), 0, 0), (32, .return_, 1, (0, 0, 0, 0), 0, 0)])]
-- ShareNets$Net.turnRoads()V
set_option maxRecDepth 100000 in
noncomputable def z_k25 : List (Nat × List (Nat × z_E)) := [(32, [(0, .iconst 1, 1, (0, 0, 0, 0), 1, 0), (1, .aload_n 0, 1, (0, 0, 0, 0), 0, 0), (2, .getfield 15, 3, (1, 0, 2, 0), 0, 0), (5, .ishl, 1, (0, 0, 0, 0), 0, 0), (6, .iconst 1, 1, (0, 0, 0, 0), 1, 0), (7, .isub, 1, (0, 0, 0, 0), 0, 0), (8, .istore_n 1, 1, (1, 0, 0, 0), 0, 0), (9, .iconst 0, 1, (0, 0, 0, 0), 0, 0), (10, .istore_n 2, 1, (2, 0, 0, 0), 0, 0), (11, .iload_n 2, 1, (2, 0, 0, 0), 0, 0), (12, .aload_n 0, 1, (0, 0, 0, 0), 0, 0), (13, .getfield 15, 3, (1, 0, 2, 0), 0, 0), (16, .if_icmp .ge 25, 3, (41, 0, 0, 0), 0, 0), (19, .aload_n 0, 1, (0, 0, 0, 0), 0, 0), (20, .getfield 9, 3, (0, 2, 2, 0), 0, 0), (23, .iload_n 2, 1, (2, 0, 0, 0), 0, 0), (24, .dup2, 1, (0, 0, 0, 0), 0, 0), (25, .iaload, 1, (0, 0, 0, 0), 0, 0), (26, .iload_n 1, 1, (1, 0, 0, 0), 0, 0), (27, .iconst 1, 1, (0, 0, 0, 0), 1, 0), (28, .iload_n 2, 1, (2, 0, 0, 0), 0, 0), (29, .ishl, 1, (0, 0, 0, 0), 0, 0), (30, .iconst (-1), 1, (0, 0, 0, 0), (-1), 0), (31, .ixor, 1, (0, 0, 0, 0), 0, 0)]),
  (1000000, [(32, .iand, 1, (0, 0, 0, 0), 0, 0), (33, .ixor, 1, (0, 0, 0, 0), 0, 0), (34, .iastore, 1, (0, 0, 0, 0), 0, 0), (35, .iinc 2 1, 3, (2, 0, 0, 0), 1, 0), (38, .goto (-27), 3, (11, 0, 0, 0), 0, 0), (41, .return_, 1, (0, 0, 0, 0), 0, 0)])]
-- ShareNets$Net.countRoads()I
set_option maxRecDepth 100000 in
noncomputable def z_k26 : List (Nat × List (Nat × z_E)) := [(1000000, [(0, .iconst 0, 1, (0, 0, 0, 0), 0, 0), (1, .istore_n 1, 1, (1, 0, 0, 0), 0, 0), (2, .iconst 0, 1, (0, 0, 0, 0), 0, 0), (3, .istore_n 2, 1, (2, 0, 0, 0), 0, 0), (4, .iload_n 2, 1, (2, 0, 0, 0), 0, 0), (5, .aload_n 0, 1, (0, 0, 0, 0), 0, 0), (6, .getfield 15, 3, (1, 0, 2, 0), 0, 0), (9, .if_icmp .ge 21, 3, (30, 0, 0, 0), 0, 0), (12, .iload_n 1, 1, (1, 0, 0, 0), 0, 0), (13, .aload_n 0, 1, (0, 0, 0, 0), 0, 0), (14, .getfield 9, 3, (0, 2, 2, 0), 0, 0), (17, .iload_n 2, 1, (2, 0, 0, 0), 0, 0), (18, .iaload, 1, (0, 0, 0, 0), 0, 0), (19, .invokestatic 37, 3, (275, 0, 1, 0), 0, 0), (22, .iadd, 1, (0, 0, 0, 0), 0, 0), (23, .istore_n 1, 1, (1, 0, 0, 0), 0, 0), (24, .iinc 2 1, 3, (2, 0, 0, 0), 1, 0), (27, .goto (-23), 3, (4, 0, 0, 0), 0, 0), (30, .iload_n 1, 1, (1, 0, 0, 0), 0, 0), (31, .iconst 2, 1, (0, 0, 0, 0), 2, 0), (32, .idiv, 1, (0, 0, 0, 0), 0, 0), (33, .ireturn, 1, (0, 0, 0, 0), 0, 0)])]
-- ShareNets$Share.<init>(IIII)V
set_option maxRecDepth 100000 in
noncomputable def z_k27 : List (Nat × List (Nat × z_E)) := [(1000000, [(0, .aload_n 0, 1, (0, 0, 0, 0), 0, 0), (1, .invokespecial 1, 3, (0, 9, 0, 0), 0, 0), (4, .aload_n 0, 1, (0, 0, 0, 0), 0, 0), (5, .iload_n 1, 1, (1, 0, 0, 0), 0, 0), (6, .putfield 7, 3, (0, 0, 3, 0), 0, 0), (9, .aload_n 0, 1, (0, 0, 0, 0), 0, 0), (10, .iload_n 2, 1, (2, 0, 0, 0), 0, 0), (11, .putfield 13, 3, (1, 0, 3, 0), 0, 0), (14, .aload_n 0, 1, (0, 0, 0, 0), 0, 0), (15, .iload_n 3, 1, (3, 0, 0, 0), 0, 0), (16, .putfield 16, 3, (2, 0, 3, 0), 0, 0), (19, .aload_n 0, 1, (0, 0, 0, 0), 0, 0), (20, .iload 4, 2, (4, 0, 0, 0), 0, 0), (22, .putfield 19, 3, (3, 0, 3, 0), 0, 0), (25, .return_, 1, (0, 0, 0, 0), 0, 0)])]
-- ShareNets$Share.counts(ILShareNets$Trace;)I
set_option maxRecDepth 100000 in
noncomputable def z_k28 : List (Nat × List (Nat × z_E)) := [(1000000, [(0, .aload_n 2, 1, (2, 0, 0, 0), 0, 0), (1, .bipush 10, 2, (0, 0, 0, 0), 10, 0), (3, .invokevirtual 22, 3, (61, 4, 1, 0), 0, 0), (6, .iload_n 1, 1, (1, 0, 0, 0), 0, 0), (7, .aload_n 0, 1, (0, 0, 0, 0), 0, 0), (8, .getfield 13, 3, (1, 0, 3, 0), 0, 0), (11, .iadd, 1, (0, 0, 0, 0), 0, 0), (12, .ireturn, 1, (0, 0, 0, 0), 0, 0)])]
-- ShareNets$Share.joins(ILShareNets$Trace;)I
set_option maxRecDepth 100000 in
noncomputable def z_k29 : List (Nat × List (Nat × z_E)) := [(1000000, [(0, .aload_n 2, 1, (2, 0, 0, 0), 0, 0), (1, .bipush 11, 2, (0, 0, 0, 0), 11, 0), (3, .invokevirtual 22, 3, (61, 4, 1, 0), 0, 0), (6, .aload_n 0, 1, (0, 0, 0, 0), 0, 0), (7, .iload_n 1, 1, (1, 0, 0, 0), 0, 0), (8, .aload_n 2, 1, (2, 0, 0, 0), 0, 0), (9, .invokevirtual 28, 3, (0, 6, 2, 0), 0, 0), (12, .iconst 2, 1, (0, 0, 0, 0), 2, 0), (13, .imul, 1, (0, 0, 0, 0), 0, 0), (14, .ireturn, 1, (0, 0, 0, 0), 0, 0)])]
-- ShareNets$Share.parts(ILShareNets$Trace;)I
set_option maxRecDepth 100000 in
noncomputable def z_k30 : List (Nat × List (Nat × z_E)) := [(1000000, [(0, .aload_n 2, 1, (2, 0, 0, 0), 0, 0), (1, .bipush 12, 2, (0, 0, 0, 0), 12, 0), (3, .invokevirtual 22, 3, (61, 4, 1, 0), 0, 0), (6, .aload_n 0, 1, (0, 0, 0, 0), 0, 0), (7, .getfield 16, 3, (2, 0, 3, 0), 0, 0), (10, .aload_n 0, 1, (0, 0, 0, 0), 0, 0), (11, .getfield 13, 3, (1, 0, 3, 0), 0, 0), (14, .isub, 1, (0, 0, 0, 0), 0, 0), (15, .istore_n 3, 1, (3, 0, 0, 0), 0, 0), (16, .iload_n 3, 1, (3, 0, 0, 0), 0, 0), (17, .ifCond .ne 10, 3, (27, 0, 0, 0), 0, 0), (20, .aload_n 2, 1, (2, 0, 0, 0), 0, 0), (21, .iconst 1, 1, (0, 0, 0, 0), 1, 0), (22, .putfield 32, 3, (2, 3, 9, 0), 0, 0), (25, .iconst 0, 1, (0, 0, 0, 0), 0, 0), (26, .ireturn, 1, (0, 0, 0, 0), 0, 0), (27, .iload_n 1, 1, (1, 0, 0, 0), 0, 0), (28, .iload_n 3, 1, (3, 0, 0, 0), 0, 0), (29, .idiv, 1, (0, 0, 0, 0), 0, 0), (30, .ireturn, 1, (0, 0, 0, 0), 0, 0)])]
-- ShareNets$Share.tells(ILShareNets$Trace;)I
set_option maxRecDepth 100000 in
noncomputable def z_k31 : List (Nat × List (Nat × z_E)) := [(1000000, [(0, .aload_n 2, 1, (2, 0, 0, 0), 0, 0), (1, .bipush 13, 2, (0, 0, 0, 0), 13, 0), (3, .invokevirtual 22, 3, (61, 4, 1, 0), 0, 0), (6, .aload_n 0, 1, (0, 0, 0, 0), 0, 0), (7, .iload_n 1, 1, (1, 0, 0, 0), 0, 0), (8, .aload_n 2, 1, (2, 0, 0, 0), 0, 0), (9, .invokevirtual 36, 3, (1, 6, 2, 0), 0, 0), (12, .aload_n 0, 1, (0, 0, 0, 0), 0, 0), (13, .getfield 16, 3, (2, 0, 3, 0), 0, 0), (16, .ixor, 1, (0, 0, 0, 0), 0, 0), (17, .ireturn, 1, (0, 0, 0, 0), 0, 0)])]
-- ShareNets$Sheet.<init>()V
set_option maxRecDepth 100000 in
noncomputable def z_k32 : List (Nat × List (Nat × z_E)) := [(1000000, [(0, .aload_n 0, 1, (0, 0, 0, 0), 0, 0), (1, .invokespecial 3, 3, (0, 9, 0, 0), 0, 0), (4, .aload_n 0, 1, (0, 0, 0, 0), 0, 0), (5, .bipush 40, 2, (0, 0, 0, 0), 40, 0), (7, .newarray .long, 2, (1, 0, 0, 0), 0, 0), (9, .putfield 9, 3, (0, 2, 4, 0), 0, 0), (12, .aload_n 0, 1, (0, 0, 0, 0), 0, 0), (13, .iconst (-1), 1, (0, 0, 0, 0), (-1), 0), (14, .putfield 15, 3, (1, 0, 4, 0), 0, 0), (17, .aload_n 0, 1, (0, 0, 0, 0), 0, 0), (18, .iconst 0, 1, (0, 0, 0, 0), 0, 0), (19, .putfield 19, 3, (2, 0, 4, 0), 0, 0), (22, .return_, 1, (0, 0, 0, 0), 0, 0)])]
-- ShareNets$Sheet.become(II)V
set_option maxRecDepth 100000 in
noncomputable def z_k33 : List (Nat × List (Nat × z_E)) := [(1000000, [(0, .aload_n 0, 1, (0, 0, 0, 0), 0, 0), (1, .iload_n 1, 1, (1, 0, 0, 0), 0, 0), (2, .putfield 15, 3, (1, 0, 4, 0), 0, 0), (5, .aload_n 0, 1, (0, 0, 0, 0), 0, 0), (6, .iload_n 2, 1, (2, 0, 0, 0), 0, 0), (7, .putfield 19, 3, (2, 0, 4, 0), 0, 0), (10, .iconst 0, 1, (0, 0, 0, 0), 0, 0), (11, .istore_n 3, 1, (3, 0, 0, 0), 0, 0), (12, .iload_n 3, 1, (3, 0, 0, 0), 0, 0), (13, .bipush 40, 2, (0, 0, 0, 0), 40, 0), (15, .if_icmp .ge 16, 3, (31, 0, 0, 0), 0, 0), (18, .aload_n 0, 1, (0, 0, 0, 0), 0, 0), (19, .getfield 9, 3, (0, 2, 4, 0), 0, 0), (22, .iload_n 3, 1, (3, 0, 0, 0), 0, 0), (23, .lconst 0, 1, (0, 0, 0, 0), 0, 0), (24, .lastore, 1, (0, 0, 0, 0), 0, 0), (25, .iinc 3 1, 3, (3, 0, 0, 0), 1, 0), (28, .goto (-16), 3, (12, 0, 0, 0), 0, 0), (31, .return_, 1, (0, 0, 0, 0), 0, 0)])]
-- ShareNets$Sheet.narrow(I)J
set_option maxRecDepth 100000 in
noncomputable def z_k34 : List (Nat × List (Nat × z_E)) := [(1000000, [(0, .aload_n 0, 1, (0, 0, 0, 0), 0, 0), (1, .getfield 15, 3, (1, 0, 4, 0), 0, 0), (4, .lookupswitch 36 #[(0, 28), (1, 32)], 28, (0, 0, 0, 0), 0, 0), (32, .iload_n 1, 1, (1, 0, 0, 0), 0, 0), (33, .i2b, 1, (0, 0, 0, 0), 0, 0), (34, .i2l, 1, (0, 0, 0, 0), 0, 0), (35, .lreturn, 1, (0, 0, 0, 0), 0, 0), (36, .iload_n 1, 1, (1, 0, 0, 0), 0, 0), (37, .i2s, 1, (0, 0, 0, 0), 0, 0), (38, .i2l, 1, (0, 0, 0, 0), 0, 0), (39, .lreturn, 1, (0, 0, 0, 0), 0, 0), (40, .iload_n 1, 1, (1, 0, 0, 0), 0, 0), (41, .i2l, 1, (0, 0, 0, 0), 0, 0), (42, .lreturn, 1, (0, 0, 0, 0), 0, 0)])]
-- ShareNets$Square.<init>(III)V
set_option maxRecDepth 100000 in
noncomputable def z_k35 : List (Nat × List (Nat × z_E)) := [(1000000, [(0, .aload_n 0, 1, (0, 0, 0, 0), 0, 0), (1, .iconst 2, 1, (0, 0, 0, 0), 2, 0), (2, .iload_n 1, 1, (1, 0, 0, 0), 0, 0), (3, .iload_n 2, 1, (2, 0, 0, 0), 0, 0), (4, .iload_n 3, 1, (3, 0, 0, 0), 0, 0), (5, .invokespecial 3, 3, (38, 2, 4, 0), 0, 0), (8, .return_, 1, (0, 0, 0, 0), 0, 0)])]
-- ShareNets$Square.counts(ILShareNets$Trace;)I
set_option maxRecDepth 100000 in
noncomputable def z_k36 : List (Nat × List (Nat × z_E)) := [(1000000, [(0, .aload_n 2, 1, (2, 0, 0, 0), 0, 0), (1, .bipush 30, 2, (0, 0, 0, 0), 30, 0), (3, .invokevirtual 9, 3, (61, 4, 1, 0), 0, 0), (6, .aload_n 0, 1, (0, 0, 0, 0), 0, 0), (7, .iload_n 1, 1, (1, 0, 0, 0), 0, 0), (8, .aload_n 2, 1, (2, 0, 0, 0), 0, 0), (9, .invokespecial 15, 3, (28, 7, 2, 6), 0, 0), (12, .iconst 3, 1, (0, 0, 0, 0), 3, 0), (13, .imul, 1, (0, 0, 0, 0), 0, 0), (14, .ireturn, 1, (0, 0, 0, 0), 0, 0)])]
-- ShareNets$Square.joins(ILShareNets$Trace;)I
set_option maxRecDepth 100000 in
noncomputable def z_k37 : List (Nat × List (Nat × z_E)) := [(1000000, [(0, .aload_n 2, 1, (2, 0, 0, 0), 0, 0), (1, .bipush 31, 2, (0, 0, 0, 0), 31, 0), (3, .invokevirtual 9, 3, (61, 4, 1, 0), 0, 0), (6, .aload_n 0, 1, (0, 0, 0, 0), 0, 0), (7, .iload_n 1, 1, (1, 0, 0, 0), 0, 0), (8, .aload_n 2, 1, (2, 0, 0, 0), 0, 0), (9, .invokespecial 19, 3, (39, 7, 2, 6), 0, 0), (12, .aload_n 0, 1, (0, 0, 0, 0), 0, 0), (13, .aload_n 0, 1, (0, 0, 0, 0), 0, 0), (14, .getfield 22, 3, (1, 0, 3, 1), 0, 0), (17, .aload_n 2, 1, (2, 0, 0, 0), 0, 0), (18, .invokevirtual 28, 3, (4, 6, 2, 0), 0, 0), (21, .iadd, 1, (0, 0, 0, 0), 0, 0), (22, .ireturn, 1, (0, 0, 0, 0), 0, 0)])]
-- ShareNets$Sum.<init>(IIII)V
set_option maxRecDepth 100000 in
noncomputable def z_k38 : List (Nat × List (Nat × z_E)) := [(1000000, [(0, .aload_n 0, 1, (0, 0, 0, 0), 0, 0), (1, .iload_n 1, 1, (1, 0, 0, 0), 0, 0), (2, .iload_n 2, 1, (2, 0, 0, 0), 0, 0), (3, .iload_n 3, 1, (3, 0, 0, 0), 0, 0), (4, .iload 4, 2, (4, 0, 0, 0), 0, 0), (6, .invokespecial 1, 3, (27, 2, 4, 0), 0, 0), (9, .return_, 1, (0, 0, 0, 0), 0, 0)])]
-- ShareNets$Sum.joins(ILShareNets$Trace;)I
set_option maxRecDepth 100000 in
noncomputable def z_k39 : List (Nat × List (Nat × z_E)) := [(1000000, [(0, .aload_n 2, 1, (2, 0, 0, 0), 0, 0), (1, .bipush 20, 2, (0, 0, 0, 0), 20, 0), (3, .invokevirtual 7, 3, (61, 4, 1, 0), 0, 0), (6, .aload_n 0, 1, (0, 0, 0, 0), 0, 0), (7, .iload_n 1, 1, (1, 0, 0, 0), 0, 0), (8, .aload_n 2, 1, (2, 0, 0, 0), 0, 0), (9, .invokespecial 13, 3, (29, 7, 2, 3), 0, 0), (12, .aload_n 0, 1, (0, 0, 0, 0), 0, 0), (13, .getfield 17, 3, (2, 0, 3, 1), 0, 0), (16, .isub, 1, (0, 0, 0, 0), 0, 0), (17, .ireturn, 1, (0, 0, 0, 0), 0, 0)])]
-- ShareNets$Sum.parts(ILShareNets$Trace;)I
set_option maxRecDepth 100000 in
noncomputable def z_k40 : List (Nat × List (Nat × z_E)) := [(1000000, [(0, .aload_n 2, 1, (2, 0, 0, 0), 0, 0), (1, .bipush 21, 2, (0, 0, 0, 0), 21, 0), (3, .invokevirtual 7, 3, (61, 4, 1, 0), 0, 0), (6, .aload_n 0, 1, (0, 0, 0, 0), 0, 0), (7, .iload_n 1, 1, (1, 0, 0, 0), 0, 0), (8, .iconst 1, 1, (0, 0, 0, 0), 1, 0), (9, .iadd, 1, (0, 0, 0, 0), 0, 0), (10, .aload_n 2, 1, (2, 0, 0, 0), 0, 0), (11, .invokespecial 23, 3, (30, 7, 2, 3), 0, 0), (14, .ireturn, 1, (0, 0, 0, 0), 0, 0)])]
-- ShareNets$Tally.<init>()V
set_option maxRecDepth 100000 in
noncomputable def z_k41 : List (Nat × List (Nat × z_E)) := [(1000000, [(0, .aload_n 0, 1, (0, 0, 0, 0), 0, 0), (1, .invokespecial 3, 3, (0, 9, 0, 0), 0, 0), (4, .aload_n 0, 1, (0, 0, 0, 0), 0, 0), (5, .bipush 11, 2, (0, 0, 0, 0), 11, 0), (7, .newarray .int, 2, (0, 0, 0, 0), 0, 0), (9, .putfield 9, 3, (0, 2, 7, 0), 0, 0), (12, .aload_n 0, 1, (0, 0, 0, 0), 0, 0), (13, .iconst 4, 1, (0, 0, 0, 0), 4, 0), (14, .newarray .int, 2, (0, 0, 0, 0), 0, 0), (16, .putfield 15, 3, (1, 2, 7, 0), 0, 0), (19, .return_, 1, (0, 0, 0, 0), 0, 0)])]
-- ShareNets$Tally.take(LShareNets$Net;I)V
set_option maxRecDepth 100000 in
noncomputable def z_k42 : List (Nat × List (Nat × z_E)) := [(1000000, [(0, .iconst 0, 1, (0, 0, 0, 0), 0, 0), (1, .istore_n 3, 1, (3, 0, 0, 0), 0, 0), (2, .iload_n 3, 1, (3, 0, 0, 0), 0, 0), (3, .bipush 11, 2, (0, 0, 0, 0), 11, 0), (5, .if_icmp .ge 16, 3, (21, 0, 0, 0), 0, 0), (8, .aload_n 0, 1, (0, 0, 0, 0), 0, 0), (9, .getfield 9, 3, (0, 2, 7, 0), 0, 0), (12, .iload_n 3, 1, (3, 0, 0, 0), 0, 0), (13, .iconst 0, 1, (0, 0, 0, 0), 0, 0), (14, .iastore, 1, (0, 0, 0, 0), 0, 0), (15, .iinc 3 1, 3, (3, 0, 0, 0), 1, 0), (18, .goto (-16), 3, (2, 0, 0, 0), 0, 0), (21, .aload_n 0, 1, (0, 0, 0, 0), 0, 0), (22, .aload_n 1, 1, (1, 0, 0, 0), 0, 0), (23, .iload_n 2, 1, (2, 0, 0, 0), 0, 0), (24, .iconst 0, 1, (0, 0, 0, 0), 0, 0), (25, .iconst 0, 1, (0, 0, 0, 0), 0, 0), (26, .iconst 0, 1, (0, 0, 0, 0), 0, 0), (27, .invokevirtual 18, 3, (43, 4, 5, 0), 0, 0), (30, .return_, 1, (0, 0, 0, 0), 0, 0)])]
-- ShareNets$Tally.choose(LShareNets$Net;IIII)V
set_option maxRecDepth 100000 in
noncomputable def z_k43 : List (Nat × List (Nat × z_E)) := [(36, [(0, .iload_n 3, 1, (3, 0, 0, 0), 0, 0), (1, .iload_n 2, 1, (2, 0, 0, 0), 0, 0), (2, .if_icmp .ge 8, 3, (10, 0, 0, 0), 0, 0), (5, .iload_n 3, 1, (3, 0, 0, 0), 0, 0), (6, .iconst 4, 1, (0, 0, 0, 0), 4, 0), (7, .if_icmp .lt 22, 3, (29, 0, 0, 0), 0, 0), (10, .aload_n 0, 1, (0, 0, 0, 0), 0, 0), (11, .getfield 9, 3, (0, 2, 7, 0), 0, 0), (14, .getstatic 22, 3, (1, 0, 0, 1), 0, 0), (17, .iload 5, 2, (5, 0, 0, 0), 0, 0), (19, .bipush 63, 2, (0, 0, 0, 0), 63, 0), (21, .iand, 1, (0, 0, 0, 0), 0, 0), (22, .iaload, 1, (0, 0, 0, 0), 0, 0), (23, .dup2, 1, (0, 0, 0, 0), 0, 0), (24, .iaload, 1, (0, 0, 0, 0), 0, 0), (25, .iconst 1, 1, (0, 0, 0, 0), 1, 0), (26, .iadd, 1, (0, 0, 0, 0), 0, 0), (27, .iastore, 1, (0, 0, 0, 0), 0, 0), (28, .return_, 1, (0, 0, 0, 0), 0, 0), (29, .aload_n 1, 1, (1, 0, 0, 0), 0, 0), (30, .getfield 25, 3, (1, 0, 2, 0), 0, 0), (33, .iload_n 2, 1, (2, 0, 0, 0), 0, 0), (34, .iload_n 3, 1, (3, 0, 0, 0), 0, 0), (35, .isub, 1, (0, 0, 0, 0), 0, 0)]),
  (72, [(36, .isub, 1, (0, 0, 0, 0), 0, 0), (37, .istore 6, 2, (6, 0, 0, 0), 0, 0), (39, .iload 4, 2, (4, 0, 0, 0), 0, 0), (41, .istore 7, 2, (7, 0, 0, 0), 0, 0), (43, .iload 7, 2, (7, 0, 0, 0), 0, 0), (45, .iload 6, 2, (6, 0, 0, 0), 0, 0), (47, .if_icmp .gt 41, 3, (88, 0, 0, 0), 0, 0), (50, .aload_n 0, 1, (0, 0, 0, 0), 0, 0), (51, .getfield 15, 3, (1, 2, 7, 0), 0, 0), (54, .iload_n 3, 1, (3, 0, 0, 0), 0, 0), (55, .iload 7, 2, (7, 0, 0, 0), 0, 0), (57, .iastore, 1, (0, 0, 0, 0), 0, 0), (58, .aload_n 0, 1, (0, 0, 0, 0), 0, 0), (59, .aload_n 1, 1, (1, 0, 0, 0), 0, 0), (60, .iload_n 2, 1, (2, 0, 0, 0), 0, 0), (61, .iload_n 3, 1, (3, 0, 0, 0), 0, 0), (62, .iconst 1, 1, (0, 0, 0, 0), 1, 0), (63, .iadd, 1, (0, 0, 0, 0), 0, 0), (64, .iload 7, 2, (7, 0, 0, 0), 0, 0), (66, .iconst 1, 1, (0, 0, 0, 0), 1, 0), (67, .iadd, 1, (0, 0, 0, 0), 0, 0), (68, .iload 5, 2, (5, 0, 0, 0), 0, 0), (70, .aload_n 0, 1, (0, 0, 0, 0), 0, 0), (71, .aload_n 1, 1, (1, 0, 0, 0), 0, 0)]),
  (1000000, [(72, .iload_n 3, 1, (3, 0, 0, 0), 0, 0), (73, .iload 7, 2, (7, 0, 0, 0), 0, 0), (75, .invokevirtual 31, 3, (44, 4, 3, 0), 0, 0), (78, .ior, 1, (0, 0, 0, 0), 0, 0), (79, .invokevirtual 18, 3, (43, 4, 5, 0), 0, 0), (82, .iinc 7 1, 3, (7, 0, 0, 0), 1, 0), (85, .goto (-42), 3, (43, 0, 0, 0), 0, 0), (88, .return_, 1, (0, 0, 0, 0), 0, 0)])]
-- ShareNets$Tally.roadBits(LShareNets$Net;II)I
set_option maxRecDepth 100000 in
noncomputable def z_k44 : List (Nat × List (Nat × z_E)) := [(41, [(0, .iconst 0, 1, (0, 0, 0, 0), 0, 0), (1, .istore 4, 2, (4, 0, 0, 0), 0, 0), (3, .iconst 0, 1, (0, 0, 0, 0), 0, 0), (4, .istore 5, 2, (5, 0, 0, 0), 0, 0), (6, .iload 5, 2, (5, 0, 0, 0), 0, 0), (8, .iload_n 2, 1, (2, 0, 0, 0), 0, 0), (9, .if_icmp .ge 38, 3, (47, 0, 0, 0), 0, 0), (12, .aload_n 1, 1, (1, 0, 0, 0), 0, 0), (13, .aload_n 0, 1, (0, 0, 0, 0), 0, 0), (14, .getfield 15, 3, (1, 2, 7, 0), 0, 0), (17, .iload 5, 2, (5, 0, 0, 0), 0, 0), (19, .iaload, 1, (0, 0, 0, 0), 0, 0), (20, .iload_n 3, 1, (3, 0, 0, 0), 0, 0), (21, .invokevirtual 35, 3, (22, 4, 2, 0), 0, 0), (24, .ifCond .eq 17, 3, (41, 0, 0, 0), 0, 0), (27, .iload 4, 2, (4, 0, 0, 0), 0, 0), (29, .iconst 1, 1, (0, 0, 0, 0), 1, 0), (30, .iload_n 2, 1, (2, 0, 0, 0), 0, 0), (31, .invokestatic 39, 3, (126, 1, 1, 0), 0, 0), (34, .iload 5, 2, (5, 0, 0, 0), 0, 0), (36, .iadd, 1, (0, 0, 0, 0), 0, 0), (37, .ishl, 1, (0, 0, 0, 0), 0, 0), (38, .ior, 1, (0, 0, 0, 0), 0, 0), (39, .istore 4, 2, (4, 0, 0, 0), 0, 0)]),
  (1000000, [(41, .iinc 5 1, 3, (5, 0, 0, 0), 1, 0), (44, .goto (-38), 3, (6, 0, 0, 0), 0, 0), (47, .iload 4, 2, (4, 0, 0, 0), 0, 0), (49, .ireturn, 1, (0, 0, 0, 0), 0, 0)])]
-- ShareNets$Tape.<init>()V
set_option maxRecDepth 100000 in
noncomputable def z_k45 : List (Nat × List (Nat × z_E)) := [(1000000, [(0, .aload_n 0, 1, (0, 0, 0, 0), 0, 0), (1, .invokespecial 3, 3, (0, 9, 0, 0), 0, 0), (4, .aload_n 0, 1, (0, 0, 0, 0), 0, 0), (5, .new 9, 3, (2, 0, 0, 0), 0, 0), (8, .dup, 1, (0, 0, 0, 0), 0, 0), (9, .invokespecial 11, 3, (18, 3, 0, 0), 0, 0), (12, .putfield 12, 3, (0, 2, 8, 0), 0, 0), (15, .aload_n 0, 1, (0, 0, 0, 0), 0, 0), (16, .iconst 0, 1, (0, 0, 0, 0), 0, 0), (17, .putfield 18, 3, (1, 0, 8, 0), 0, 0), (20, .aload_n 0, 1, (0, 0, 0, 0), 0, 0), (21, .sipush 160, 3, (0, 0, 0, 0), 160, 0), (24, .newarray .int, 2, (0, 0, 0, 0), 0, 0), (26, .putfield 22, 3, (2, 2, 8, 0), 0, 0), (29, .aload_n 0, 1, (0, 0, 0, 0), 0, 0), (30, .iconst 0, 1, (0, 0, 0, 0), 0, 0), (31, .putfield 26, 3, (3, 0, 8, 0), 0, 0), (34, .aload_n 0, 1, (0, 0, 0, 0), 0, 0), (35, .iconst 0, 1, (0, 0, 0, 0), 0, 0), (36, .putfield 29, 3, (4, 0, 8, 0), 0, 0), (39, .return_, 1, (0, 0, 0, 0), 0, 0)])]
-- ShareNets$Tape.takeBytes(JI)I
set_option maxRecDepth 100000 in
noncomputable def z_k46 : List (Nat × List (Nat × z_E)) := [(42, [(0, .aload_n 0, 1, (0, 0, 0, 0), 0, 0), (1, .getfield 18, 3, (1, 0, 8, 0), 0, 0), (4, .iload_n 3, 1, (3, 0, 0, 0), 0, 0), (5, .iadd, 1, (0, 0, 0, 0), 0, 0), (6, .sipush 160, 3, (0, 0, 0, 0), 160, 0), (9, .if_icmp .le 6, 3, (15, 0, 0, 0), 0, 0), (12, .bipush (-2), 2, (0, 0, 0, 0), (-2), 0), (14, .ireturn, 1, (0, 0, 0, 0), 0, 0), (15, .iconst 0, 1, (0, 0, 0, 0), 0, 0), (16, .istore 4, 2, (4, 0, 0, 0), 0, 0), (18, .iload 4, 2, (4, 0, 0, 0), 0, 0), (20, .iload_n 3, 1, (3, 0, 0, 0), 0, 0), (21, .if_icmp .ge 33, 3, (54, 0, 0, 0), 0, 0), (24, .aload_n 0, 1, (0, 0, 0, 0), 0, 0), (25, .getfield 22, 3, (2, 2, 8, 0), 0, 0), (28, .aload_n 0, 1, (0, 0, 0, 0), 0, 0), (29, .getfield 18, 3, (1, 0, 8, 0), 0, 0), (32, .iload 4, 2, (4, 0, 0, 0), 0, 0), (34, .iadd, 1, (0, 0, 0, 0), 0, 0), (35, .lload_n 1, 1, (1, 0, 0, 0), 0, 0), (36, .bipush 8, 2, (0, 0, 0, 0), 8, 0), (38, .iload 4, 2, (4, 0, 0, 0), 0, 0), (40, .imul, 1, (0, 0, 0, 0), 0, 0), (41, .lushr, 1, (0, 0, 0, 0), 0, 0)]),
  (1000000, [(42, .l2i, 1, (0, 0, 0, 0), 0, 0), (43, .sipush 255, 3, (0, 0, 0, 0), 255, 0), (46, .iand, 1, (0, 0, 0, 0), 0, 0), (47, .iastore, 1, (0, 0, 0, 0), 0, 0), (48, .iinc 4 1, 3, (4, 0, 0, 0), 1, 0), (51, .goto (-33), 3, (18, 0, 0, 0), 0, 0), (54, .aload_n 0, 1, (0, 0, 0, 0), 0, 0), (55, .dup, 1, (0, 0, 0, 0), 0, 0), (56, .getfield 18, 3, (1, 0, 8, 0), 0, 0), (59, .iload_n 3, 1, (3, 0, 0, 0), 0, 0), (60, .iadd, 1, (0, 0, 0, 0), 0, 0), (61, .putfield 18, 3, (1, 0, 8, 0), 0, 0), (64, .aload_n 0, 1, (0, 0, 0, 0), 0, 0), (65, .getfield 18, 3, (1, 0, 8, 0), 0, 0), (68, .ireturn, 1, (0, 0, 0, 0), 0, 0)])]
-- ShareNets$Tape.useUp()I
set_option maxRecDepth 100000 in
noncomputable def z_k47 : List (Nat × List (Nat × z_E)) := [(1000000, [(0, .aload_n 0, 1, (0, 0, 0, 0), 0, 0), (1, .iconst 0, 1, (0, 0, 0, 0), 0, 0), (2, .putfield 29, 3, (4, 0, 8, 0), 0, 0), (5, .aload_n 0, 1, (0, 0, 0, 0), 0, 0), (6, .invokevirtual 32, 3, (51, 4, 0, 0), 0, 0), (9, .aload_n 0, 1, (0, 0, 0, 0), 0, 0), (10, .invokevirtual 35, 3, (48, 4, 0, 0), 0, 0), (13, .ifCond .eq 7, 3, (20, 0, 0, 0), 0, 0), (16, .iconst (-1), 1, (0, 0, 0, 0), (-1), 0), (17, .goto 7, 3, (24, 0, 0, 0), 0, 0), (20, .aload_n 0, 1, (0, 0, 0, 0), 0, 0), (21, .getfield 26, 3, (3, 0, 8, 0), 0, 0), (24, .istore_n 1, 1, (1, 0, 0, 0), 0, 0), (25, .aload_n 0, 1, (0, 0, 0, 0), 0, 0), (26, .iconst 0, 1, (0, 0, 0, 0), 0, 0), (27, .putfield 18, 3, (1, 0, 8, 0), 0, 0), (30, .iload_n 1, 1, (1, 0, 0, 0), 0, 0), (31, .ireturn, 1, (0, 0, 0, 0), 0, 0)])]
-- ShareNets$Tape.isText()Z
set_option maxRecDepth 100000 in
noncomputable def z_k48 : List (Nat × List (Nat × z_E)) := [(42, [(0, .aload_n 0, 1, (0, 0, 0, 0), 0, 0), (1, .ldc 39, 2, (1, 0, 0, 0), 0, 0), (3, .invokevirtual 41, 3, (57, 4, 1, 0), 0, 0), (6, .ifCond .ne 5, 3, (11, 0, 0, 0), 0, 0), (9, .iconst 0, 1, (0, 0, 0, 0), 0, 0), (10, .ireturn, 1, (1, 0, 0, 0), 0, 0), (11, .aload_n 0, 1, (0, 0, 0, 0), 0, 0), (12, .invokevirtual 32, 3, (51, 4, 0, 0), 0, 0), (15, .aload_n 0, 1, (0, 0, 0, 0), 0, 0), (16, .invokevirtual 45, 3, (58, 4, 0, 0), 0, 0), (19, .istore_n 1, 1, (1, 0, 0, 0), 0, 0), (20, .iload_n 1, 1, (1, 0, 0, 0), 0, 0), (21, .iconst 1, 1, (0, 0, 0, 0), 1, 0), (22, .if_icmp .lt 9, 3, (31, 0, 0, 0), 0, 0), (25, .iload_n 1, 1, (1, 0, 0, 0), 0, 0), (26, .bipush 10, 2, (0, 0, 0, 0), 10, 0), (28, .if_icmp .le 5, 3, (33, 0, 0, 0), 0, 0), (31, .iconst 0, 1, (0, 0, 0, 0), 0, 0), (32, .ireturn, 1, (1, 0, 0, 0), 0, 0), (33, .aload_n 0, 1, (0, 0, 0, 0), 0, 0), (34, .getfield 12, 3, (0, 2, 8, 0), 0, 0), (37, .iload_n 1, 1, (1, 0, 0, 0), 0, 0), (38, .invokevirtual 49, 3, (19, 4, 1, 0), 0, 0), (41, .aload_n 0, 1, (0, 0, 0, 0), 0, 0)]),
  (89, [(42, .invokevirtual 32, 3, (51, 4, 0, 0), 0, 0), (45, .aload_n 0, 1, (0, 0, 0, 0), 0, 0), (46, .bipush 59, 2, (0, 0, 0, 0), 59, 0), (48, .invokevirtual 53, 3, (56, 4, 1, 0), 0, 0), (51, .ifCond .ne 5, 3, (56, 0, 0, 0), 0, 0), (54, .iconst 0, 1, (0, 0, 0, 0), 0, 0), (55, .ireturn, 1, (1, 0, 0, 0), 0, 0), (56, .aload_n 0, 1, (0, 0, 0, 0), 0, 0), (57, .invokevirtual 32, 3, (51, 4, 0, 0), 0, 0), (60, .iconst 0, 1, (0, 0, 0, 0), 0, 0), (61, .istore_n 2, 1, (2, 0, 0, 0), 0, 0), (62, .iload_n 2, 1, (2, 0, 0, 0), 0, 0), (63, .sipush 160, 3, (0, 0, 0, 0), 160, 0), (66, .if_icmp .ge 29, 3, (95, 0, 0, 0), 0, 0), (69, .aload_n 0, 1, (0, 0, 0, 0), 0, 0), (70, .getfield 26, 3, (3, 0, 8, 0), 0, 0), (73, .aload_n 0, 1, (0, 0, 0, 0), 0, 0), (74, .getfield 18, 3, (1, 0, 8, 0), 0, 0), (77, .if_icmp .ge 18, 3, (95, 0, 0, 0), 0, 0), (80, .aload_n 0, 1, (0, 0, 0, 0), 0, 0), (81, .invokevirtual 57, 3, (49, 4, 0, 0), 0, 0), (84, .ifCond .ne 5, 3, (89, 0, 0, 0), 0, 0), (87, .iconst 0, 1, (0, 0, 0, 0), 0, 0), (88, .ireturn, 1, (1, 0, 0, 0), 0, 0)]),
  (1000000, [(89, .iinc 2 1, 3, (2, 0, 0, 0), 1, 0), (92, .goto (-30), 3, (62, 0, 0, 0), 0, 0), (95, .iconst 1, 1, (0, 0, 0, 0), 1, 0), (96, .ireturn, 1, (1, 0, 0, 0), 0, 0)])]
-- ShareNets$Tape.isPhrase()Z
set_option maxRecDepth 100000 in
noncomputable def z_k49 : List (Nat × List (Nat × z_E)) := [(45, [(0, .aload_n 0, 1, (0, 0, 0, 0), 0, 0), (1, .ldc 60, 2, (1, 1, 0, 0), 0, 0), (3, .invokevirtual 41, 3, (57, 4, 1, 0), 0, 0), (6, .istore_n 1, 1, (1, 0, 0, 0), 0, 0), (7, .aload_n 0, 1, (0, 0, 0, 0), 0, 0), (8, .ldc 62, 2, (1, 2, 0, 0), 0, 0), (10, .invokevirtual 41, 3, (57, 4, 1, 0), 0, 0), (13, .istore_n 2, 1, (2, 0, 0, 0), 0, 0), (14, .iload_n 1, 1, (1, 0, 0, 0), 0, 0), (15, .ifCond .ne 18, 3, (33, 0, 0, 0), 0, 0), (18, .iload_n 2, 1, (2, 0, 0, 0), 0, 0), (19, .ifCond .ne 14, 3, (33, 0, 0, 0), 0, 0), (22, .aload_n 0, 1, (0, 0, 0, 0), 0, 0), (23, .ldc 64, 2, (1, 3, 0, 0), 0, 0), (25, .invokevirtual 41, 3, (57, 4, 1, 0), 0, 0), (28, .ifCond .ne 5, 3, (33, 0, 0, 0), 0, 0), (31, .iconst 0, 1, (0, 0, 0, 0), 0, 0), (32, .ireturn, 1, (1, 0, 0, 0), 0, 0), (33, .aload_n 0, 1, (0, 0, 0, 0), 0, 0), (34, .invokevirtual 32, 3, (51, 4, 0, 0), 0, 0), (37, .iload_n 1, 1, (1, 0, 0, 0), 0, 0), (38, .ifCond .eq 7, 3, (45, 0, 0, 0), 0, 0), (41, .iconst 1, 1, (0, 0, 0, 0), 1, 0), (42, .goto 12, 3, (54, 0, 0, 0), 0, 0)]),
  (89, [(45, .iload_n 2, 1, (2, 0, 0, 0), 0, 0), (46, .ifCond .eq 7, 3, (53, 0, 0, 0), 0, 0), (49, .iconst 3, 1, (0, 0, 0, 0), 3, 0), (50, .goto 4, 3, (54, 0, 0, 0), 0, 0), (53, .iconst 2, 1, (0, 0, 0, 0), 2, 0), (54, .istore_n 3, 1, (3, 0, 0, 0), 0, 0), (55, .iconst 0, 1, (0, 0, 0, 0), 0, 0), (56, .istore 4, 2, (4, 0, 0, 0), 0, 0), (58, .iconst 0, 1, (0, 0, 0, 0), 0, 0), (59, .istore 5, 2, (5, 0, 0, 0), 0, 0), (61, .iconst 0, 1, (0, 0, 0, 0), 0, 0), (62, .istore 6, 2, (6, 0, 0, 0), 0, 0), (64, .iconst 0, 1, (0, 0, 0, 0), 0, 0), (65, .istore 7, 2, (7, 0, 0, 0), 0, 0), (67, .iload 7, 2, (7, 0, 0, 0), 0, 0), (69, .bipush 10, 2, (0, 0, 0, 0), 10, 0), (71, .if_icmp .ge 118, 3, (189, 0, 0, 0), 0, 0), (74, .iload 7, 2, (7, 0, 0, 0), 0, 0), (76, .iload_n 3, 1, (3, 0, 0, 0), 0, 0), (77, .if_icmp .lt 12, 3, (89, 0, 0, 0), 0, 0), (80, .aload_n 0, 1, (0, 0, 0, 0), 0, 0), (81, .bipush 59, 2, (0, 0, 0, 0), 59, 0), (83, .invokevirtual 53, 3, (56, 4, 1, 0), 0, 0), (86, .ifCond .ne 103, 3, (189, 0, 0, 0), 0, 0)]),
  (138, [(89, .aload_n 0, 1, (0, 0, 0, 0), 0, 0), (90, .invokevirtual 45, 3, (58, 4, 0, 0), 0, 0), (93, .istore 8, 2, (8, 0, 0, 0), 0, 0), (95, .iload 8, 2, (8, 0, 0, 0), 0, 0), (97, .ifCond .lt 25, 3, (122, 0, 0, 0), 0, 0), (100, .iload 8, 2, (8, 0, 0, 0), 0, 0), (102, .aload_n 0, 1, (0, 0, 0, 0), 0, 0), (103, .getfield 12, 3, (0, 2, 8, 0), 0, 0), (106, .getfield 66, 3, (1, 0, 2, 0), 0, 0), (109, .if_icmp .ge 13, 3, (122, 0, 0, 0), 0, 0), (112, .iload 4, 2, (4, 0, 0, 0), 0, 0), (114, .iload 8, 2, (8, 0, 0, 0), 0, 0), (116, .ishr, 1, (0, 0, 0, 0), 0, 0), (117, .iconst 1, 1, (0, 0, 0, 0), 1, 0), (118, .iand, 1, (0, 0, 0, 0), 0, 0), (119, .ifCond .eq 5, 3, (124, 0, 0, 0), 0, 0), (122, .iconst 0, 1, (0, 0, 0, 0), 0, 0), (123, .ireturn, 1, (1, 0, 0, 0), 0, 0), (124, .iload 7, 2, (7, 0, 0, 0), 0, 0), (126, .ifCond .ne 8, 3, (134, 0, 0, 0), 0, 0), (129, .iload 8, 2, (8, 0, 0, 0), 0, 0), (131, .goto 5, 3, (136, 0, 0, 0), 0, 0), (134, .iload 5, 2, (5, 0, 0, 0), 0, 0), (136, .istore 5, 2, (5, 0, 0, 0), 0, 0)]),
  (183, [(138, .aload_n 0, 1, (0, 0, 0, 0), 0, 0), (139, .iload 8, 2, (8, 0, 0, 0), 0, 0), (141, .iload_n 1, 1, (1, 0, 0, 0), 0, 0), (142, .ifCond .eq 8, 3, (150, 0, 0, 0), 0, 0), (145, .iload 4, 2, (4, 0, 0, 0), 0, 0), (147, .goto 16, 3, (163, 0, 0, 0), 0, 0), (150, .iload 7, 2, (7, 0, 0, 0), 0, 0), (152, .ifCond .ne 7, 3, (159, 0, 0, 0), 0, 0), (155, .iconst 0, 1, (0, 0, 0, 0), 0, 0), (156, .goto 7, 3, (163, 0, 0, 0), 0, 0), (159, .iconst 1, 1, (0, 0, 0, 0), 1, 0), (160, .iload 6, 2, (6, 0, 0, 0), 0, 0), (162, .ishl, 1, (0, 0, 0, 0), 0, 0), (163, .invokevirtual 67, 3, (50, 4, 2, 0), 0, 0), (166, .iload 4, 2, (4, 0, 0, 0), 0, 0), (168, .iconst 1, 1, (0, 0, 0, 0), 1, 0), (169, .iload 8, 2, (8, 0, 0, 0), 0, 0), (171, .ishl, 1, (0, 0, 0, 0), 0, 0), (172, .ior, 1, (0, 0, 0, 0), 0, 0), (173, .istore 4, 2, (4, 0, 0, 0), 0, 0), (175, .iload 8, 2, (8, 0, 0, 0), 0, 0), (177, .istore 6, 2, (6, 0, 0, 0), 0, 0), (179, .aload_n 0, 1, (0, 0, 0, 0), 0, 0), (180, .invokevirtual 32, 3, (51, 4, 0, 0), 0, 0)]),
  (1000000, [(183, .iinc 7 1, 3, (7, 0, 0, 0), 1, 0), (186, .goto (-119), 3, (67, 0, 0, 0), 0, 0), (189, .aload_n 0, 1, (0, 0, 0, 0), 0, 0), (190, .bipush 59, 2, (0, 0, 0, 0), 59, 0), (192, .invokevirtual 53, 3, (56, 4, 1, 0), 0, 0), (195, .ifCond .ne 5, 3, (200, 0, 0, 0), 0, 0), (198, .iconst 0, 1, (0, 0, 0, 0), 0, 0), (199, .ireturn, 1, (1, 0, 0, 0), 0, 0), (200, .iload_n 2, 1, (2, 0, 0, 0), 0, 0), (201, .ifCond .eq 15, 3, (216, 0, 0, 0), 0, 0), (204, .aload_n 0, 1, (0, 0, 0, 0), 0, 0), (205, .getfield 12, 3, (0, 2, 8, 0), 0, 0), (208, .iload 6, 2, (6, 0, 0, 0), 0, 0), (210, .iload 5, 2, (5, 0, 0, 0), 0, 0), (212, .iconst 1, 1, (0, 0, 0, 0), 1, 0), (213, .invokevirtual 71, 3, (23, 4, 3, 0), 0, 0), (216, .aload_n 0, 1, (0, 0, 0, 0), 0, 0), (217, .invokevirtual 32, 3, (51, 4, 0, 0), 0, 0), (220, .iconst 1, 1, (0, 0, 0, 0), 1, 0), (221, .ireturn, 1, (1, 0, 0, 0), 0, 0)])]
-- ShareNets$Tape.joinPost(II)V
set_option maxRecDepth 100000 in
noncomputable def z_k50 : List (Nat × List (Nat × z_E)) := [(1000000, [(0, .iconst 0, 1, (0, 0, 0, 0), 0, 0), (1, .istore_n 3, 1, (3, 0, 0, 0), 0, 0), (2, .iload_n 3, 1, (3, 0, 0, 0), 0, 0), (3, .aload_n 0, 1, (0, 0, 0, 0), 0, 0), (4, .getfield 12, 3, (0, 2, 8, 0), 0, 0), (7, .getfield 66, 3, (1, 0, 2, 0), 0, 0), (10, .if_icmp .ge 27, 3, (37, 0, 0, 0), 0, 0), (13, .iload_n 2, 1, (2, 0, 0, 0), 0, 0), (14, .iload_n 3, 1, (3, 0, 0, 0), 0, 0), (15, .ishr, 1, (0, 0, 0, 0), 0, 0), (16, .iconst 1, 1, (0, 0, 0, 0), 1, 0), (17, .iand, 1, (0, 0, 0, 0), 0, 0), (18, .ifCond .eq 13, 3, (31, 0, 0, 0), 0, 0), (21, .aload_n 0, 1, (0, 0, 0, 0), 0, 0), (22, .getfield 12, 3, (0, 2, 8, 0), 0, 0), (25, .iload_n 3, 1, (3, 0, 0, 0), 0, 0), (26, .iload_n 1, 1, (1, 0, 0, 0), 0, 0), (27, .iconst 1, 1, (0, 0, 0, 0), 1, 0), (28, .invokevirtual 71, 3, (23, 4, 3, 0), 0, 0), (31, .iinc 3 1, 3, (3, 0, 0, 0), 1, 0), (34, .goto (-32), 3, (2, 0, 0, 0), 0, 0), (37, .return_, 1, (0, 0, 0, 0), 0, 0)])]
-- ShareNets$Tape.goOn()V
set_option maxRecDepth 100000 in
noncomputable def z_k51 : List (Nat × List (Nat × z_E)) := [(47, [(0, .aload_n 0, 1, (0, 0, 0, 0), 0, 0), (1, .aload_n 0, 1, (0, 0, 0, 0), 0, 0), (2, .getfield 29, 3, (4, 0, 8, 0), 0, 0), (5, .putfield 26, 3, (3, 0, 8, 0), 0, 0), (8, .iconst 0, 1, (0, 0, 0, 0), 0, 0), (9, .istore_n 1, 1, (1, 0, 0, 0), 0, 0), (10, .iload_n 1, 1, (1, 0, 0, 0), 0, 0), (11, .sipush 160, 3, (0, 0, 0, 0), 160, 0), (14, .if_icmp .ge 32, 3, (46, 0, 0, 0), 0, 0), (17, .aload_n 0, 1, (0, 0, 0, 0), 0, 0), (18, .aload_n 0, 1, (0, 0, 0, 0), 0, 0), (19, .getfield 26, 3, (3, 0, 8, 0), 0, 0), (22, .invokevirtual 75, 3, (53, 4, 1, 0), 0, 0), (25, .bipush 32, 2, (0, 0, 0, 0), 32, 0), (27, .if_icmp .ne 19, 3, (46, 0, 0, 0), 0, 0), (30, .aload_n 0, 1, (0, 0, 0, 0), 0, 0), (31, .dup, 1, (0, 0, 0, 0), 0, 0), (32, .getfield 26, 3, (3, 0, 8, 0), 0, 0), (35, .iconst 1, 1, (0, 0, 0, 0), 1, 0), (36, .iadd, 1, (0, 0, 0, 0), 0, 0), (37, .putfield 26, 3, (3, 0, 8, 0), 0, 0), (40, .iinc 1 1, 3, (1, 0, 0, 0), 1, 0), (43, .goto (-33), 3, (10, 0, 0, 0), 0, 0), (46, .aload_n 0, 1, (0, 0, 0, 0), 0, 0)]),
  (95, [(47, .aload_n 0, 1, (0, 0, 0, 0), 0, 0), (48, .getfield 26, 3, (3, 0, 8, 0), 0, 0), (51, .aload_n 0, 1, (0, 0, 0, 0), 0, 0), (52, .getfield 18, 3, (1, 0, 8, 0), 0, 0), (55, .if_icmp .ge 12, 3, (67, 0, 0, 0), 0, 0), (58, .aload_n 0, 1, (0, 0, 0, 0), 0, 0), (59, .getfield 26, 3, (3, 0, 8, 0), 0, 0), (62, .iconst 1, 1, (0, 0, 0, 0), 1, 0), (63, .iadd, 1, (0, 0, 0, 0), 0, 0), (64, .goto 7, 3, (71, 0, 0, 0), 0, 0), (67, .aload_n 0, 1, (0, 0, 0, 0), 0, 0), (68, .getfield 26, 3, (3, 0, 8, 0), 0, 0), (71, .putfield 29, 3, (4, 0, 8, 0), 0, 0), (74, .iconst 0, 1, (0, 0, 0, 0), 0, 0), (75, .istore_n 1, 1, (1, 0, 0, 0), 0, 0), (76, .iload_n 1, 1, (1, 0, 0, 0), 0, 0), (77, .sipush 160, 3, (0, 0, 0, 0), 160, 0), (80, .if_icmp .ge 30, 3, (110, 0, 0, 0), 0, 0), (83, .aload_n 0, 1, (0, 0, 0, 0), 0, 0), (84, .aload_n 0, 1, (0, 0, 0, 0), 0, 0), (85, .getfield 29, 3, (4, 0, 8, 0), 0, 0), (88, .invokevirtual 79, 3, (52, 4, 1, 0), 0, 0), (91, .ifCond .eq 19, 3, (110, 0, 0, 0), 0, 0), (94, .aload_n 0, 1, (0, 0, 0, 0), 0, 0)]),
  (1000000, [(95, .dup, 1, (0, 0, 0, 0), 0, 0), (96, .getfield 29, 3, (4, 0, 8, 0), 0, 0), (99, .iconst 1, 1, (0, 0, 0, 0), 1, 0), (100, .iadd, 1, (0, 0, 0, 0), 0, 0), (101, .putfield 29, 3, (4, 0, 8, 0), 0, 0), (104, .iinc 1 1, 3, (1, 0, 0, 0), 1, 0), (107, .goto (-31), 3, (76, 0, 0, 0), 0, 0), (110, .return_, 1, (0, 0, 0, 0), 0, 0)])]
-- ShareNets$Tape.goesOnAt(I)Z
set_option maxRecDepth 100000 in
noncomputable def z_k52 : List (Nat × List (Nat × z_E)) := [(48, [(0, .aload_n 0, 1, (0, 0, 0, 0), 0, 0), (1, .aload_n 0, 1, (0, 0, 0, 0), 0, 0), (2, .getfield 26, 3, (3, 0, 8, 0), 0, 0), (5, .invokevirtual 75, 3, (53, 4, 1, 0), 0, 0), (8, .istore_n 2, 1, (2, 0, 0, 0), 0, 0), (9, .aload_n 0, 1, (0, 0, 0, 0), 0, 0), (10, .iload_n 1, 1, (1, 0, 0, 0), 0, 0), (11, .invokevirtual 75, 3, (53, 4, 1, 0), 0, 0), (14, .istore_n 3, 1, (3, 0, 0, 0), 0, 0), (15, .iload_n 2, 1, (2, 0, 0, 0), 0, 0), (16, .invokestatic 82, 3, (54, 0, 1, 0), 0, 0), (19, .ifCond .eq 10, 3, (29, 0, 0, 0), 0, 0), (22, .iload_n 3, 1, (3, 0, 0, 0), 0, 0), (23, .invokestatic 82, 3, (54, 0, 1, 0), 0, 0), (26, .ifCond .ne 17, 3, (43, 0, 0, 0), 0, 0), (29, .iload_n 2, 1, (2, 0, 0, 0), 0, 0), (30, .invokestatic 85, 3, (55, 0, 1, 0), 0, 0), (33, .ifCond .eq 14, 3, (47, 0, 0, 0), 0, 0), (36, .iload_n 3, 1, (3, 0, 0, 0), 0, 0), (37, .invokestatic 85, 3, (55, 0, 1, 0), 0, 0), (40, .ifCond .eq 7, 3, (47, 0, 0, 0), 0, 0), (43, .iconst 1, 1, (0, 0, 0, 0), 1, 0), (44, .goto 4, 3, (48, 0, 0, 0), 0, 0), (47, .iconst 0, 1, (0, 0, 0, 0), 0, 0)]),
  (1000000, [(48, .ireturn, 1, (1, 0, 0, 0), 0, 0)])]
-- ShareNets$Tape.byteAt(I)I
set_option maxRecDepth 100000 in
noncomputable def z_k53 : List (Nat × List (Nat × z_E)) := [(1000000, [(0, .iload_n 1, 1, (1, 0, 0, 0), 0, 0), (1, .ifCond .lt 27, 3, (28, 0, 0, 0), 0, 0), (4, .iload_n 1, 1, (1, 0, 0, 0), 0, 0), (5, .aload_n 0, 1, (0, 0, 0, 0), 0, 0), (6, .getfield 18, 3, (1, 0, 8, 0), 0, 0), (9, .if_icmp .ge 19, 3, (28, 0, 0, 0), 0, 0), (12, .iload_n 1, 1, (1, 0, 0, 0), 0, 0), (13, .sipush 160, 3, (0, 0, 0, 0), 160, 0), (16, .if_icmp .ge 12, 3, (28, 0, 0, 0), 0, 0), (19, .aload_n 0, 1, (0, 0, 0, 0), 0, 0), (20, .getfield 22, 3, (2, 2, 8, 0), 0, 0), (23, .iload_n 1, 1, (1, 0, 0, 0), 0, 0), (24, .iaload, 1, (0, 0, 0, 0), 0, 0), (25, .goto 4, 3, (29, 0, 0, 0), 0, 0), (28, .iconst (-1), 1, (0, 0, 0, 0), (-1), 0), (29, .ireturn, 1, (0, 0, 0, 0), 0, 0)])]
-- ShareNets$Tape.isLetter(I)Z
set_option maxRecDepth 100000 in
noncomputable def z_k54 : List (Nat × List (Nat × z_E)) := [(1000000, [(0, .iload_n 0, 1, (0, 0, 0, 0), 0, 0), (1, .bipush 97, 2, (0, 0, 0, 0), 97, 0), (3, .if_icmp .lt 13, 3, (16, 0, 0, 0), 0, 0), (6, .iload_n 0, 1, (0, 0, 0, 0), 0, 0), (7, .bipush 122, 2, (0, 0, 0, 0), 122, 0), (9, .if_icmp .gt 7, 3, (16, 0, 0, 0), 0, 0), (12, .iconst 1, 1, (0, 0, 0, 0), 1, 0), (13, .goto 4, 3, (17, 0, 0, 0), 0, 0), (16, .iconst 0, 1, (0, 0, 0, 0), 0, 0), (17, .ireturn, 1, (1, 0, 0, 0), 0, 0)])]
-- ShareNets$Tape.isDigit(I)Z
set_option maxRecDepth 100000 in
noncomputable def z_k55 : List (Nat × List (Nat × z_E)) := [(1000000, [(0, .iload_n 0, 1, (0, 0, 0, 0), 0, 0), (1, .bipush 48, 2, (0, 0, 0, 0), 48, 0), (3, .if_icmp .lt 13, 3, (16, 0, 0, 0), 0, 0), (6, .iload_n 0, 1, (0, 0, 0, 0), 0, 0), (7, .bipush 57, 2, (0, 0, 0, 0), 57, 0), (9, .if_icmp .gt 7, 3, (16, 0, 0, 0), 0, 0), (12, .iconst 1, 1, (0, 0, 0, 0), 1, 0), (13, .goto 4, 3, (17, 0, 0, 0), 0, 0), (16, .iconst 0, 1, (0, 0, 0, 0), 0, 0), (17, .ireturn, 1, (1, 0, 0, 0), 0, 0)])]
-- ShareNets$Tape.isByte(I)Z
set_option maxRecDepth 100000 in
noncomputable def z_k56 : List (Nat × List (Nat × z_E)) := [(1000000, [(0, .aload_n 0, 1, (0, 0, 0, 0), 0, 0), (1, .aload_n 0, 1, (0, 0, 0, 0), 0, 0), (2, .getfield 26, 3, (3, 0, 8, 0), 0, 0), (5, .invokevirtual 75, 3, (53, 4, 1, 0), 0, 0), (8, .iload_n 1, 1, (1, 0, 0, 0), 0, 0), (9, .if_icmp .ne 7, 3, (16, 0, 0, 0), 0, 0), (12, .iconst 1, 1, (0, 0, 0, 0), 1, 0), (13, .goto 4, 3, (17, 0, 0, 0), 0, 0), (16, .iconst 0, 1, (0, 0, 0, 0), 0, 0), (17, .ireturn, 1, (1, 0, 0, 0), 0, 0)])]
-- ShareNets$Tape.isName(Ljava/lang/String;)Z
set_option maxRecDepth 100000 in
noncomputable def z_k57 : List (Nat × List (Nat × z_E)) := [(40, [(0, .aload_n 0, 1, (0, 0, 0, 0), 0, 0), (1, .getfield 29, 3, (4, 0, 8, 0), 0, 0), (4, .aload_n 0, 1, (0, 0, 0, 0), 0, 0), (5, .getfield 26, 3, (3, 0, 8, 0), 0, 0), (8, .isub, 1, (0, 0, 0, 0), 0, 0), (9, .aload_n 1, 1, (1, 0, 0, 0), 0, 0), (10, .invokevirtual 88, 3, (278, 4, 0, 0), 0, 0), (13, .if_icmp .eq 5, 3, (18, 0, 0, 0), 0, 0), (16, .iconst 0, 1, (0, 0, 0, 0), 0, 0), (17, .ireturn, 1, (1, 0, 0, 0), 0, 0), (18, .iconst 0, 1, (0, 0, 0, 0), 0, 0), (19, .istore_n 2, 1, (2, 0, 0, 0), 0, 0), (20, .iload_n 2, 1, (2, 0, 0, 0), 0, 0), (21, .aload_n 1, 1, (1, 0, 0, 0), 0, 0), (22, .invokevirtual 88, 3, (278, 4, 0, 0), 0, 0), (25, .if_icmp .ge 29, 3, (54, 0, 0, 0), 0, 0), (28, .aload_n 0, 1, (0, 0, 0, 0), 0, 0), (29, .aload_n 0, 1, (0, 0, 0, 0), 0, 0), (30, .getfield 26, 3, (3, 0, 8, 0), 0, 0), (33, .iload_n 2, 1, (2, 0, 0, 0), 0, 0), (34, .iadd, 1, (0, 0, 0, 0), 0, 0), (35, .invokevirtual 75, 3, (53, 4, 1, 0), 0, 0), (38, .aload_n 1, 1, (1, 0, 0, 0), 0, 0), (39, .iload_n 2, 1, (2, 0, 0, 0), 0, 0)]),
  (1000000, [(40, .invokevirtual 93, 3, (279, 4, 1, 0), 0, 0), (43, .if_icmp .eq 5, 3, (48, 0, 0, 0), 0, 0), (46, .iconst 0, 1, (0, 0, 0, 0), 0, 0), (47, .ireturn, 1, (1, 0, 0, 0), 0, 0), (48, .iinc 2 1, 3, (2, 0, 0, 0), 1, 0), (51, .goto (-31), 3, (20, 0, 0, 0), 0, 0), (54, .iconst 1, 1, (0, 0, 0, 0), 1, 0), (55, .ireturn, 1, (1, 0, 0, 0), 0, 0)])]
-- ShareNets$Tape.numberAtHand()I
set_option maxRecDepth 100000 in
noncomputable def z_k58 : List (Nat × List (Nat × z_E)) := [(44, [(0, .aload_n 0, 1, (0, 0, 0, 0), 0, 0), (1, .aload_n 0, 1, (0, 0, 0, 0), 0, 0), (2, .getfield 26, 3, (3, 0, 8, 0), 0, 0), (5, .invokevirtual 75, 3, (53, 4, 1, 0), 0, 0), (8, .invokestatic 85, 3, (55, 0, 1, 0), 0, 0), (11, .ifCond .eq 16, 3, (27, 0, 0, 0), 0, 0), (14, .aload_n 0, 1, (0, 0, 0, 0), 0, 0), (15, .getfield 29, 3, (4, 0, 8, 0), 0, 0), (18, .aload_n 0, 1, (0, 0, 0, 0), 0, 0), (19, .getfield 26, 3, (3, 0, 8, 0), 0, 0), (22, .isub, 1, (0, 0, 0, 0), 0, 0), (23, .iconst 2, 1, (0, 0, 0, 0), 2, 0), (24, .if_icmp .le 5, 3, (29, 0, 0, 0), 0, 0), (27, .iconst (-1), 1, (0, 0, 0, 0), (-1), 0), (28, .ireturn, 1, (0, 0, 0, 0), 0, 0), (29, .iconst 0, 1, (0, 0, 0, 0), 0, 0), (30, .istore_n 1, 1, (1, 0, 0, 0), 0, 0), (31, .aload_n 0, 1, (0, 0, 0, 0), 0, 0), (32, .getfield 26, 3, (3, 0, 8, 0), 0, 0), (35, .istore_n 2, 1, (2, 0, 0, 0), 0, 0), (36, .iload_n 2, 1, (2, 0, 0, 0), 0, 0), (37, .aload_n 0, 1, (0, 0, 0, 0), 0, 0), (38, .getfield 29, 3, (4, 0, 8, 0), 0, 0), (41, .if_icmp .ge 23, 3, (64, 0, 0, 0), 0, 0)]),
  (1000000, [(44, .iload_n 1, 1, (1, 0, 0, 0), 0, 0), (45, .bipush 10, 2, (0, 0, 0, 0), 10, 0), (47, .imul, 1, (0, 0, 0, 0), 0, 0), (48, .aload_n 0, 1, (0, 0, 0, 0), 0, 0), (49, .iload_n 2, 1, (2, 0, 0, 0), 0, 0), (50, .invokevirtual 75, 3, (53, 4, 1, 0), 0, 0), (53, .iadd, 1, (0, 0, 0, 0), 0, 0), (54, .bipush 48, 2, (0, 0, 0, 0), 48, 0), (56, .isub, 1, (0, 0, 0, 0), 0, 0), (57, .istore_n 1, 1, (1, 0, 0, 0), 0, 0), (58, .iinc 2 1, 3, (2, 0, 0, 0), 1, 0), (61, .goto (-25), 3, (36, 0, 0, 0), 0, 0), (64, .iload_n 1, 1, (1, 0, 0, 0), 0, 0), (65, .ireturn, 1, (0, 0, 0, 0), 0, 0)])]
-- ShareNets$Trace.<init>()V
set_option maxRecDepth 100000 in
noncomputable def z_k59 : List (Nat × List (Nat × z_E)) := [(1000000, [(0, .aload_n 0, 1, (0, 0, 0, 0), 0, 0), (1, .invokespecial 1, 3, (0, 9, 0, 0), 0, 0), (4, .aload_n 0, 1, (0, 0, 0, 0), 0, 0), (5, .bipush 30, 2, (0, 0, 0, 0), 30, 0), (7, .newarray .int, 2, (0, 0, 0, 0), 0, 0), (9, .putfield 9, 3, (0, 2, 9, 0), 0, 0), (12, .aload_n 0, 1, (0, 0, 0, 0), 0, 0), (13, .iconst 0, 1, (0, 0, 0, 0), 0, 0), (14, .putfield 13, 3, (1, 0, 9, 0), 0, 0), (17, .aload_n 0, 1, (0, 0, 0, 0), 0, 0), (18, .iconst 0, 1, (0, 0, 0, 0), 0, 0), (19, .putfield 17, 3, (2, 3, 9, 0), 0, 0), (22, .return_, 1, (0, 0, 0, 0), 0, 0)])]
-- ShareNets$Trace.clear()V
set_option maxRecDepth 100000 in
noncomputable def z_k60 : List (Nat × List (Nat × z_E)) := [(1000000, [(0, .aload_n 0, 1, (0, 0, 0, 0), 0, 0), (1, .iconst 0, 1, (0, 0, 0, 0), 0, 0), (2, .putfield 13, 3, (1, 0, 9, 0), 0, 0), (5, .aload_n 0, 1, (0, 0, 0, 0), 0, 0), (6, .iconst 0, 1, (0, 0, 0, 0), 0, 0), (7, .putfield 17, 3, (2, 3, 9, 0), 0, 0), (10, .return_, 1, (0, 0, 0, 0), 0, 0)])]
-- ShareNets$Trace.begin(I)V
set_option maxRecDepth 100000 in
noncomputable def z_k61 : List (Nat × List (Nat × z_E)) := [(1000000, [(0, .aload_n 0, 1, (0, 0, 0, 0), 0, 0), (1, .getfield 13, 3, (1, 0, 9, 0), 0, 0), (4, .bipush 30, 2, (0, 0, 0, 0), 30, 0), (6, .if_icmp .ge 23, 3, (29, 0, 0, 0), 0, 0), (9, .aload_n 0, 1, (0, 0, 0, 0), 0, 0), (10, .getfield 9, 3, (0, 2, 9, 0), 0, 0), (13, .aload_n 0, 1, (0, 0, 0, 0), 0, 0), (14, .getfield 13, 3, (1, 0, 9, 0), 0, 0), (17, .iload_n 1, 1, (1, 0, 0, 0), 0, 0), (18, .iastore, 1, (0, 0, 0, 0), 0, 0), (19, .aload_n 0, 1, (0, 0, 0, 0), 0, 0), (20, .dup, 1, (0, 0, 0, 0), 0, 0), (21, .getfield 13, 3, (1, 0, 9, 0), 0, 0), (24, .iconst 1, 1, (0, 0, 0, 0), 1, 0), (25, .iadd, 1, (0, 0, 0, 0), 0, 0), (26, .putfield 13, 3, (1, 0, 9, 0), 0, 0), (29, .return_, 1, (0, 0, 0, 0), 0, 0)])]
-- ShareNets$World.<init>()V
set_option maxRecDepth 100000 in
noncomputable def z_k62 : List (Nat × List (Nat × z_E)) := [(48, [(0, .aload_n 0, 1, (0, 0, 0, 0), 0, 0), (1, .invokespecial 3, 3, (0, 9, 0, 0), 0, 0), (4, .aload_n 0, 1, (0, 0, 0, 0), 0, 0), (5, .iconst 4, 1, (0, 0, 0, 0), 4, 0), (6, .anewarray 9, 3, (2, 0, 0, 0), 0, 0), (9, .putfield 11, 3, (0, 2, 10, 0), 0, 0), (12, .aload_n 0, 1, (0, 0, 0, 0), 0, 0), (13, .iconst 5, 1, (0, 0, 0, 0), 5, 0), (14, .newarray .int, 2, (0, 0, 0, 0), 0, 0), (16, .putfield 17, 3, (1, 2, 10, 0), 0, 0), (19, .aload_n 0, 1, (0, 0, 0, 0), 0, 0), (20, .new 21, 3, (1, 0, 0, 0), 0, 0), (23, .dup, 1, (0, 0, 0, 0), 0, 0), (24, .invokespecial 23, 3, (3, 3, 0, 0), 0, 0), (27, .putfield 24, 3, (2, 2, 10, 0), 0, 0), (30, .aload_n 0, 1, (0, 0, 0, 0), 0, 0), (31, .bipush 6, 2, (0, 0, 0, 0), 6, 0), (33, .anewarray 28, 3, (3, 0, 0, 0), 0, 0), (36, .putfield 30, 3, (3, 2, 10, 0), 0, 0), (39, .aload_n 0, 1, (0, 0, 0, 0), 0, 0), (40, .bipush 6, 2, (0, 0, 0, 0), 6, 0), (42, .newarray .int, 2, (0, 0, 0, 0), 0, 0), (44, .putfield 34, 3, (4, 2, 10, 0), 0, 0), (47, .aload_n 0, 1, (0, 0, 0, 0), 0, 0)]),
  (1000000, [(48, .iconst 0, 1, (0, 0, 0, 0), 0, 0), (49, .putfield 37, 3, (5, 0, 10, 0), 0, 0), (52, .aload_n 0, 1, (0, 0, 0, 0), 0, 0), (53, .iconst 1, 1, (0, 0, 0, 0), 1, 0), (54, .putfield 41, 3, (6, 0, 10, 0), 0, 0), (57, .iconst 0, 1, (0, 0, 0, 0), 0, 0), (58, .istore_n 1, 1, (1, 0, 0, 0), 0, 0), (59, .iload_n 1, 1, (1, 0, 0, 0), 0, 0), (60, .iconst 4, 1, (0, 0, 0, 0), 4, 0), (61, .if_icmp .ge 22, 3, (83, 0, 0, 0), 0, 0), (64, .aload_n 0, 1, (0, 0, 0, 0), 0, 0), (65, .getfield 11, 3, (0, 2, 10, 0), 0, 0), (68, .iload_n 1, 1, (1, 0, 0, 0), 0, 0), (69, .new 9, 3, (2, 0, 0, 0), 0, 0), (72, .dup, 1, (0, 0, 0, 0), 0, 0), (73, .invokespecial 44, 3, (18, 3, 0, 0), 0, 0), (76, .aastore, 1, (0, 0, 0, 0), 0, 0), (77, .iinc 1 1, 3, (1, 0, 0, 0), 1, 0), (80, .goto (-21), 3, (59, 0, 0, 0), 0, 0), (83, .return_, 1, (0, 0, 0, 0), 0, 0)])]
-- ShareNets$World.become(LShareNets$World;)V
set_option maxRecDepth 100000 in
noncomputable def z_k63 : List (Nat × List (Nat × z_E)) := [(40, [(0, .iconst 0, 1, (0, 0, 0, 0), 0, 0), (1, .istore_n 2, 1, (2, 0, 0, 0), 0, 0), (2, .iload_n 2, 1, (2, 0, 0, 0), 0, 0), (3, .iconst 4, 1, (0, 0, 0, 0), 4, 0), (4, .if_icmp .ge 24, 3, (28, 0, 0, 0), 0, 0), (7, .aload_n 0, 1, (0, 0, 0, 0), 0, 0), (8, .getfield 11, 3, (0, 2, 10, 0), 0, 0), (11, .iload_n 2, 1, (2, 0, 0, 0), 0, 0), (12, .aaload, 1, (0, 0, 0, 0), 0, 0), (13, .aload_n 1, 1, (1, 0, 0, 0), 0, 0), (14, .getfield 11, 3, (0, 2, 10, 0), 0, 0), (17, .iload_n 2, 1, (2, 0, 0, 0), 0, 0), (18, .aaload, 1, (0, 0, 0, 0), 0, 0), (19, .invokevirtual 45, 3, (20, 4, 1, 0), 0, 0), (22, .iinc 2 1, 3, (2, 0, 0, 0), 1, 0), (25, .goto (-23), 3, (2, 0, 0, 0), 0, 0), (28, .iconst 0, 1, (0, 0, 0, 0), 0, 0), (29, .istore_n 2, 1, (2, 0, 0, 0), 0, 0), (30, .iload_n 2, 1, (2, 0, 0, 0), 0, 0), (31, .aload_n 0, 1, (0, 0, 0, 0), 0, 0), (32, .getfield 17, 3, (1, 2, 10, 0), 0, 0), (35, .arraylength, 1, (0, 0, 0, 0), 0, 0), (36, .if_icmp .ge 21, 3, (57, 0, 0, 0), 0, 0), (39, .aload_n 0, 1, (0, 0, 0, 0), 0, 0)]),
  (85, [(40, .getfield 17, 3, (1, 2, 10, 0), 0, 0), (43, .iload_n 2, 1, (2, 0, 0, 0), 0, 0), (44, .aload_n 1, 1, (1, 0, 0, 0), 0, 0), (45, .getfield 17, 3, (1, 2, 10, 0), 0, 0), (48, .iload_n 2, 1, (2, 0, 0, 0), 0, 0), (49, .iaload, 1, (0, 0, 0, 0), 0, 0), (50, .iastore, 1, (0, 0, 0, 0), 0, 0), (51, .iinc 2 1, 3, (2, 0, 0, 0), 1, 0), (54, .goto (-24), 3, (30, 0, 0, 0), 0, 0), (57, .aload_n 0, 1, (0, 0, 0, 0), 0, 0), (58, .getfield 24, 3, (2, 2, 10, 0), 0, 0), (61, .aload_n 1, 1, (1, 0, 0, 0), 0, 0), (62, .getfield 24, 3, (2, 2, 10, 0), 0, 0), (65, .invokevirtual 49, 3, (4, 4, 1, 0), 0, 0), (68, .iconst 0, 1, (0, 0, 0, 0), 0, 0), (69, .istore_n 2, 1, (2, 0, 0, 0), 0, 0), (70, .iload_n 2, 1, (2, 0, 0, 0), 0, 0), (71, .bipush 6, 2, (0, 0, 0, 0), 6, 0), (73, .if_icmp .ge 33, 3, (106, 0, 0, 0), 0, 0), (76, .aload_n 0, 1, (0, 0, 0, 0), 0, 0), (77, .getfield 30, 3, (3, 2, 10, 0), 0, 0), (80, .iload_n 2, 1, (2, 0, 0, 0), 0, 0), (81, .aload_n 1, 1, (1, 0, 0, 0), 0, 0), (82, .getfield 30, 3, (3, 2, 10, 0), 0, 0)]),
  (1000000, [(85, .iload_n 2, 1, (2, 0, 0, 0), 0, 0), (86, .aaload, 1, (0, 0, 0, 0), 0, 0), (87, .aastore, 1, (0, 0, 0, 0), 0, 0), (88, .aload_n 0, 1, (0, 0, 0, 0), 0, 0), (89, .getfield 34, 3, (4, 2, 10, 0), 0, 0), (92, .iload_n 2, 1, (2, 0, 0, 0), 0, 0), (93, .aload_n 1, 1, (1, 0, 0, 0), 0, 0), (94, .getfield 34, 3, (4, 2, 10, 0), 0, 0), (97, .iload_n 2, 1, (2, 0, 0, 0), 0, 0), (98, .iaload, 1, (0, 0, 0, 0), 0, 0), (99, .iastore, 1, (0, 0, 0, 0), 0, 0), (100, .iinc 2 1, 3, (2, 0, 0, 0), 1, 0), (103, .goto (-33), 3, (70, 0, 0, 0), 0, 0), (106, .aload_n 0, 1, (0, 0, 0, 0), 0, 0), (107, .aload_n 1, 1, (1, 0, 0, 0), 0, 0), (108, .getfield 37, 3, (5, 0, 10, 0), 0, 0), (111, .putfield 37, 3, (5, 0, 10, 0), 0, 0), (114, .aload_n 0, 1, (0, 0, 0, 0), 0, 0), (115, .aload_n 1, 1, (1, 0, 0, 0), 0, 0), (116, .getfield 41, 3, (6, 0, 10, 0), 0, 0), (119, .putfield 41, 3, (6, 0, 10, 0), 0, 0), (122, .return_, 1, (0, 0, 0, 0), 0, 0)])]
-- ShareNets$World.countOuts()I
set_option maxRecDepth 100000 in
noncomputable def z_k64 : List (Nat × List (Nat × z_E)) := [(1000000, [(0, .iconst 0, 1, (0, 0, 0, 0), 0, 0), (1, .istore_n 1, 1, (1, 0, 0, 0), 0, 0), (2, .iconst 2, 1, (0, 0, 0, 0), 2, 0), (3, .istore_n 2, 1, (2, 0, 0, 0), 0, 0), (4, .iload_n 2, 1, (2, 0, 0, 0), 0, 0), (5, .iconst 4, 1, (0, 0, 0, 0), 4, 0), (6, .if_icmp .gt 21, 3, (27, 0, 0, 0), 0, 0), (9, .iload_n 1, 1, (1, 0, 0, 0), 0, 0), (10, .aload_n 0, 1, (0, 0, 0, 0), 0, 0), (11, .getfield 17, 3, (1, 2, 10, 0), 0, 0), (14, .iload_n 2, 1, (2, 0, 0, 0), 0, 0), (15, .iaload, 1, (0, 0, 0, 0), 0, 0), (16, .invokestatic 52, 3, (275, 0, 1, 0), 0, 0), (19, .iadd, 1, (0, 0, 0, 0), 0, 0), (20, .istore_n 1, 1, (1, 0, 0, 0), 0, 0), (21, .iinc 2 1, 3, (2, 0, 0, 0), 1, 0), (24, .goto (-20), 3, (4, 0, 0, 0), 0, 0), (27, .iload_n 1, 1, (1, 0, 0, 0), 0, 0), (28, .ireturn, 1, (0, 0, 0, 0), 0, 0)])]
-- ShareNets$World.nextNumber()I
set_option maxRecDepth 100000 in
noncomputable def z_k65 : List (Nat × List (Nat × z_E)) := [(1000000, [(0, .aload_n 0, 1, (0, 0, 0, 0), 0, 0), (1, .aload_n 0, 1, (0, 0, 0, 0), 0, 0), (2, .getfield 41, 3, (6, 0, 10, 0), 0, 0), (5, .ldc 58, 2, (0, 0, 0, 0), 1103515245, 0), (7, .imul, 1, (0, 0, 0, 0), 0, 0), (8, .sipush 12345, 3, (0, 0, 0, 0), 12345, 0), (11, .iadd, 1, (0, 0, 0, 0), 0, 0), (12, .putfield 41, 3, (6, 0, 10, 0), 0, 0), (15, .aload_n 0, 1, (0, 0, 0, 0), 0, 0), (16, .getfield 41, 3, (6, 0, 10, 0), 0, 0), (19, .bipush 16, 2, (0, 0, 0, 0), 16, 0), (21, .iushr, 1, (0, 0, 0, 0), 0, 0), (22, .ireturn, 1, (0, 0, 0, 0), 0, 0)])]
-- ShareNets.<init>()V
set_option maxRecDepth 100000 in
noncomputable def z_k66 : List (Nat × List (Nat × z_E)) := [(50, [(0, .aload_n 0, 1, (0, 0, 0, 0), 0, 0), (1, .invokespecial 1, 3, (0, 9, 0, 0), 0, 0), (4, .aload_n 0, 1, (0, 0, 0, 0), 0, 0), (5, .new 7, 3, (10, 0, 0, 0), 0, 0), (8, .dup, 1, (0, 0, 0, 0), 0, 0), (9, .invokespecial 9, 3, (62, 2, 0, 0), 0, 0), (12, .putfield 10, 3, (0, 2, 11, 0), 0, 0), (15, .aload_n 0, 1, (0, 0, 0, 0), 0, 0), (16, .new 7, 3, (10, 0, 0, 0), 0, 0), (19, .dup, 1, (0, 0, 0, 0), 0, 0), (20, .invokespecial 9, 3, (62, 2, 0, 0), 0, 0), (23, .putfield 16, 3, (1, 2, 11, 0), 0, 0), (26, .aload_n 0, 1, (0, 0, 0, 0), 0, 0), (27, .iconst 0, 1, (0, 0, 0, 0), 0, 0), (28, .putfield 19, 3, (2, 3, 11, 0), 0, 0), (31, .aload_n 0, 1, (0, 0, 0, 0), 0, 0), (32, .new 23, 3, (8, 0, 0, 0), 0, 0), (35, .dup, 1, (0, 0, 0, 0), 0, 0), (36, .invokespecial 25, 3, (45, 3, 0, 0), 0, 0), (39, .putfield 26, 3, (3, 2, 11, 0), 0, 0), (42, .aload_n 0, 1, (0, 0, 0, 0), 0, 0), (43, .new 30, 3, (9, 0, 0, 0), 0, 0), (46, .dup, 1, (0, 0, 0, 0), 0, 0), (47, .invokespecial 32, 3, (59, 3, 0, 0), 0, 0)]),
  (96, [(50, .putfield 33, 3, (4, 2, 11, 0), 0, 0), (53, .aload_n 0, 1, (0, 0, 0, 0), 0, 0), (54, .bipush 11, 2, (0, 0, 0, 0), 11, 0), (56, .newarray .int, 2, (0, 0, 0, 0), 0, 0), (58, .putfield 37, 3, (5, 2, 11, 0), 0, 0), (61, .aload_n 0, 1, (0, 0, 0, 0), 0, 0), (62, .bipush 11, 2, (0, 0, 0, 0), 11, 0), (64, .newarray .int, 2, (0, 0, 0, 0), 0, 0), (66, .putfield 41, 3, (6, 2, 11, 0), 0, 0), (69, .aload_n 0, 1, (0, 0, 0, 0), 0, 0), (70, .iconst 0, 1, (0, 0, 0, 0), 0, 0), (71, .putfield 44, 3, (7, 0, 11, 0), 0, 0), (74, .aload_n 0, 1, (0, 0, 0, 0), 0, 0), (75, .iconst 4, 1, (0, 0, 0, 0), 4, 0), (76, .anewarray 48, 3, (4, 0, 0, 0), 0, 0), (79, .putfield 50, 3, (8, 2, 11, 0), 0, 0), (82, .aload_n 0, 1, (0, 0, 0, 0), 0, 0), (83, .iconst 4, 1, (0, 0, 0, 0), 4, 0), (84, .newarray .int, 2, (0, 0, 0, 0), 0, 0), (86, .putfield 54, 3, (9, 2, 11, 0), 0, 0), (89, .aload_n 0, 1, (0, 0, 0, 0), 0, 0), (90, .iconst 4, 1, (0, 0, 0, 0), 4, 0), (91, .newarray .int, 2, (0, 0, 0, 0), 0, 0), (93, .putfield 57, 3, (10, 2, 11, 0), 0, 0)]),
  (146, [(96, .aload_n 0, 1, (0, 0, 0, 0), 0, 0), (97, .new 60, 3, (7, 0, 0, 0), 0, 0), (100, .dup, 1, (0, 0, 0, 0), 0, 0), (101, .invokespecial 62, 3, (41, 3, 0, 0), 0, 0), (104, .putfield 63, 3, (11, 2, 11, 0), 0, 0), (107, .aload_n 0, 1, (0, 0, 0, 0), 0, 0), (108, .new 60, 3, (7, 0, 0, 0), 0, 0), (111, .dup, 1, (0, 0, 0, 0), 0, 0), (112, .invokespecial 62, 3, (41, 3, 0, 0), 0, 0), (115, .putfield 67, 3, (12, 2, 11, 0), 0, 0), (118, .aload_n 0, 1, (0, 0, 0, 0), 0, 0), (119, .new 70, 3, (2, 0, 0, 0), 0, 0), (122, .dup, 1, (0, 0, 0, 0), 0, 0), (123, .invokespecial 72, 3, (18, 3, 0, 0), 0, 0), (126, .putfield 73, 3, (13, 2, 11, 0), 0, 0), (129, .aload_n 0, 1, (0, 0, 0, 0), 0, 0), (130, .bipush 11, 2, (0, 0, 0, 0), 11, 0), (132, .newarray .int, 2, (0, 0, 0, 0), 0, 0), (134, .putfield 77, 3, (14, 2, 11, 0), 0, 0), (137, .aload_n 0, 1, (0, 0, 0, 0), 0, 0), (138, .bipush 10, 2, (0, 0, 0, 0), 10, 0), (140, .newarray .int, 2, (0, 0, 0, 0), 0, 0), (142, .putfield 80, 3, (15, 2, 11, 0), 0, 0), (145, .aload_n 0, 1, (0, 0, 0, 0), 0, 0)]),
  (190, [(146, .bipush 10, 2, (0, 0, 0, 0), 10, 0), (148, .newarray .int, 2, (0, 0, 0, 0), 0, 0), (150, .putfield 83, 3, (16, 2, 11, 0), 0, 0), (153, .iconst 0, 1, (0, 0, 0, 0), 0, 0), (154, .istore_n 1, 1, (1, 0, 0, 0), 0, 0), (155, .iload_n 1, 1, (1, 0, 0, 0), 0, 0), (156, .iconst 4, 1, (0, 0, 0, 0), 4, 0), (157, .if_icmp .ge 22, 3, (179, 0, 0, 0), 0, 0), (160, .aload_n 0, 1, (0, 0, 0, 0), 0, 0), (161, .getfield 50, 3, (8, 2, 11, 0), 0, 0), (164, .iload_n 1, 1, (1, 0, 0, 0), 0, 0), (165, .new 48, 3, (4, 0, 0, 0), 0, 0), (168, .dup, 1, (0, 0, 0, 0), 0, 0), (169, .invokespecial 86, 3, (32, 3, 0, 0), 0, 0), (172, .aastore, 1, (0, 0, 0, 0), 0, 0), (173, .iinc 1 1, 3, (1, 0, 0, 0), 1, 0), (176, .goto (-21), 3, (155, 0, 0, 0), 0, 0), (179, .iconst 0, 1, (0, 0, 0, 0), 0, 0), (180, .istore_n 1, 1, (1, 0, 0, 0), 0, 0), (181, .iload_n 1, 1, (1, 0, 0, 0), 0, 0), (182, .iconst 4, 1, (0, 0, 0, 0), 4, 0), (183, .if_icmp .ge 16, 3, (199, 0, 0, 0), 0, 0), (186, .aload_n 0, 1, (0, 0, 0, 0), 0, 0), (187, .getfield 54, 3, (9, 2, 11, 0), 0, 0)]),
  (1000000, [(190, .iload_n 1, 1, (1, 0, 0, 0), 0, 0), (191, .iconst (-1), 1, (0, 0, 0, 0), (-1), 0), (192, .iastore, 1, (0, 0, 0, 0), 0, 0), (193, .iinc 1 1, 3, (1, 0, 0, 0), 1, 0), (196, .goto (-15), 3, (181, 0, 0, 0), 0, 0), (199, .return_, 1, (0, 0, 0, 0), 0, 0)])]
-- ShareNets.feed(JI)I
set_option maxRecDepth 100000 in
noncomputable def z_k67 : List (Nat × List (Nat × z_E)) := [(1000000, [(0, .iload_n 3, 1, (3, 0, 0, 0), 0, 0), (1, .iconst 1, 1, (0, 0, 0, 0), 1, 0), (2, .if_icmp .lt 9, 3, (11, 0, 0, 0), 0, 0), (5, .iload_n 3, 1, (3, 0, 0, 0), 0, 0), (6, .bipush 8, 2, (0, 0, 0, 0), 8, 0), (8, .if_icmp .le 5, 3, (13, 0, 0, 0), 0, 0), (11, .iconst (-1), 1, (0, 0, 0, 0), (-1), 0), (12, .ireturn, 1, (0, 0, 0, 0), 0, 0), (13, .aload_n 0, 1, (0, 0, 0, 0), 0, 0), (14, .getfield 26, 3, (3, 2, 11, 0), 0, 0), (17, .lload_n 1, 1, (1, 0, 0, 0), 0, 0), (18, .iload_n 3, 1, (3, 0, 0, 0), 0, 0), (19, .invokevirtual 87, 3, (46, 4, 2, 0), 0, 0), (22, .ireturn, 1, (0, 0, 0, 0), 0, 0)])]
-- ShareNets.read(I)I
set_option maxRecDepth 100000 in
noncomputable def z_k68 : List (Nat × List (Nat × z_E)) := [(45, [(0, .iload_n 1, 1, (1, 0, 0, 0), 0, 0), (1, .invokestatic 91, 3, (118, 0, 1, 0), 0, 0), (4, .ifCond .ne 5, 3, (9, 0, 0, 0), 0, 0), (7, .iconst (-1), 1, (0, 0, 0, 0), (-1), 0), (8, .ireturn, 1, (0, 0, 0, 0), 0, 0), (9, .aload_n 0, 1, (0, 0, 0, 0), 0, 0), (10, .getfield 26, 3, (3, 2, 11, 0), 0, 0), (13, .invokevirtual 95, 3, (47, 4, 0, 0), 0, 0), (16, .istore_n 2, 1, (2, 0, 0, 0), 0, 0), (17, .iload_n 2, 1, (2, 0, 0, 0), 0, 0), (18, .ifCond .lt 8, 3, (26, 0, 0, 0), 0, 0), (21, .bipush (-100), 2, (0, 0, 0, 0), (-100), 0), (23, .iload_n 2, 1, (2, 0, 0, 0), 0, 0), (24, .isub, 1, (0, 0, 0, 0), 0, 0), (25, .ireturn, 1, (0, 0, 0, 0), 0, 0), (26, .aload_n 0, 1, (0, 0, 0, 0), 0, 0), (27, .getfield 10, 3, (0, 2, 11, 0), 0, 0), (30, .getfield 99, 3, (0, 2, 10, 0), 0, 0), (33, .iload_n 1, 1, (1, 0, 0, 0), 0, 0), (34, .aaload, 1, (0, 0, 0, 0), 0, 0), (35, .aload_n 0, 1, (0, 0, 0, 0), 0, 0), (36, .getfield 26, 3, (3, 2, 11, 0), 0, 0), (39, .getfield 103, 3, (0, 2, 8, 0), 0, 0), (42, .invokevirtual 106, 3, (20, 4, 1, 0), 0, 0)]),
  (1000000, [(45, .aload_n 0, 1, (0, 0, 0, 0), 0, 0), (46, .getfield 10, 3, (0, 2, 11, 0), 0, 0), (49, .getfield 99, 3, (0, 2, 10, 0), 0, 0), (52, .iload_n 1, 1, (1, 0, 0, 0), 0, 0), (53, .aaload, 1, (0, 0, 0, 0), 0, 0), (54, .invokevirtual 110, 3, (26, 4, 0, 0), 0, 0), (57, .ireturn, 1, (0, 0, 0, 0), 0, 0)])]
-- ShareNets.posts(II)I
set_option maxRecDepth 100000 in
noncomputable def z_k69 : List (Nat × List (Nat × z_E)) := [(1000000, [(0, .iload_n 1, 1, (1, 0, 0, 0), 0, 0), (1, .invokestatic 91, 3, (118, 0, 1, 0), 0, 0), (4, .ifCond .eq 14, 3, (18, 0, 0, 0), 0, 0), (7, .iload_n 2, 1, (2, 0, 0, 0), 0, 0), (8, .iconst 1, 1, (0, 0, 0, 0), 1, 0), (9, .if_icmp .lt 9, 3, (18, 0, 0, 0), 0, 0), (12, .iload_n 2, 1, (2, 0, 0, 0), 0, 0), (13, .bipush 10, 2, (0, 0, 0, 0), 10, 0), (15, .if_icmp .le 5, 3, (20, 0, 0, 0), 0, 0), (18, .iconst (-1), 1, (0, 0, 0, 0), (-1), 0), (19, .ireturn, 1, (0, 0, 0, 0), 0, 0), (20, .aload_n 0, 1, (0, 0, 0, 0), 0, 0), (21, .getfield 10, 3, (0, 2, 11, 0), 0, 0), (24, .getfield 99, 3, (0, 2, 10, 0), 0, 0), (27, .iload_n 1, 1, (1, 0, 0, 0), 0, 0), (28, .aaload, 1, (0, 0, 0, 0), 0, 0), (29, .iload_n 2, 1, (2, 0, 0, 0), 0, 0), (30, .invokevirtual 113, 3, (19, 4, 1, 0), 0, 0), (33, .iload_n 2, 1, (2, 0, 0, 0), 0, 0), (34, .ireturn, 1, (0, 0, 0, 0), 0, 0)])]
-- ShareNets.road(IIIZ)I
set_option maxRecDepth 100000 in
noncomputable def z_k70 : List (Nat × List (Nat × z_E)) := [(41, [(0, .aload_n 0, 1, (0, 0, 0, 0), 0, 0), (1, .iload_n 1, 1, (1, 0, 0, 0), 0, 0), (2, .iload_n 2, 1, (2, 0, 0, 0), 0, 0), (3, .invokevirtual 117, 3, (119, 4, 2, 0), 0, 0), (6, .ifCond .eq 17, 3, (23, 0, 0, 0), 0, 0), (9, .aload_n 0, 1, (0, 0, 0, 0), 0, 0), (10, .iload_n 1, 1, (1, 0, 0, 0), 0, 0), (11, .iload_n 3, 1, (3, 0, 0, 0), 0, 0), (12, .invokevirtual 117, 3, (119, 4, 2, 0), 0, 0), (15, .ifCond .eq 8, 3, (23, 0, 0, 0), 0, 0), (18, .iload_n 2, 1, (2, 0, 0, 0), 0, 0), (19, .iload_n 3, 1, (3, 0, 0, 0), 0, 0), (20, .if_icmp .ne 5, 3, (25, 0, 0, 0), 0, 0), (23, .iconst (-1), 1, (0, 0, 0, 0), (-1), 0), (24, .ireturn, 1, (0, 0, 0, 0), 0, 0), (25, .aload_n 0, 1, (0, 0, 0, 0), 0, 0), (26, .getfield 10, 3, (0, 2, 11, 0), 0, 0), (29, .getfield 99, 3, (0, 2, 10, 0), 0, 0), (32, .iload_n 1, 1, (1, 0, 0, 0), 0, 0), (33, .aaload, 1, (0, 0, 0, 0), 0, 0), (34, .iload_n 2, 1, (2, 0, 0, 0), 0, 0), (35, .iload_n 3, 1, (3, 0, 0, 0), 0, 0), (36, .invokevirtual 121, 3, (22, 4, 2, 0), 0, 0), (39, .iload 4, 2, (4, 0, 0, 0), 0, 0)]),
  (1000000, [(41, .if_icmp .ne 5, 3, (46, 0, 0, 0), 0, 0), (44, .iconst 0, 1, (0, 0, 0, 0), 0, 0), (45, .ireturn, 1, (0, 0, 0, 0), 0, 0), (46, .aload_n 0, 1, (0, 0, 0, 0), 0, 0), (47, .getfield 10, 3, (0, 2, 11, 0), 0, 0), (50, .getfield 99, 3, (0, 2, 10, 0), 0, 0), (53, .iload_n 1, 1, (1, 0, 0, 0), 0, 0), (54, .aaload, 1, (0, 0, 0, 0), 0, 0), (55, .iload_n 2, 1, (2, 0, 0, 0), 0, 0), (56, .iload_n 3, 1, (3, 0, 0, 0), 0, 0), (57, .iload 4, 2, (4, 0, 0, 0), 0, 0), (59, .invokevirtual 124, 3, (23, 4, 3, 0), 0, 0), (62, .iconst 1, 1, (0, 0, 0, 0), 1, 0), (63, .ireturn, 1, (0, 0, 0, 0), 0, 0)])]
-- ShareNets.netOf(II)I
set_option maxRecDepth 100000 in
noncomputable def z_k71 : List (Nat × List (Nat × z_E)) := [(41, [(0, .iload_n 1, 1, (1, 0, 0, 0), 0, 0), (1, .invokestatic 91, 3, (118, 0, 1, 0), 0, 0), (4, .ifCond .ne 5, 3, (9, 0, 0, 0), 0, 0), (7, .iconst (-1), 1, (0, 0, 0, 0), (-1), 0), (8, .ireturn, 1, (0, 0, 0, 0), 0, 0), (9, .aload_n 0, 1, (0, 0, 0, 0), 0, 0), (10, .getfield 10, 3, (0, 2, 11, 0), 0, 0), (13, .getfield 99, 3, (0, 2, 10, 0), 0, 0), (16, .iload_n 1, 1, (1, 0, 0, 0), 0, 0), (17, .aaload, 1, (0, 0, 0, 0), 0, 0), (18, .astore_n 3, 1, (3, 0, 0, 0), 0, 0), (19, .iload_n 2, 1, (2, 0, 0, 0), 0, 0), (20, .ifCond .ne 8, 3, (28, 0, 0, 0), 0, 0), (23, .aload_n 3, 1, (3, 0, 0, 0), 0, 0), (24, .getfield 128, 3, (1, 0, 2, 0), 0, 0), (27, .ireturn, 1, (0, 0, 0, 0), 0, 0), (28, .iload_n 2, 1, (2, 0, 0, 0), 0, 0), (29, .iconst 1, 1, (0, 0, 0, 0), 1, 0), (30, .if_icmp .ne 8, 3, (38, 0, 0, 0), 0, 0), (33, .aload_n 3, 1, (3, 0, 0, 0), 0, 0), (34, .invokevirtual 110, 3, (26, 4, 0, 0), 0, 0), (37, .ireturn, 1, (0, 0, 0, 0), 0, 0), (38, .iload_n 2, 1, (2, 0, 0, 0), 0, 0), (39, .bipush 10, 2, (0, 0, 0, 0), 10, 0)]),
  (1000000, [(41, .if_icmp .lt 27, 3, (68, 0, 0, 0), 0, 0), (44, .aload_n 0, 1, (0, 0, 0, 0), 0, 0), (45, .iload_n 1, 1, (1, 0, 0, 0), 0, 0), (46, .iload_n 2, 1, (2, 0, 0, 0), 0, 0), (47, .bipush 10, 2, (0, 0, 0, 0), 10, 0), (49, .isub, 1, (0, 0, 0, 0), 0, 0), (50, .invokevirtual 117, 3, (119, 4, 2, 0), 0, 0), (53, .ifCond .eq 15, 3, (68, 0, 0, 0), 0, 0), (56, .aload_n 3, 1, (3, 0, 0, 0), 0, 0), (57, .getfield 131, 3, (0, 2, 2, 0), 0, 0), (60, .iload_n 2, 1, (2, 0, 0, 0), 0, 0), (61, .bipush 10, 2, (0, 0, 0, 0), 10, 0), (63, .isub, 1, (0, 0, 0, 0), 0, 0), (64, .iaload, 1, (0, 0, 0, 0), 0, 0), (65, .goto 4, 3, (69, 0, 0, 0), 0, 0), (68, .iconst (-1), 1, (0, 0, 0, 0), (-1), 0), (69, .ireturn, 1, (0, 0, 0, 0), 0, 0)])]
-- ShareNets.rows(II)I
set_option maxRecDepth 100000 in
noncomputable def z_k72 : List (Nat × List (Nat × z_E)) := [(44, [(0, .iload_n 1, 1, (1, 0, 0, 0), 0, 0), (1, .invokestatic 91, 3, (118, 0, 1, 0), 0, 0), (4, .ifCond .eq 10, 3, (14, 0, 0, 0), 0, 0), (7, .iload_n 2, 1, (2, 0, 0, 0), 0, 0), (8, .invokestatic 134, 3, (122, 0, 1, 0), 0, 0), (11, .ifCond .ne 5, 3, (16, 0, 0, 0), 0, 0), (14, .iconst (-1), 1, (0, 0, 0, 0), (-1), 0), (15, .ireturn, 1, (0, 0, 0, 0), 0, 0), (16, .aload_n 0, 1, (0, 0, 0, 0), 0, 0), (17, .getfield 50, 3, (8, 2, 11, 0), 0, 0), (20, .iload_n 2, 1, (2, 0, 0, 0), 0, 0), (21, .aaload, 1, (0, 0, 0, 0), 0, 0), (22, .astore_n 3, 1, (3, 0, 0, 0), 0, 0), (23, .aload_n 3, 1, (3, 0, 0, 0), 0, 0), (24, .getfield 137, 3, (1, 0, 4, 0), 0, 0), (27, .iconst (-1), 1, (0, 0, 0, 0), (-1), 0), (28, .if_icmp .ne 6, 3, (34, 0, 0, 0), 0, 0), (31, .bipush (-11), 2, (0, 0, 0, 0), (-11), 0), (33, .ireturn, 1, (0, 0, 0, 0), 0, 0), (34, .aload_n 3, 1, (3, 0, 0, 0), 0, 0), (35, .getfield 137, 3, (1, 0, 4, 0), 0, 0), (38, .iconst 2, 1, (0, 0, 0, 0), 2, 0), (39, .if_icmp .eq 6, 3, (45, 0, 0, 0), 0, 0), (42, .bipush (-13), 2, (0, 0, 0, 0), (-13), 0)]),
  (93, [(44, .ireturn, 1, (0, 0, 0, 0), 0, 0), (45, .aload_n 0, 1, (0, 0, 0, 0), 0, 0), (46, .getfield 10, 3, (0, 2, 11, 0), 0, 0), (49, .getfield 99, 3, (0, 2, 10, 0), 0, 0), (52, .iload_n 1, 1, (1, 0, 0, 0), 0, 0), (53, .aaload, 1, (0, 0, 0, 0), 0, 0), (54, .astore 4, 2, (4, 0, 0, 0), 0, 0), (56, .aload 4, 2, (4, 0, 0, 0), 0, 0), (58, .aload 4, 2, (4, 0, 0, 0), 0, 0), (60, .getfield 128, 3, (1, 0, 2, 0), 0, 0), (63, .invokevirtual 113, 3, (19, 4, 1, 0), 0, 0), (66, .iconst 0, 1, (0, 0, 0, 0), 0, 0), (67, .istore 5, 2, (5, 0, 0, 0), 0, 0), (69, .iload 5, 2, (5, 0, 0, 0), 0, 0), (71, .aload 4, 2, (4, 0, 0, 0), 0, 0), (73, .getfield 128, 3, (1, 0, 2, 0), 0, 0), (76, .if_icmp .ge 33, 3, (109, 0, 0, 0), 0, 0), (79, .iload 5, 2, (5, 0, 0, 0), 0, 0), (81, .aload_n 3, 1, (3, 0, 0, 0), 0, 0), (82, .getfield 140, 3, (2, 0, 4, 0), 0, 0), (85, .if_icmp .ge 24, 3, (109, 0, 0, 0), 0, 0), (88, .aload 4, 2, (4, 0, 0, 0), 0, 0), (90, .iload 5, 2, (5, 0, 0, 0), 0, 0), (92, .aload_n 3, 1, (3, 0, 0, 0), 0, 0)]),
  (1000000, [(93, .getfield 143, 3, (0, 2, 4, 0), 0, 0), (96, .iload 5, 2, (5, 0, 0, 0), 0, 0), (98, .laload, 1, (0, 0, 0, 0), 0, 0), (99, .l2i, 1, (0, 0, 0, 0), 0, 0), (100, .invokevirtual 147, 3, (24, 4, 2, 0), 0, 0), (103, .iinc 5 1, 3, (5, 0, 0, 0), 1, 0), (106, .goto (-37), 3, (69, 0, 0, 0), 0, 0), (109, .aload 4, 2, (4, 0, 0, 0), 0, 0), (111, .invokevirtual 110, 3, (26, 4, 0, 0), 0, 0), (114, .ireturn, 1, (0, 0, 0, 0), 0, 0)])]
-- ShareNets.turn(I)I
set_option maxRecDepth 100000 in
noncomputable def z_k73 : List (Nat × List (Nat × z_E)) := [(1000000, [(0, .iload_n 1, 1, (1, 0, 0, 0), 0, 0), (1, .invokestatic 91, 3, (118, 0, 1, 0), 0, 0), (4, .ifCond .ne 5, 3, (9, 0, 0, 0), 0, 0), (7, .iconst (-1), 1, (0, 0, 0, 0), (-1), 0), (8, .ireturn, 1, (0, 0, 0, 0), 0, 0), (9, .aload_n 0, 1, (0, 0, 0, 0), 0, 0), (10, .getfield 10, 3, (0, 2, 11, 0), 0, 0), (13, .getfield 99, 3, (0, 2, 10, 0), 0, 0), (16, .iload_n 1, 1, (1, 0, 0, 0), 0, 0), (17, .aaload, 1, (0, 0, 0, 0), 0, 0), (18, .invokevirtual 151, 3, (25, 4, 0, 0), 0, 0), (21, .aload_n 0, 1, (0, 0, 0, 0), 0, 0), (22, .getfield 10, 3, (0, 2, 11, 0), 0, 0), (25, .getfield 99, 3, (0, 2, 10, 0), 0, 0), (28, .iload_n 1, 1, (1, 0, 0, 0), 0, 0), (29, .aaload, 1, (0, 0, 0, 0), 0, 0), (30, .invokevirtual 110, 3, (26, 4, 0, 0), 0, 0), (33, .ireturn, 1, (0, 0, 0, 0), 0, 0)])]
-- ShareNets.same(II)I
set_option maxRecDepth 100000 in
noncomputable def z_k74 : List (Nat × List (Nat × z_E)) := [(46, [(0, .iload_n 1, 1, (1, 0, 0, 0), 0, 0), (1, .invokestatic 91, 3, (118, 0, 1, 0), 0, 0), (4, .ifCond .eq 10, 3, (14, 0, 0, 0), 0, 0), (7, .iload_n 2, 1, (2, 0, 0, 0), 0, 0), (8, .invokestatic 91, 3, (118, 0, 1, 0), 0, 0), (11, .ifCond .ne 5, 3, (16, 0, 0, 0), 0, 0), (14, .iconst (-1), 1, (0, 0, 0, 0), (-1), 0), (15, .ireturn, 1, (0, 0, 0, 0), 0, 0), (16, .aload_n 0, 1, (0, 0, 0, 0), 0, 0), (17, .getfield 10, 3, (0, 2, 11, 0), 0, 0), (20, .getfield 99, 3, (0, 2, 10, 0), 0, 0), (23, .iload_n 1, 1, (1, 0, 0, 0), 0, 0), (24, .aaload, 1, (0, 0, 0, 0), 0, 0), (25, .astore_n 3, 1, (3, 0, 0, 0), 0, 0), (26, .aload_n 0, 1, (0, 0, 0, 0), 0, 0), (27, .getfield 10, 3, (0, 2, 11, 0), 0, 0), (30, .getfield 99, 3, (0, 2, 10, 0), 0, 0), (33, .iload_n 2, 1, (2, 0, 0, 0), 0, 0), (34, .aaload, 1, (0, 0, 0, 0), 0, 0), (35, .astore 4, 2, (4, 0, 0, 0), 0, 0), (37, .aload_n 3, 1, (3, 0, 0, 0), 0, 0), (38, .getfield 128, 3, (1, 0, 2, 0), 0, 0), (41, .aload 4, 2, (4, 0, 0, 0), 0, 0), (43, .getfield 128, 3, (1, 0, 2, 0), 0, 0)]),
  (1000000, [(46, .if_icmp .ne 15, 3, (61, 0, 0, 0), 0, 0), (49, .aload_n 3, 1, (3, 0, 0, 0), 0, 0), (50, .invokevirtual 110, 3, (26, 4, 0, 0), 0, 0), (53, .aload 4, 2, (4, 0, 0, 0), 0, 0), (55, .invokevirtual 110, 3, (26, 4, 0, 0), 0, 0), (58, .if_icmp .eq 5, 3, (63, 0, 0, 0), 0, 0), (61, .iconst 0, 1, (0, 0, 0, 0), 0, 0), (62, .ireturn, 1, (0, 0, 0, 0), 0, 0), (63, .aload_n 0, 1, (0, 0, 0, 0), 0, 0), (64, .aload_n 3, 1, (3, 0, 0, 0), 0, 0), (65, .invokevirtual 154, 3, (134, 4, 1, 0), 0, 0), (68, .aload_n 0, 1, (0, 0, 0, 0), 0, 0), (69, .aload_n 3, 1, (3, 0, 0, 0), 0, 0), (70, .aload 4, 2, (4, 0, 0, 0), 0, 0), (72, .iconst 0, 1, (0, 0, 0, 0), 0, 0), (73, .iconst 0, 1, (0, 0, 0, 0), 0, 0), (74, .invokevirtual 157, 3, (135, 4, 4, 0), 0, 0), (77, .ifCond .eq 7, 3, (84, 0, 0, 0), 0, 0), (80, .iconst 1, 1, (0, 0, 0, 0), 1, 0), (81, .goto 4, 3, (85, 0, 0, 0), 0, 0), (84, .iconst 0, 1, (0, 0, 0, 0), 0, 0), (85, .ireturn, 1, (0, 0, 0, 0), 0, 0)])]
-- ShareNets.form(II)I
set_option maxRecDepth 100000 in
noncomputable def z_k75 : List (Nat × List (Nat × z_E)) := [(1000000, [(0, .iload_n 1, 1, (1, 0, 0, 0), 0, 0), (1, .iconst 1, 1, (0, 0, 0, 0), 1, 0), (2, .if_icmp .lt 22, 3, (24, 0, 0, 0), 0, 0), (5, .iload_n 1, 1, (1, 0, 0, 0), 0, 0), (6, .iconst 4, 1, (0, 0, 0, 0), 4, 0), (7, .if_icmp .gt 17, 3, (24, 0, 0, 0), 0, 0), (10, .iload_n 2, 1, (2, 0, 0, 0), 0, 0), (11, .ifCond .lt 13, 3, (24, 0, 0, 0), 0, 0), (14, .iload_n 2, 1, (2, 0, 0, 0), 0, 0), (15, .iconst 1, 1, (0, 0, 0, 0), 1, 0), (16, .iload_n 1, 1, (1, 0, 0, 0), 0, 0), (17, .invokestatic 161, 3, (126, 0, 1, 0), 0, 0), (20, .ishl, 1, (0, 0, 0, 0), 0, 0), (21, .if_icmp .lt 5, 3, (26, 0, 0, 0), 0, 0), (24, .iconst (-1), 1, (0, 0, 0, 0), (-1), 0), (25, .ireturn, 1, (0, 0, 0, 0), 0, 0), (26, .getstatic 165, 3, (0, 0, 0, 0), 0, 0), (29, .getstatic 168, 3, (1, 0, 0, 0), 0, 0), (32, .iload_n 2, 1, (2, 0, 0, 0), 0, 0), (33, .iaload, 1, (0, 0, 0, 0), 0, 0), (34, .iaload, 1, (0, 0, 0, 0), 0, 0), (35, .ireturn, 1, (0, 0, 0, 0), 0, 0)])]
-- ShareNets.formAt(II)I
set_option maxRecDepth 100000 in
noncomputable def z_k76 : List (Nat × List (Nat × z_E)) := [(1000000, [(0, .iload_n 1, 1, (1, 0, 0, 0), 0, 0), (1, .iconst 1, 1, (0, 0, 0, 0), 1, 0), (2, .if_icmp .lt 12, 3, (14, 0, 0, 0), 0, 0), (5, .iload_n 1, 1, (1, 0, 0, 0), 0, 0), (6, .iconst 4, 1, (0, 0, 0, 0), 4, 0), (7, .if_icmp .gt 7, 3, (14, 0, 0, 0), 0, 0), (10, .iload_n 2, 1, (2, 0, 0, 0), 0, 0), (11, .ifCond .ge 5, 3, (16, 0, 0, 0), 0, 0), (14, .iconst (-1), 1, (0, 0, 0, 0), (-1), 0), (15, .ireturn, 1, (0, 0, 0, 0), 0, 0), (16, .iload_n 2, 1, (2, 0, 0, 0), 0, 0), (17, .iload_n 1, 1, (1, 0, 0, 0), 0, 0), (18, .invokestatic 171, 3, (127, 0, 1, 0), 0, 0), (21, .if_icmp .ge 11, 3, (32, 0, 0, 0), 0, 0), (24, .getstatic 165, 3, (0, 0, 0, 0), 0, 0), (27, .iload_n 2, 1, (2, 0, 0, 0), 0, 0), (28, .iaload, 1, (0, 0, 0, 0), 0, 0), (29, .goto 5, 3, (34, 0, 0, 0), 0, 0), (32, .bipush (-3), 2, (0, 0, 0, 0), (-3), 0), (34, .ireturn, 1, (0, 0, 0, 0), 0, 0)])]
-- ShareNets.count(III)I
set_option maxRecDepth 100000 in
noncomputable def z_k77 : List (Nat × List (Nat × z_E)) := [(47, [(0, .iload_n 2, 1, (2, 0, 0, 0), 0, 0), (1, .iload_n 3, 1, (3, 0, 0, 0), 0, 0), (2, .invokestatic 174, 3, (128, 0, 2, 0), 0, 0), (5, .istore 4, 2, (4, 0, 0, 0), 0, 0), (7, .iload_n 1, 1, (1, 0, 0, 0), 0, 0), (8, .invokestatic 91, 3, (118, 0, 1, 0), 0, 0), (11, .ifCond .eq 8, 3, (19, 0, 0, 0), 0, 0), (14, .iload 4, 2, (4, 0, 0, 0), 0, 0), (16, .ifCond .ge 5, 3, (21, 0, 0, 0), 0, 0), (19, .iconst (-1), 1, (0, 0, 0, 0), (-1), 0), (20, .ireturn, 1, (0, 0, 0, 0), 0, 0), (21, .aload_n 0, 1, (0, 0, 0, 0), 0, 0), (22, .getfield 63, 3, (11, 2, 11, 0), 0, 0), (25, .aload_n 0, 1, (0, 0, 0, 0), 0, 0), (26, .getfield 10, 3, (0, 2, 11, 0), 0, 0), (29, .getfield 99, 3, (0, 2, 10, 0), 0, 0), (32, .iload_n 1, 1, (1, 0, 0, 0), 0, 0), (33, .aaload, 1, (0, 0, 0, 0), 0, 0), (34, .iload_n 2, 1, (2, 0, 0, 0), 0, 0), (35, .invokevirtual 178, 3, (42, 4, 2, 0), 0, 0), (38, .aload_n 0, 1, (0, 0, 0, 0), 0, 0), (39, .getfield 63, 3, (11, 2, 11, 0), 0, 0), (42, .getfield 182, 3, (0, 2, 7, 0), 0, 0), (45, .iload 4, 2, (4, 0, 0, 0), 0, 0)]),
  (1000000, [(47, .iaload, 1, (0, 0, 0, 0), 0, 0), (48, .ireturn, 1, (0, 0, 0, 0), 0, 0)])]
-- ShareNets.share(IIII)I
set_option maxRecDepth 100000 in
noncomputable def z_k78 : List (Nat × List (Nat × z_E)) := [(49, [(0, .iload_n 2, 1, (2, 0, 0, 0), 0, 0), (1, .iload_n 3, 1, (3, 0, 0, 0), 0, 0), (2, .invokestatic 174, 3, (128, 0, 2, 0), 0, 0), (5, .istore 5, 2, (5, 0, 0, 0), 0, 0), (7, .iload_n 1, 1, (1, 0, 0, 0), 0, 0), (8, .invokestatic 91, 3, (118, 0, 1, 0), 0, 0), (11, .ifCond .eq 16, 3, (27, 0, 0, 0), 0, 0), (14, .iload 5, 2, (5, 0, 0, 0), 0, 0), (16, .ifCond .lt 11, 3, (27, 0, 0, 0), 0, 0), (19, .iload 4, 2, (4, 0, 0, 0), 0, 0), (21, .invokestatic 185, 3, (121, 0, 1, 0), 0, 0), (24, .ifCond .ne 5, 3, (29, 0, 0, 0), 0, 0), (27, .iconst (-1), 1, (0, 0, 0, 0), (-1), 0), (28, .ireturn, 1, (0, 0, 0, 0), 0, 0), (29, .aload_n 0, 1, (0, 0, 0, 0), 0, 0), (30, .getfield 10, 3, (0, 2, 11, 0), 0, 0), (33, .getfield 99, 3, (0, 2, 10, 0), 0, 0), (36, .iload_n 1, 1, (1, 0, 0, 0), 0, 0), (37, .aaload, 1, (0, 0, 0, 0), 0, 0), (38, .astore 6, 2, (6, 0, 0, 0), 0, 0), (40, .aload 6, 2, (6, 0, 0, 0), 0, 0), (42, .getfield 128, 3, (1, 0, 2, 0), 0, 0), (45, .iload_n 2, 1, (2, 0, 0, 0), 0, 0), (46, .if_icmp .ge 6, 3, (52, 0, 0, 0), 0, 0)]),
  (1000000, [(49, .bipush (-3), 2, (0, 0, 0, 0), (-3), 0), (51, .ireturn, 1, (0, 0, 0, 0), 0, 0), (52, .aload_n 0, 1, (0, 0, 0, 0), 0, 0), (53, .getfield 63, 3, (11, 2, 11, 0), 0, 0), (56, .aload 6, 2, (6, 0, 0, 0), 0, 0), (58, .iload_n 2, 1, (2, 0, 0, 0), 0, 0), (59, .invokevirtual 178, 3, (42, 4, 2, 0), 0, 0), (62, .aload_n 0, 1, (0, 0, 0, 0), 0, 0), (63, .getfield 63, 3, (11, 2, 11, 0), 0, 0), (66, .getfield 182, 3, (0, 2, 7, 0), 0, 0), (69, .iload 5, 2, (5, 0, 0, 0), 0, 0), (71, .iaload, 1, (0, 0, 0, 0), 0, 0), (72, .i2l, 1, (0, 0, 0, 0), 0, 0), (73, .aload 6, 2, (6, 0, 0, 0), 0, 0), (75, .getfield 128, 3, (1, 0, 2, 0), 0, 0), (78, .iload_n 2, 1, (2, 0, 0, 0), 0, 0), (79, .invokestatic 188, 3, (130, 0, 2, 0), 0, 0), (82, .i2l, 1, (0, 0, 0, 0), 0, 0), (83, .iload 4, 2, (4, 0, 0, 0), 0, 0), (85, .invokestatic 191, 3, (131, 0, 3, 0), 0, 0), (88, .l2i, 1, (0, 0, 0, 0), 0, 0), (89, .ireturn, 1, (0, 0, 0, 0), 0, 0)])]
-- ShareNets.lift(IIIII)I
set_option maxRecDepth 100000 in
noncomputable def z_k79 : List (Nat × List (Nat × z_E)) := [(45, [(0, .iload_n 1, 1, (1, 0, 0, 0), 0, 0), (1, .iload_n 2, 1, (2, 0, 0, 0), 0, 0), (2, .invokestatic 174, 3, (128, 0, 2, 0), 0, 0), (5, .istore 6, 2, (6, 0, 0, 0), 0, 0), (7, .iload_n 3, 1, (3, 0, 0, 0), 0, 0), (8, .iload 4, 2, (4, 0, 0, 0), 0, 0), (10, .invokestatic 174, 3, (128, 0, 2, 0), 0, 0), (13, .istore 7, 2, (7, 0, 0, 0), 0, 0), (15, .iload 6, 2, (6, 0, 0, 0), 0, 0), (17, .ifCond .lt 21, 3, (38, 0, 0, 0), 0, 0), (20, .iload_n 3, 1, (3, 0, 0, 0), 0, 0), (21, .iload_n 1, 1, (1, 0, 0, 0), 0, 0), (22, .if_icmp .lt 16, 3, (38, 0, 0, 0), 0, 0), (25, .iload 7, 2, (7, 0, 0, 0), 0, 0), (27, .ifCond .lt 11, 3, (38, 0, 0, 0), 0, 0), (30, .iload 5, 2, (5, 0, 0, 0), 0, 0), (32, .invokestatic 185, 3, (121, 0, 1, 0), 0, 0), (35, .ifCond .ne 5, 3, (40, 0, 0, 0), 0, 0), (38, .iconst (-1), 1, (0, 0, 0, 0), (-1), 0), (39, .ireturn, 1, (0, 0, 0, 0), 0, 0), (40, .aload_n 0, 1, (0, 0, 0, 0), 0, 0), (41, .iload_n 1, 1, (1, 0, 0, 0), 0, 0), (42, .iload 6, 2, (6, 0, 0, 0), 0, 0), (44, .iload_n 3, 1, (3, 0, 0, 0), 0, 0)]),
  (1000000, [(45, .iload 7, 2, (7, 0, 0, 0), 0, 0), (47, .invokevirtual 195, 3, (140, 4, 4, 0), 0, 0), (50, .i2l, 1, (0, 0, 0, 0), 0, 0), (51, .iload_n 3, 1, (3, 0, 0, 0), 0, 0), (52, .iload_n 1, 1, (1, 0, 0, 0), 0, 0), (53, .invokestatic 188, 3, (130, 0, 2, 0), 0, 0), (56, .i2l, 1, (0, 0, 0, 0), 0, 0), (57, .iload 5, 2, (5, 0, 0, 0), 0, 0), (59, .invokestatic 191, 3, (131, 0, 3, 0), 0, 0), (62, .l2i, 1, (0, 0, 0, 0), 0, 0), (63, .ireturn, 1, (0, 0, 0, 0), 0, 0)])]
-- ShareNets.out(IIZ)I
set_option maxRecDepth 100000 in
noncomputable def z_k80 : List (Nat × List (Nat × z_E)) := [(41, [(0, .iload_n 1, 1, (1, 0, 0, 0), 0, 0), (1, .iload_n 2, 1, (2, 0, 0, 0), 0, 0), (2, .invokestatic 174, 3, (128, 0, 2, 0), 0, 0), (5, .istore 4, 2, (4, 0, 0, 0), 0, 0), (7, .iload_n 1, 1, (1, 0, 0, 0), 0, 0), (8, .iconst 2, 1, (0, 0, 0, 0), 2, 0), (9, .if_icmp .lt 8, 3, (17, 0, 0, 0), 0, 0), (12, .iload 4, 2, (4, 0, 0, 0), 0, 0), (14, .ifCond .ge 5, 3, (19, 0, 0, 0), 0, 0), (17, .iconst (-1), 1, (0, 0, 0, 0), (-1), 0), (18, .ireturn, 1, (0, 0, 0, 0), 0, 0), (19, .aload_n 0, 1, (0, 0, 0, 0), 0, 0), (20, .getfield 10, 3, (0, 2, 11, 0), 0, 0), (23, .getfield 199, 3, (1, 2, 10, 0), 0, 0), (26, .iload_n 1, 1, (1, 0, 0, 0), 0, 0), (27, .iaload, 1, (0, 0, 0, 0), 0, 0), (28, .iload 4, 2, (4, 0, 0, 0), 0, 0), (30, .ishr, 1, (0, 0, 0, 0), 0, 0), (31, .iconst 1, 1, (0, 0, 0, 0), 1, 0), (32, .iand, 1, (0, 0, 0, 0), 0, 0), (33, .ifCond .eq 7, 3, (40, 0, 0, 0), 0, 0), (36, .iconst 1, 1, (0, 0, 0, 0), 1, 0), (37, .goto 4, 3, (41, 0, 0, 0), 0, 0), (40, .iconst 0, 1, (0, 0, 0, 0), 0, 0)]),
  (83, [(41, .istore 5, 2, (5, 0, 0, 0), 0, 0), (43, .iload 5, 2, (5, 0, 0, 0), 0, 0), (45, .iload_n 3, 1, (3, 0, 0, 0), 0, 0), (46, .if_icmp .ne 5, 3, (51, 0, 0, 0), 0, 0), (49, .iconst 0, 1, (0, 0, 0, 0), 0, 0), (50, .ireturn, 1, (0, 0, 0, 0), 0, 0), (51, .iload_n 3, 1, (3, 0, 0, 0), 0, 0), (52, .ifCond .eq 17, 3, (69, 0, 0, 0), 0, 0), (55, .aload_n 0, 1, (0, 0, 0, 0), 0, 0), (56, .getfield 10, 3, (0, 2, 11, 0), 0, 0), (59, .invokevirtual 202, 3, (64, 4, 0, 0), 0, 0), (62, .iconst 4, 1, (0, 0, 0, 0), 4, 0), (63, .if_icmp .lt 6, 3, (69, 0, 0, 0), 0, 0), (66, .bipush (-2), 2, (0, 0, 0, 0), (-2), 0), (68, .ireturn, 1, (0, 0, 0, 0), 0, 0), (69, .aload_n 0, 1, (0, 0, 0, 0), 0, 0), (70, .getfield 10, 3, (0, 2, 11, 0), 0, 0), (73, .getfield 199, 3, (1, 2, 10, 0), 0, 0), (76, .iload_n 1, 1, (1, 0, 0, 0), 0, 0), (77, .dup2, 1, (0, 0, 0, 0), 0, 0), (78, .iaload, 1, (0, 0, 0, 0), 0, 0), (79, .iconst 1, 1, (0, 0, 0, 0), 1, 0), (80, .iload 4, 2, (4, 0, 0, 0), 0, 0), (82, .ishl, 1, (0, 0, 0, 0), 0, 0)]),
  (1000000, [(83, .ixor, 1, (0, 0, 0, 0), 0, 0), (84, .iastore, 1, (0, 0, 0, 0), 0, 0), (85, .iconst 1, 1, (0, 0, 0, 0), 1, 0), (86, .ireturn, 1, (0, 0, 0, 0), 0, 0)])]
-- ShareNets.free(I)I
set_option maxRecDepth 100000 in
noncomputable def z_k81 : List (Nat × List (Nat × z_E)) := [(1000000, [(0, .iload_n 1, 1, (1, 0, 0, 0), 0, 0), (1, .invokestatic 91, 3, (118, 0, 1, 0), 0, 0), (4, .ifCond .ne 5, 3, (9, 0, 0, 0), 0, 0), (7, .iconst (-1), 1, (0, 0, 0, 0), (-1), 0), (8, .ireturn, 1, (0, 0, 0, 0), 0, 0), (9, .aload_n 0, 1, (0, 0, 0, 0), 0, 0), (10, .aload_n 0, 1, (0, 0, 0, 0), 0, 0), (11, .getfield 10, 3, (0, 2, 11, 0), 0, 0), (14, .getfield 99, 3, (0, 2, 10, 0), 0, 0), (17, .iload_n 1, 1, (1, 0, 0, 0), 0, 0), (18, .aaload, 1, (0, 0, 0, 0), 0, 0), (19, .invokevirtual 205, 3, (137, 4, 1, 0), 0, 0), (22, .ifCond .eq 7, 3, (29, 0, 0, 0), 0, 0), (25, .iconst 1, 1, (0, 0, 0, 0), 1, 0), (26, .goto 4, 3, (30, 0, 0, 0), 0, 0), (29, .iconst 0, 1, (0, 0, 0, 0), 0, 0), (30, .ireturn, 1, (0, 0, 0, 0), 0, 0)])]
-- ShareNets.heap(I)I
set_option maxRecDepth 100000 in
noncomputable def z_k82 : List (Nat × List (Nat × z_E)) := [(1000000, [(0, .iload_n 1, 1, (1, 0, 0, 0), 0, 0), (1, .iconst 2, 1, (0, 0, 0, 0), 2, 0), (2, .if_icmp .lt 8, 3, (10, 0, 0, 0), 0, 0), (5, .iload_n 1, 1, (1, 0, 0, 0), 0, 0), (6, .iconst 4, 1, (0, 0, 0, 0), 4, 0), (7, .if_icmp .le 7, 3, (14, 0, 0, 0), 0, 0), (10, .iconst (-1), 1, (0, 0, 0, 0), (-1), 0), (11, .goto 8, 3, (19, 0, 0, 0), 0, 0), (14, .aload_n 0, 1, (0, 0, 0, 0), 0, 0), (15, .iload_n 1, 1, (1, 0, 0, 0), 0, 0), (16, .invokevirtual 209, 3, (139, 4, 1, 0), 0, 0), (19, .ireturn, 1, (0, 0, 0, 0), 0, 0)])]
-- ShareNets.most(III)I
set_option maxRecDepth 100000 in
noncomputable def z_k83 : List (Nat × List (Nat × z_E)) := [(41, [(0, .iload_n 2, 1, (2, 0, 0, 0), 0, 0), (1, .iload_n 3, 1, (3, 0, 0, 0), 0, 0), (2, .invokestatic 174, 3, (128, 0, 2, 0), 0, 0), (5, .istore 4, 2, (4, 0, 0, 0), 0, 0), (7, .iload_n 1, 1, (1, 0, 0, 0), 0, 0), (8, .iconst 1, 1, (0, 0, 0, 0), 1, 0), (9, .if_icmp .lt 13, 3, (22, 0, 0, 0), 0, 0), (12, .iload_n 1, 1, (1, 0, 0, 0), 0, 0), (13, .iconst 5, 1, (0, 0, 0, 0), 5, 0), (14, .if_icmp .gt 8, 3, (22, 0, 0, 0), 0, 0), (17, .iload 4, 2, (4, 0, 0, 0), 0, 0), (19, .ifCond .ge 5, 3, (24, 0, 0, 0), 0, 0), (22, .iconst (-1), 1, (0, 0, 0, 0), (-1), 0), (23, .ireturn, 1, (0, 0, 0, 0), 0, 0), (24, .aload_n 0, 1, (0, 0, 0, 0), 0, 0), (25, .iload_n 1, 1, (1, 0, 0, 0), 0, 0), (26, .iconst 5, 1, (0, 0, 0, 0), 5, 0), (27, .if_icmp .ne 7, 3, (34, 0, 0, 0), 0, 0), (30, .iconst 4, 1, (0, 0, 0, 0), 4, 0), (31, .goto 4, 3, (35, 0, 0, 0), 0, 0), (34, .iload_n 1, 1, (1, 0, 0, 0), 0, 0), (35, .invokevirtual 209, 3, (139, 4, 1, 0), 0, 0), (38, .istore 5, 2, (5, 0, 0, 0), 0, 0), (40, .iload_n 1, 1, (1, 0, 0, 0), 0, 0)]),
  (1000000, [(41, .iconst 5, 1, (0, 0, 0, 0), 5, 0), (42, .if_icmp .ne 15, 3, (57, 0, 0, 0), 0, 0), (45, .aload_n 0, 1, (0, 0, 0, 0), 0, 0), (46, .iload_n 2, 1, (2, 0, 0, 0), 0, 0), (47, .iload 4, 2, (4, 0, 0, 0), 0, 0), (49, .iload 5, 2, (5, 0, 0, 0), 0, 0), (51, .invokevirtual 212, 3, (142, 4, 3, 0), 0, 0), (54, .goto 13, 3, (67, 0, 0, 0), 0, 0), (57, .aload_n 0, 1, (0, 0, 0, 0), 0, 0), (58, .iload_n 1, 1, (1, 0, 0, 0), 0, 0), (59, .iload_n 2, 1, (2, 0, 0, 0), 0, 0), (60, .iload 4, 2, (4, 0, 0, 0), 0, 0), (62, .iload 5, 2, (5, 0, 0, 0), 0, 0), (64, .invokevirtual 216, 3, (141, 4, 4, 0), 0, 0), (67, .istore 6, 2, (6, 0, 0, 0), 0, 0), (69, .iload 6, 2, (6, 0, 0, 0), 0, 0), (71, .ifCond .ge 8, 3, (79, 0, 0, 0), 0, 0), (74, .bipush (-3), 2, (0, 0, 0, 0), (-3), 0), (76, .goto 5, 3, (81, 0, 0, 0), 0, 0), (79, .iload 6, 2, (6, 0, 0, 0), 0, 0), (81, .ireturn, 1, (0, 0, 0, 0), 0, 0)])]
-- ShareNets.part(I)I
set_option maxRecDepth 100000 in
noncomputable def z_k84 : List (Nat × List (Nat × z_E)) := [(1000000, [(0, .iload_n 1, 1, (1, 0, 0, 0), 0, 0), (1, .iconst 1, 1, (0, 0, 0, 0), 1, 0), (2, .if_icmp .lt 9, 3, (11, 0, 0, 0), 0, 0), (5, .iload_n 1, 1, (1, 0, 0, 0), 0, 0), (6, .bipush 9, 2, (0, 0, 0, 0), 9, 0), (8, .if_icmp .le 5, 3, (13, 0, 0, 0), 0, 0), (11, .iconst (-1), 1, (0, 0, 0, 0), (-1), 0), (12, .ireturn, 1, (0, 0, 0, 0), 0, 0), (13, .aload_n 0, 1, (0, 0, 0, 0), 0, 0), (14, .getfield 10, 3, (0, 2, 11, 0), 0, 0), (17, .getfield 219, 3, (2, 2, 10, 0), 0, 0), (20, .getfield 223, 3, (2, 0, 1, 0), 0, 0), (23, .iconst 5, 1, (0, 0, 0, 0), 5, 0), (24, .if_icmp .lt 6, 3, (30, 0, 0, 0), 0, 0), (27, .bipush (-2), 2, (0, 0, 0, 0), (-2), 0), (29, .ireturn, 1, (0, 0, 0, 0), 0, 0), (30, .aload_n 0, 1, (0, 0, 0, 0), 0, 0), (31, .getfield 10, 3, (0, 2, 11, 0), 0, 0), (34, .getfield 219, 3, (2, 2, 10, 0), 0, 0), (37, .iload_n 1, 1, (1, 0, 0, 0), 0, 0), (38, .invokevirtual 228, 3, (6, 4, 1, 0), 0, 0), (41, .ireturn, 1, (0, 0, 0, 0), 0, 0)])]
-- ShareNets.chance(III)I
set_option maxRecDepth 100000 in
noncomputable def z_k85 : List (Nat × List (Nat × z_E)) := [(47, [(0, .aload_n 0, 1, (0, 0, 0, 0), 0, 0), (1, .getfield 10, 3, (0, 2, 11, 0), 0, 0), (4, .getfield 219, 3, (2, 2, 10, 0), 0, 0), (7, .astore 4, 2, (4, 0, 0, 0), 0, 0), (9, .aload 4, 2, (4, 0, 0, 0), 0, 0), (11, .iload_n 1, 1, (1, 0, 0, 0), 0, 0), (12, .invokevirtual 231, 3, (5, 4, 1, 0), 0, 0), (15, .ifCond .eq 21, 3, (36, 0, 0, 0), 0, 0), (18, .aload 4, 2, (4, 0, 0, 0), 0, 0), (20, .iload_n 2, 1, (2, 0, 0, 0), 0, 0), (21, .invokevirtual 231, 3, (5, 4, 1, 0), 0, 0), (24, .ifCond .eq 12, 3, (36, 0, 0, 0), 0, 0), (27, .iload_n 3, 1, (3, 0, 0, 0), 0, 0), (28, .ifCond .lt 8, 3, (36, 0, 0, 0), 0, 0), (31, .iload_n 3, 1, (3, 0, 0, 0), 0, 0), (32, .iconst 4, 1, (0, 0, 0, 0), 4, 0), (33, .if_icmp .le 5, 3, (38, 0, 0, 0), 0, 0), (36, .iconst (-1), 1, (0, 0, 0, 0), (-1), 0), (37, .ireturn, 1, (0, 0, 0, 0), 0, 0), (38, .aload 4, 2, (4, 0, 0, 0), 0, 0), (40, .iload_n 1, 1, (1, 0, 0, 0), 0, 0), (41, .iload_n 2, 1, (2, 0, 0, 0), 0, 0), (42, .invokevirtual 234, 3, (7, 4, 2, 0), 0, 0), (45, .istore 5, 2, (5, 0, 0, 0), 0, 0)]),
  (1000000, [(47, .aload 4, 2, (4, 0, 0, 0), 0, 0), (49, .iload_n 1, 1, (1, 0, 0, 0), 0, 0), (50, .iload_n 2, 1, (2, 0, 0, 0), 0, 0), (51, .iload_n 3, 1, (3, 0, 0, 0), 0, 0), (52, .invokevirtual 237, 3, (8, 4, 3, 0), 0, 0), (55, .iload 5, 2, (5, 0, 0, 0), 0, 0), (57, .ireturn, 1, (0, 0, 0, 0), 0, 0)])]
-- ShareNets.bare()I
set_option maxRecDepth 100000 in
noncomputable def z_k86 : List (Nat × List (Nat × z_E)) := [(1000000, [(0, .aload_n 0, 1, (0, 0, 0, 0), 0, 0), (1, .getfield 10, 3, (0, 2, 11, 0), 0, 0), (4, .getfield 219, 3, (2, 2, 10, 0), 0, 0), (7, .getfield 223, 3, (2, 0, 1, 0), 0, 0), (10, .istore_n 1, 1, (1, 0, 0, 0), 0, 0), (11, .aload_n 0, 1, (0, 0, 0, 0), 0, 0), (12, .getfield 10, 3, (0, 2, 11, 0), 0, 0), (15, .getfield 219, 3, (2, 2, 10, 0), 0, 0), (18, .iconst 0, 1, (0, 0, 0, 0), 0, 0), (19, .putfield 223, 3, (2, 0, 1, 0), 0, 0), (22, .iload_n 1, 1, (1, 0, 0, 0), 0, 0), (23, .ireturn, 1, (0, 0, 0, 0), 0, 0)])]
-- ShareNets.at(III)J
set_option maxRecDepth 100000 in
noncomputable def z_k87 : List (Nat × List (Nat × z_E)) := [(52, [(0, .iload_n 1, 1, (1, 0, 0, 0), 0, 0), (1, .iload_n 2, 1, (2, 0, 0, 0), 0, 0), (2, .invokestatic 174, 3, (128, 0, 2, 0), 0, 0), (5, .istore 4, 2, (4, 0, 0, 0), 0, 0), (7, .iload 4, 2, (4, 0, 0, 0), 0, 0), (9, .ifCond .lt 10, 3, (19, 0, 0, 0), 0, 0), (12, .iload_n 3, 1, (3, 0, 0, 0), 0, 0), (13, .invokestatic 185, 3, (121, 0, 1, 0), 0, 0), (16, .ifCond .ne 7, 3, (23, 0, 0, 0), 0, 0), (19, .ldc2_w 241, 3, (0, 0, 0, 0), 0, (-1)), (22, .lreturn, 1, (0, 0, 0, 0), 0, 0), (23, .aload_n 0, 1, (0, 0, 0, 0), 0, 0), (24, .getfield 10, 3, (0, 2, 11, 0), 0, 0), (27, .getfield 219, 3, (2, 2, 10, 0), 0, 0), (30, .getfield 223, 3, (2, 0, 1, 0), 0, 0), (33, .ifCond .ne 7, 3, (40, 0, 0, 0), 0, 0), (36, .ldc2_w 243, 3, (0, 0, 0, 0), 0, (-3)), (39, .lreturn, 1, (0, 0, 0, 0), 0, 0), (40, .aload_n 0, 1, (0, 0, 0, 0), 0, 0), (41, .getfield 10, 3, (0, 2, 11, 0), 0, 0), (44, .getfield 219, 3, (2, 2, 10, 0), 0, 0), (47, .iload_n 1, 1, (1, 0, 0, 0), 0, 0), (48, .invokevirtual 245, 3, (12, 4, 1, 0), 0, 0), (51, .aload_n 0, 1, (0, 0, 0, 0), 0, 0)]),
  (1000000, [(52, .getfield 10, 3, (0, 2, 11, 0), 0, 0), (55, .getfield 219, 3, (2, 2, 10, 0), 0, 0), (58, .getfield 248, 3, (3, 2, 1, 0), 0, 0), (61, .iload 4, 2, (4, 0, 0, 0), 0, 0), (63, .laload, 1, (0, 0, 0, 0), 0, 0), (64, .aload_n 0, 1, (0, 0, 0, 0), 0, 0), (65, .getfield 10, 3, (0, 2, 11, 0), 0, 0), (68, .getfield 219, 3, (2, 2, 10, 0), 0, 0), (71, .iload_n 1, 1, (1, 0, 0, 0), 0, 0), (72, .invokevirtual 251, 3, (11, 4, 1, 0), 0, 0), (75, .iload_n 3, 1, (3, 0, 0, 0), 0, 0), (76, .invokestatic 191, 3, (131, 0, 3, 0), 0, 0), (79, .lreturn, 1, (0, 0, 0, 0), 0, 0)])]
-- ShareNets.freeAt()I
set_option maxRecDepth 100000 in
noncomputable def z_k88 : List (Nat × List (Nat × z_E)) := [(1000000, [(0, .aload_n 0, 1, (0, 0, 0, 0), 0, 0), (1, .getfield 10, 3, (0, 2, 11, 0), 0, 0), (4, .getfield 219, 3, (2, 2, 10, 0), 0, 0), (7, .getfield 223, 3, (2, 0, 1, 0), 0, 0), (10, .ifCond .ne 6, 3, (16, 0, 0, 0), 0, 0), (13, .bipush (-3), 2, (0, 0, 0, 0), (-3), 0), (15, .ireturn, 1, (0, 0, 0, 0), 0, 0), (16, .aload_n 0, 1, (0, 0, 0, 0), 0, 0), (17, .invokevirtual 255, 3, (144, 4, 0, 0), 0, 0), (20, .ifCond .eq 7, 3, (27, 0, 0, 0), 0, 0), (23, .iconst 1, 1, (0, 0, 0, 0), 1, 0), (24, .goto 4, 3, (28, 0, 0, 0), 0, 0), (27, .iconst 0, 1, (0, 0, 0, 0), 0, 0), (28, .ireturn, 1, (0, 0, 0, 0), 0, 0)])]
-- ShareNets.blow(I)I
set_option maxRecDepth 100000 in
noncomputable def z_k89 : List (Nat × List (Nat × z_E)) := [(47, [(0, .iload_n 1, 1, (1, 0, 0, 0), 0, 0), (1, .invokestatic 91, 3, (118, 0, 1, 0), 0, 0), (4, .ifCond .ne 5, 3, (9, 0, 0, 0), 0, 0), (7, .iconst (-1), 1, (0, 0, 0, 0), (-1), 0), (8, .ireturn, 1, (0, 0, 0, 0), 0, 0), (9, .aload_n 0, 1, (0, 0, 0, 0), 0, 0), (10, .getfield 10, 3, (0, 2, 11, 0), 0, 0), (13, .getfield 99, 3, (0, 2, 10, 0), 0, 0), (16, .iload_n 1, 1, (1, 0, 0, 0), 0, 0), (17, .aaload, 1, (0, 0, 0, 0), 0, 0), (18, .getfield 128, 3, (1, 0, 2, 0), 0, 0), (21, .iconst 5, 1, (0, 0, 0, 0), 5, 0), (22, .if_icmp .le 6, 3, (28, 0, 0, 0), 0, 0), (25, .bipush (-4), 2, (0, 0, 0, 0), (-4), 0), (27, .ireturn, 1, (0, 0, 0, 0), 0, 0), (28, .aload_n 0, 1, (0, 0, 0, 0), 0, 0), (29, .getfield 10, 3, (0, 2, 11, 0), 0, 0), (32, .getfield 219, 3, (2, 2, 10, 0), 0, 0), (35, .aload_n 0, 1, (0, 0, 0, 0), 0, 0), (36, .getfield 10, 3, (0, 2, 11, 0), 0, 0), (39, .getfield 99, 3, (0, 2, 10, 0), 0, 0), (42, .iload_n 1, 1, (1, 0, 0, 0), 0, 0), (43, .aaload, 1, (0, 0, 0, 0), 0, 0), (44, .invokevirtual 259, 3, (9, 4, 1, 0), 0, 0)]),
  (1000000, [(47, .aload_n 0, 1, (0, 0, 0, 0), 0, 0), (48, .getfield 10, 3, (0, 2, 11, 0), 0, 0), (51, .getfield 219, 3, (2, 2, 10, 0), 0, 0), (54, .getfield 223, 3, (2, 0, 1, 0), 0, 0), (57, .ireturn, 1, (0, 0, 0, 0), 0, 0)])]
-- ShareNets.near(II)I
set_option maxRecDepth 100000 in
noncomputable def z_k90 : List (Nat × List (Nat × z_E)) := [(46, [(0, .iload_n 1, 1, (1, 0, 0, 0), 0, 0), (1, .invokestatic 91, 3, (118, 0, 1, 0), 0, 0), (4, .ifCond .eq 14, 3, (18, 0, 0, 0), 0, 0), (7, .iload_n 2, 1, (2, 0, 0, 0), 0, 0), (8, .iconst 1, 1, (0, 0, 0, 0), 1, 0), (9, .if_icmp .lt 9, 3, (18, 0, 0, 0), 0, 0), (12, .iload_n 2, 1, (2, 0, 0, 0), 0, 0), (13, .bipush 10, 2, (0, 0, 0, 0), 10, 0), (15, .if_icmp .le 5, 3, (20, 0, 0, 0), 0, 0), (18, .iconst (-1), 1, (0, 0, 0, 0), (-1), 0), (19, .ireturn, 1, (0, 0, 0, 0), 0, 0), (20, .aload_n 0, 1, (0, 0, 0, 0), 0, 0), (21, .getfield 10, 3, (0, 2, 11, 0), 0, 0), (24, .getfield 219, 3, (2, 2, 10, 0), 0, 0), (27, .astore_n 3, 1, (3, 0, 0, 0), 0, 0), (28, .aload_n 3, 1, (3, 0, 0, 0), 0, 0), (29, .getfield 223, 3, (2, 0, 1, 0), 0, 0), (32, .ifCond .ne 6, 3, (38, 0, 0, 0), 0, 0), (35, .bipush (-3), 2, (0, 0, 0, 0), (-3), 0), (37, .ireturn, 1, (0, 0, 0, 0), 0, 0), (38, .aload_n 0, 1, (0, 0, 0, 0), 0, 0), (39, .getfield 10, 3, (0, 2, 11, 0), 0, 0), (42, .getfield 99, 3, (0, 2, 10, 0), 0, 0), (45, .iload_n 1, 1, (1, 0, 0, 0), 0, 0)]),
  (88, [(46, .aaload, 1, (0, 0, 0, 0), 0, 0), (47, .astore 4, 2, (4, 0, 0, 0), 0, 0), (49, .aload 4, 2, (4, 0, 0, 0), 0, 0), (51, .iload_n 2, 1, (2, 0, 0, 0), 0, 0), (52, .invokevirtual 113, 3, (19, 4, 1, 0), 0, 0), (55, .aload_n 3, 1, (3, 0, 0, 0), 0, 0), (56, .iload_n 2, 1, (2, 0, 0, 0), 0, 0), (57, .invokevirtual 262, 3, (15, 4, 1, 0), 0, 0), (60, .iconst 1, 1, (0, 0, 0, 0), 1, 0), (61, .istore 5, 2, (5, 0, 0, 0), 0, 0), (63, .iload 5, 2, (5, 0, 0, 0), 0, 0), (65, .iload_n 2, 1, (2, 0, 0, 0), 0, 0), (66, .if_icmp .ge 56, 3, (122, 0, 0, 0), 0, 0), (69, .iconst 0, 1, (0, 0, 0, 0), 0, 0), (70, .istore 6, 2, (6, 0, 0, 0), 0, 0), (72, .iload 6, 2, (6, 0, 0, 0), 0, 0), (74, .iload 5, 2, (5, 0, 0, 0), 0, 0), (76, .if_icmp .ge 40, 3, (116, 0, 0, 0), 0, 0), (79, .aload 4, 2, (4, 0, 0, 0), 0, 0), (81, .iload 6, 2, (6, 0, 0, 0), 0, 0), (83, .iload 5, 2, (5, 0, 0, 0), 0, 0), (85, .aload_n 0, 1, (0, 0, 0, 0), 0, 0), (86, .aload_n 3, 1, (3, 0, 0, 0), 0, 0), (87, .aload_n 3, 1, (3, 0, 0, 0), 0, 0)]),
  (1000000, [(88, .getfield 265, 3, (4, 2, 1, 0), 0, 0), (91, .iload 6, 2, (6, 0, 0, 0), 0, 0), (93, .iaload, 1, (0, 0, 0, 0), 0, 0), (94, .aload_n 3, 1, (3, 0, 0, 0), 0, 0), (95, .getfield 265, 3, (4, 2, 1, 0), 0, 0), (98, .iload 5, 2, (5, 0, 0, 0), 0, 0), (100, .iaload, 1, (0, 0, 0, 0), 0, 0), (101, .invokevirtual 234, 3, (7, 4, 2, 0), 0, 0), (104, .invokevirtual 268, 3, (145, 4, 1, 0), 0, 0), (107, .invokevirtual 124, 3, (23, 4, 3, 0), 0, 0), (110, .iinc 6 1, 3, (6, 0, 0, 0), 1, 0), (113, .goto (-41), 3, (72, 0, 0, 0), 0, 0), (116, .iinc 5 1, 3, (5, 0, 0, 0), 1, 0), (119, .goto (-56), 3, (63, 0, 0, 0), 0, 0), (122, .aload 4, 2, (4, 0, 0, 0), 0, 0), (124, .invokevirtual 110, 3, (26, 4, 0, 0), 0, 0), (127, .ireturn, 1, (0, 0, 0, 0), 0, 0)])]
-- ShareNets.mixed(II)I
set_option maxRecDepth 100000 in
noncomputable def z_k91 : List (Nat × List (Nat × z_E)) := [(43, [(0, .iload_n 1, 1, (1, 0, 0, 0), 0, 0), (1, .invokestatic 91, 3, (118, 0, 1, 0), 0, 0), (4, .ifCond .eq 12, 3, (16, 0, 0, 0), 0, 0), (7, .iload_n 2, 1, (2, 0, 0, 0), 0, 0), (8, .ifCond .lt 8, 3, (16, 0, 0, 0), 0, 0), (11, .iload_n 2, 1, (2, 0, 0, 0), 0, 0), (12, .iconst 4, 1, (0, 0, 0, 0), 4, 0), (13, .if_icmp .le 5, 3, (18, 0, 0, 0), 0, 0), (16, .iconst (-1), 1, (0, 0, 0, 0), (-1), 0), (17, .ireturn, 1, (0, 0, 0, 0), 0, 0), (18, .aload_n 0, 1, (0, 0, 0, 0), 0, 0), (19, .getfield 10, 3, (0, 2, 11, 0), 0, 0), (22, .getfield 99, 3, (0, 2, 10, 0), 0, 0), (25, .iload_n 1, 1, (1, 0, 0, 0), 0, 0), (26, .aaload, 1, (0, 0, 0, 0), 0, 0), (27, .astore_n 3, 1, (3, 0, 0, 0), 0, 0), (28, .iconst 1, 1, (0, 0, 0, 0), 1, 0), (29, .istore 4, 2, (4, 0, 0, 0), 0, 0), (31, .iload 4, 2, (4, 0, 0, 0), 0, 0), (33, .aload_n 3, 1, (3, 0, 0, 0), 0, 0), (34, .getfield 128, 3, (1, 0, 2, 0), 0, 0), (37, .if_icmp .ge 51, 3, (88, 0, 0, 0), 0, 0), (40, .iconst 0, 1, (0, 0, 0, 0), 0, 0), (41, .istore 5, 2, (5, 0, 0, 0), 0, 0)]),
  (1000000, [(43, .iload 5, 2, (5, 0, 0, 0), 0, 0), (45, .iload 4, 2, (4, 0, 0, 0), 0, 0), (47, .if_icmp .ge 35, 3, (82, 0, 0, 0), 0, 0), (50, .aload_n 3, 1, (3, 0, 0, 0), 0, 0), (51, .iload 5, 2, (5, 0, 0, 0), 0, 0), (53, .iload 4, 2, (4, 0, 0, 0), 0, 0), (55, .aload_n 0, 1, (0, 0, 0, 0), 0, 0), (56, .getfield 10, 3, (0, 2, 11, 0), 0, 0), (59, .invokevirtual 271, 3, (65, 4, 0, 0), 0, 0), (62, .iconst 4, 1, (0, 0, 0, 0), 4, 0), (63, .irem, 1, (0, 0, 0, 0), 0, 0), (64, .iload_n 2, 1, (2, 0, 0, 0), 0, 0), (65, .if_icmp .ge 7, 3, (72, 0, 0, 0), 0, 0), (68, .iconst 1, 1, (0, 0, 0, 0), 1, 0), (69, .goto 4, 3, (73, 0, 0, 0), 0, 0), (72, .iconst 0, 1, (0, 0, 0, 0), 0, 0), (73, .invokevirtual 124, 3, (23, 4, 3, 0), 0, 0), (76, .iinc 5 1, 3, (5, 0, 0, 0), 1, 0), (79, .goto (-36), 3, (43, 0, 0, 0), 0, 0), (82, .iinc 4 1, 3, (4, 0, 0, 0), 1, 0), (85, .goto (-54), 3, (31, 0, 0, 0), 0, 0), (88, .aload_n 3, 1, (3, 0, 0, 0), 0, 0), (89, .invokevirtual 110, 3, (26, 4, 0, 0), 0, 0), (92, .ireturn, 1, (0, 0, 0, 0), 0, 0)])]
-- ShareNets.draw(II)I
set_option maxRecDepth 100000 in
noncomputable def z_k92 : List (Nat × List (Nat × z_E)) := [(41, [(0, .iload_n 1, 1, (1, 0, 0, 0), 0, 0), (1, .invokestatic 91, 3, (118, 0, 1, 0), 0, 0), (4, .ifCond .eq 13, 3, (17, 0, 0, 0), 0, 0), (7, .iload_n 2, 1, (2, 0, 0, 0), 0, 0), (8, .iconst 1, 1, (0, 0, 0, 0), 1, 0), (9, .if_icmp .lt 8, 3, (17, 0, 0, 0), 0, 0), (12, .iload_n 2, 1, (2, 0, 0, 0), 0, 0), (13, .iconst 4, 1, (0, 0, 0, 0), 4, 0), (14, .if_icmp .le 5, 3, (19, 0, 0, 0), 0, 0), (17, .iconst (-1), 1, (0, 0, 0, 0), (-1), 0), (18, .ireturn, 1, (0, 0, 0, 0), 0, 0), (19, .aload_n 0, 1, (0, 0, 0, 0), 0, 0), (20, .getfield 10, 3, (0, 2, 11, 0), 0, 0), (23, .getfield 99, 3, (0, 2, 10, 0), 0, 0), (26, .iload_n 1, 1, (1, 0, 0, 0), 0, 0), (27, .aaload, 1, (0, 0, 0, 0), 0, 0), (28, .astore_n 3, 1, (3, 0, 0, 0), 0, 0), (29, .aload_n 3, 1, (3, 0, 0, 0), 0, 0), (30, .getfield 128, 3, (1, 0, 2, 0), 0, 0), (33, .iload_n 2, 1, (2, 0, 0, 0), 0, 0), (34, .if_icmp .ge 6, 3, (40, 0, 0, 0), 0, 0), (37, .bipush (-3), 2, (0, 0, 0, 0), (-3), 0), (39, .ireturn, 1, (0, 0, 0, 0), 0, 0), (40, .iconst 1, 1, (0, 0, 0, 0), 1, 0)]),
  (84, [(41, .aload_n 3, 1, (3, 0, 0, 0), 0, 0), (42, .getfield 128, 3, (1, 0, 2, 0), 0, 0), (45, .ishl, 1, (0, 0, 0, 0), 0, 0), (46, .iconst 1, 1, (0, 0, 0, 0), 1, 0), (47, .isub, 1, (0, 0, 0, 0), 0, 0), (48, .istore 4, 2, (4, 0, 0, 0), 0, 0), (50, .iconst 0, 1, (0, 0, 0, 0), 0, 0), (51, .istore 5, 2, (5, 0, 0, 0), 0, 0), (53, .iconst 0, 1, (0, 0, 0, 0), 0, 0), (54, .istore 6, 2, (6, 0, 0, 0), 0, 0), (56, .iload 6, 2, (6, 0, 0, 0), 0, 0), (58, .iload_n 2, 1, (2, 0, 0, 0), 0, 0), (59, .if_icmp .ge 71, 3, (130, 0, 0, 0), 0, 0), (62, .iload 4, 2, (4, 0, 0, 0), 0, 0), (64, .aload_n 0, 1, (0, 0, 0, 0), 0, 0), (65, .getfield 10, 3, (0, 2, 11, 0), 0, 0), (68, .invokevirtual 271, 3, (65, 4, 0, 0), 0, 0), (71, .aload_n 3, 1, (3, 0, 0, 0), 0, 0), (72, .getfield 128, 3, (1, 0, 2, 0), 0, 0), (75, .iload 6, 2, (6, 0, 0, 0), 0, 0), (77, .isub, 1, (0, 0, 0, 0), 0, 0), (78, .irem, 1, (0, 0, 0, 0), 0, 0), (79, .invokestatic 274, 3, (133, 0, 2, 0), 0, 0), (82, .istore 7, 2, (7, 0, 0, 0), 0, 0)]),
  (127, [(84, .iload 4, 2, (4, 0, 0, 0), 0, 0), (86, .iconst 1, 1, (0, 0, 0, 0), 1, 0), (87, .iload 7, 2, (7, 0, 0, 0), 0, 0), (89, .ishl, 1, (0, 0, 0, 0), 0, 0), (90, .iconst (-1), 1, (0, 0, 0, 0), (-1), 0), (91, .ixor, 1, (0, 0, 0, 0), 0, 0), (92, .iand, 1, (0, 0, 0, 0), 0, 0), (93, .istore 4, 2, (4, 0, 0, 0), 0, 0), (95, .aload_n 0, 1, (0, 0, 0, 0), 0, 0), (96, .getfield 63, 3, (11, 2, 11, 0), 0, 0), (99, .getfield 277, 3, (1, 2, 7, 0), 0, 0), (102, .iload 6, 2, (6, 0, 0, 0), 0, 0), (104, .iload 7, 2, (7, 0, 0, 0), 0, 0), (106, .iastore, 1, (0, 0, 0, 0), 0, 0), (107, .iload 5, 2, (5, 0, 0, 0), 0, 0), (109, .aload_n 0, 1, (0, 0, 0, 0), 0, 0), (110, .getfield 63, 3, (11, 2, 11, 0), 0, 0), (113, .aload_n 3, 1, (3, 0, 0, 0), 0, 0), (114, .iload 6, 2, (6, 0, 0, 0), 0, 0), (116, .iload 7, 2, (7, 0, 0, 0), 0, 0), (118, .invokevirtual 280, 3, (44, 4, 3, 0), 0, 0), (121, .ior, 1, (0, 0, 0, 0), 0, 0), (122, .istore 5, 2, (5, 0, 0, 0), 0, 0), (124, .iinc 6 1, 3, (6, 0, 0, 0), 1, 0)]),
  (1000000, [(127, .goto (-71), 3, (56, 0, 0, 0), 0, 0), (130, .getstatic 165, 3, (0, 0, 0, 0), 0, 0), (133, .getstatic 168, 3, (1, 0, 0, 0), 0, 0), (136, .iload 5, 2, (5, 0, 0, 0), 0, 0), (138, .bipush 63, 2, (0, 0, 0, 0), 63, 0), (140, .iand, 1, (0, 0, 0, 0), 0, 0), (141, .iaload, 1, (0, 0, 0, 0), 0, 0), (142, .iaload, 1, (0, 0, 0, 0), 0, 0), (143, .ireturn, 1, (0, 0, 0, 0), 0, 0)])]
-- ShareNets.seed(I)I
set_option maxRecDepth 100000 in
noncomputable def z_k93 : List (Nat × List (Nat × z_E)) := [(1000000, [(0, .aload_n 0, 1, (0, 0, 0, 0), 0, 0), (1, .getfield 10, 3, (0, 2, 11, 0), 0, 0), (4, .getfield 284, 3, (6, 0, 10, 0), 0, 0), (7, .istore_n 2, 1, (2, 0, 0, 0), 0, 0), (8, .aload_n 0, 1, (0, 0, 0, 0), 0, 0), (9, .getfield 10, 3, (0, 2, 11, 0), 0, 0), (12, .iload_n 1, 1, (1, 0, 0, 0), 0, 0), (13, .putfield 284, 3, (6, 0, 10, 0), 0, 0), (16, .iload_n 2, 1, (2, 0, 0, 0), 0, 0), (17, .ireturn, 1, (0, 0, 0, 0), 0, 0)])]
-- ShareNets.add(III)I
set_option maxRecDepth 100000 in
noncomputable def z_k94 : List (Nat × List (Nat × z_E)) := [(47, [(0, .iload_n 1, 1, (1, 0, 0, 0), 0, 0), (1, .iload_n 2, 1, (2, 0, 0, 0), 0, 0), (2, .iload_n 3, 1, (3, 0, 0, 0), 0, 0), (3, .invokestatic 287, 3, (146, 0, 3, 0), 0, 0), (6, .ifCond .ne 5, 3, (11, 0, 0, 0), 0, 0), (9, .iconst (-1), 1, (0, 0, 0, 0), (-1), 0), (10, .ireturn, 1, (0, 0, 0, 0), 0, 0), (11, .aload_n 0, 1, (0, 0, 0, 0), 0, 0), (12, .getfield 10, 3, (0, 2, 11, 0), 0, 0), (15, .getfield 291, 3, (5, 0, 10, 0), 0, 0), (18, .bipush 6, 2, (0, 0, 0, 0), 6, 0), (20, .if_icmp .lt 6, 3, (26, 0, 0, 0), 0, 0), (23, .bipush (-2), 2, (0, 0, 0, 0), (-2), 0), (25, .ireturn, 1, (0, 0, 0, 0), 0, 0), (26, .aload_n 0, 1, (0, 0, 0, 0), 0, 0), (27, .getfield 10, 3, (0, 2, 11, 0), 0, 0), (30, .getfield 291, 3, (5, 0, 10, 0), 0, 0), (33, .istore 4, 2, (4, 0, 0, 0), 0, 0), (35, .aload_n 0, 1, (0, 0, 0, 0), 0, 0), (36, .getfield 10, 3, (0, 2, 11, 0), 0, 0), (39, .getfield 294, 3, (3, 2, 10, 0), 0, 0), (42, .iload 4, 2, (4, 0, 0, 0), 0, 0), (44, .iload_n 1, 1, (1, 0, 0, 0), 0, 0), (45, .iload 4, 2, (4, 0, 0, 0), 0, 0)]),
  (1000000, [(47, .iload_n 2, 1, (2, 0, 0, 0), 0, 0), (48, .iload_n 3, 1, (3, 0, 0, 0), 0, 0), (49, .invokestatic 298, 3, (147, 0, 4, 0), 0, 0), (52, .aastore, 1, (0, 0, 0, 0), 0, 0), (53, .aload_n 0, 1, (0, 0, 0, 0), 0, 0), (54, .getfield 10, 3, (0, 2, 11, 0), 0, 0), (57, .getfield 302, 3, (4, 2, 10, 0), 0, 0), (60, .iload 4, 2, (4, 0, 0, 0), 0, 0), (62, .iconst 0, 1, (0, 0, 0, 0), 0, 0), (63, .iastore, 1, (0, 0, 0, 0), 0, 0), (64, .aload_n 0, 1, (0, 0, 0, 0), 0, 0), (65, .getfield 10, 3, (0, 2, 11, 0), 0, 0), (68, .iload 4, 2, (4, 0, 0, 0), 0, 0), (70, .iconst 1, 1, (0, 0, 0, 0), 1, 0), (71, .iadd, 1, (0, 0, 0, 0), 0, 0), (72, .putfield 291, 3, (5, 0, 10, 0), 0, 0), (75, .iload 4, 2, (4, 0, 0, 0), 0, 0), (77, .ireturn, 1, (0, 0, 0, 0), 0, 0)])]
-- ShareNets.shareOf(II)I
set_option maxRecDepth 100000 in
noncomputable def z_k95 : List (Nat × List (Nat × z_E)) := [(68, [(0, .aload_n 0, 1, (0, 0, 0, 0), 0, 0), (1, .iload_n 1, 1, (1, 0, 0, 0), 0, 0), (2, .invokevirtual 305, 3, (120, 4, 1, 0), 0, 0), (5, .ifCond .ne 5, 3, (10, 0, 0, 0), 0, 0), (8, .iconst (-1), 1, (0, 0, 0, 0), (-1), 0), (9, .ireturn, 1, (0, 0, 0, 0), 0, 0), (10, .aload_n 0, 1, (0, 0, 0, 0), 0, 0), (11, .getfield 10, 3, (0, 2, 11, 0), 0, 0), (14, .getfield 294, 3, (3, 2, 10, 0), 0, 0), (17, .iload_n 1, 1, (1, 0, 0, 0), 0, 0), (18, .aaload, 1, (0, 0, 0, 0), 0, 0), (19, .astore_n 3, 1, (3, 0, 0, 0), 0, 0), (20, .iload_n 2, 1, (2, 0, 0, 0), 0, 0), (21, .tableswitch 56 0 3 #[31, 36, 41, 46], 31, (0, 0, 0, 0), 0, 0), (52, .aload_n 3, 1, (3, 0, 0, 0), 0, 0), (53, .getfield 308, 3, (0, 0, 3, 0), 0, 0), (56, .ireturn, 1, (0, 0, 0, 0), 0, 0), (57, .aload_n 3, 1, (3, 0, 0, 0), 0, 0), (58, .getfield 313, 3, (2, 0, 3, 0), 0, 0), (61, .ireturn, 1, (0, 0, 0, 0), 0, 0), (62, .aload_n 3, 1, (3, 0, 0, 0), 0, 0), (63, .getfield 316, 3, (3, 0, 3, 0), 0, 0), (66, .ireturn, 1, (0, 0, 0, 0), 0, 0), (67, .aload_n 0, 1, (0, 0, 0, 0), 0, 0)]),
  (1000000, [(68, .getfield 10, 3, (0, 2, 11, 0), 0, 0), (71, .getfield 302, 3, (4, 2, 10, 0), 0, 0), (74, .iload_n 1, 1, (1, 0, 0, 0), 0, 0), (75, .iaload, 1, (0, 0, 0, 0), 0, 0), (76, .ireturn, 1, (0, 0, 0, 0), 0, 0), (77, .iconst (-1), 1, (0, 0, 0, 0), (-1), 0), (78, .ireturn, 1, (0, 0, 0, 0), 0, 0)])]
-- ShareNets.weight(II)I
set_option maxRecDepth 100000 in
noncomputable def z_k96 : List (Nat × List (Nat × z_E)) := [(41, [(0, .aload_n 0, 1, (0, 0, 0, 0), 0, 0), (1, .iload_n 1, 1, (1, 0, 0, 0), 0, 0), (2, .invokevirtual 305, 3, (120, 4, 1, 0), 0, 0), (5, .ifCond .eq 13, 3, (18, 0, 0, 0), 0, 0), (8, .iload_n 2, 1, (2, 0, 0, 0), 0, 0), (9, .ifCond .lt 9, 3, (18, 0, 0, 0), 0, 0), (12, .iload_n 2, 1, (2, 0, 0, 0), 0, 0), (13, .bipush 99, 2, (0, 0, 0, 0), 99, 0), (15, .if_icmp .le 5, 3, (20, 0, 0, 0), 0, 0), (18, .iconst (-1), 1, (0, 0, 0, 0), (-1), 0), (19, .ireturn, 1, (0, 0, 0, 0), 0, 0), (20, .aload_n 0, 1, (0, 0, 0, 0), 0, 0), (21, .getfield 10, 3, (0, 2, 11, 0), 0, 0), (24, .getfield 302, 3, (4, 2, 10, 0), 0, 0), (27, .iload_n 1, 1, (1, 0, 0, 0), 0, 0), (28, .iaload, 1, (0, 0, 0, 0), 0, 0), (29, .istore_n 3, 1, (3, 0, 0, 0), 0, 0), (30, .aload_n 0, 1, (0, 0, 0, 0), 0, 0), (31, .getfield 10, 3, (0, 2, 11, 0), 0, 0), (34, .getfield 302, 3, (4, 2, 10, 0), 0, 0), (37, .iload_n 1, 1, (1, 0, 0, 0), 0, 0), (38, .iload_n 2, 1, (2, 0, 0, 0), 0, 0), (39, .iastore, 1, (0, 0, 0, 0), 0, 0), (40, .iload_n 3, 1, (3, 0, 0, 0), 0, 0)]),
  (1000000, [(41, .ireturn, 1, (0, 0, 0, 0), 0, 0)])]
-- ShareNets.gives(II)J
set_option maxRecDepth 100000 in
noncomputable def z_k97 : List (Nat × List (Nat × z_E)) := [(1000000, [(0, .aload_n 0, 1, (0, 0, 0, 0), 0, 0), (1, .iload_n 1, 1, (1, 0, 0, 0), 0, 0), (2, .invokevirtual 305, 3, (120, 4, 1, 0), 0, 0), (5, .ifCond .eq 12, 3, (17, 0, 0, 0), 0, 0), (8, .iload_n 2, 1, (2, 0, 0, 0), 0, 0), (9, .ifCond .lt 8, 3, (17, 0, 0, 0), 0, 0), (12, .iload_n 2, 1, (2, 0, 0, 0), 0, 0), (13, .iconst 4, 1, (0, 0, 0, 0), 4, 0), (14, .if_icmp .lt 7, 3, (21, 0, 0, 0), 0, 0), (17, .ldc2_w 319, 3, (0, 0, 0, 0), 0, (-1000000000000)), (20, .lreturn, 1, (0, 0, 0, 0), 0, 0), (21, .aload_n 0, 1, (0, 0, 0, 0), 0, 0), (22, .getfield 10, 3, (0, 2, 11, 0), 0, 0), (25, .getfield 294, 3, (3, 2, 10, 0), 0, 0), (28, .iload_n 1, 1, (1, 0, 0, 0), 0, 0), (29, .aaload, 1, (0, 0, 0, 0), 0, 0), (30, .iload_n 2, 1, (2, 0, 0, 0), 0, 0), (31, .invokestatic 321, 3, (148, 0, 2, 0), 0, 0), (34, .i2l, 1, (0, 0, 0, 0), 0, 0), (35, .lreturn, 1, (0, 0, 0, 0), 0, 0)])]
-- ShareNets.value(III)J
set_option maxRecDepth 100000 in
noncomputable def z_k98 : List (Nat × List (Nat × z_E)) := [(50, [(0, .aload_n 0, 1, (0, 0, 0, 0), 0, 0), (1, .iload_n 1, 1, (1, 0, 0, 0), 0, 0), (2, .invokevirtual 305, 3, (120, 4, 1, 0), 0, 0), (5, .ifCond .eq 33, 3, (38, 0, 0, 0), 0, 0), (8, .iload_n 2, 1, (2, 0, 0, 0), 0, 0), (9, .invokestatic 91, 3, (118, 0, 1, 0), 0, 0), (12, .ifCond .eq 26, 3, (38, 0, 0, 0), 0, 0), (15, .iload_n 3, 1, (3, 0, 0, 0), 0, 0), (16, .invokestatic 185, 3, (121, 0, 1, 0), 0, 0), (19, .ifCond .eq 19, 3, (38, 0, 0, 0), 0, 0), (22, .aload_n 0, 1, (0, 0, 0, 0), 0, 0), (23, .getfield 10, 3, (0, 2, 11, 0), 0, 0), (26, .getfield 99, 3, (0, 2, 10, 0), 0, 0), (29, .iload_n 2, 1, (2, 0, 0, 0), 0, 0), (30, .aaload, 1, (0, 0, 0, 0), 0, 0), (31, .getfield 128, 3, (1, 0, 2, 0), 0, 0), (34, .iconst 3, 1, (0, 0, 0, 0), 3, 0), (35, .if_icmp .ge 7, 3, (42, 0, 0, 0), 0, 0), (38, .ldc2_w 319, 3, (0, 0, 0, 0), 0, (-1000000000000)), (41, .lreturn, 1, (0, 0, 0, 0), 0, 0), (42, .aload_n 0, 1, (0, 0, 0, 0), 0, 0), (43, .getfield 63, 3, (11, 2, 11, 0), 0, 0), (46, .aload_n 0, 1, (0, 0, 0, 0), 0, 0), (47, .getfield 10, 3, (0, 2, 11, 0), 0, 0)]),
  (95, [(50, .getfield 99, 3, (0, 2, 10, 0), 0, 0), (53, .iload_n 2, 1, (2, 0, 0, 0), 0, 0), (54, .aaload, 1, (0, 0, 0, 0), 0, 0), (55, .iconst 3, 1, (0, 0, 0, 0), 3, 0), (56, .invokevirtual 178, 3, (42, 4, 2, 0), 0, 0), (59, .lconst 0, 1, (0, 0, 0, 0), 0, 0), (60, .lstore 4, 2, (4, 0, 0, 0), 0, 0), (62, .iconst 0, 1, (0, 0, 0, 0), 0, 0), (63, .istore 6, 2, (6, 0, 0, 0), 0, 0), (65, .iload 6, 2, (6, 0, 0, 0), 0, 0), (67, .iconst 4, 1, (0, 0, 0, 0), 4, 0), (68, .if_icmp .ge 41, 3, (109, 0, 0, 0), 0, 0), (71, .lload 4, 2, (4, 0, 0, 0), 0, 0), (73, .aload_n 0, 1, (0, 0, 0, 0), 0, 0), (74, .getfield 10, 3, (0, 2, 11, 0), 0, 0), (77, .getfield 294, 3, (3, 2, 10, 0), 0, 0), (80, .iload_n 1, 1, (1, 0, 0, 0), 0, 0), (81, .aaload, 1, (0, 0, 0, 0), 0, 0), (82, .iload 6, 2, (6, 0, 0, 0), 0, 0), (84, .invokestatic 321, 3, (148, 0, 2, 0), 0, 0), (87, .i2l, 1, (0, 0, 0, 0), 0, 0), (88, .aload_n 0, 1, (0, 0, 0, 0), 0, 0), (89, .getfield 63, 3, (11, 2, 11, 0), 0, 0), (92, .getfield 182, 3, (0, 2, 7, 0), 0, 0)]),
  (1000000, [(95, .iload 6, 2, (6, 0, 0, 0), 0, 0), (97, .iaload, 1, (0, 0, 0, 0), 0, 0), (98, .i2l, 1, (0, 0, 0, 0), 0, 0), (99, .lmul, 1, (0, 0, 0, 0), 0, 0), (100, .ladd, 1, (0, 0, 0, 0), 0, 0), (101, .lstore 4, 2, (4, 0, 0, 0), 0, 0), (103, .iinc 6 1, 3, (6, 0, 0, 0), 1, 0), (106, .goto (-41), 3, (65, 0, 0, 0), 0, 0), (109, .lload 4, 2, (4, 0, 0, 0), 0, 0), (111, .ldc2_w 325, 3, (0, 0, 0, 0), 0, 3), (114, .aload_n 0, 1, (0, 0, 0, 0), 0, 0), (115, .getfield 10, 3, (0, 2, 11, 0), 0, 0), (118, .getfield 99, 3, (0, 2, 10, 0), 0, 0), (121, .iload_n 2, 1, (2, 0, 0, 0), 0, 0), (122, .aaload, 1, (0, 0, 0, 0), 0, 0), (123, .getfield 128, 3, (1, 0, 2, 0), 0, 0), (126, .iconst 3, 1, (0, 0, 0, 0), 3, 0), (127, .invokestatic 188, 3, (130, 0, 2, 0), 0, 0), (130, .i2l, 1, (0, 0, 0, 0), 0, 0), (131, .lmul, 1, (0, 0, 0, 0), 0, 0), (132, .iload_n 3, 1, (3, 0, 0, 0), 0, 0), (133, .invokestatic 191, 3, (131, 0, 3, 0), 0, 0), (136, .lreturn, 1, (0, 0, 0, 0), 0, 0)])]
-- ShareNets.valueAt(II)J
set_option maxRecDepth 100000 in
noncomputable def z_k99 : List (Nat × List (Nat × z_E)) := [(50, [(0, .aload_n 0, 1, (0, 0, 0, 0), 0, 0), (1, .iload_n 1, 1, (1, 0, 0, 0), 0, 0), (2, .invokevirtual 305, 3, (120, 4, 1, 0), 0, 0), (5, .ifCond .eq 23, 3, (28, 0, 0, 0), 0, 0), (8, .iload_n 2, 1, (2, 0, 0, 0), 0, 0), (9, .invokestatic 185, 3, (121, 0, 1, 0), 0, 0), (12, .ifCond .eq 16, 3, (28, 0, 0, 0), 0, 0), (15, .aload_n 0, 1, (0, 0, 0, 0), 0, 0), (16, .getfield 10, 3, (0, 2, 11, 0), 0, 0), (19, .getfield 219, 3, (2, 2, 10, 0), 0, 0), (22, .getfield 223, 3, (2, 0, 1, 0), 0, 0), (25, .ifCond .ne 7, 3, (32, 0, 0, 0), 0, 0), (28, .ldc2_w 319, 3, (0, 0, 0, 0), 0, (-1000000000000)), (31, .lreturn, 1, (0, 0, 0, 0), 0, 0), (32, .aload_n 0, 1, (0, 0, 0, 0), 0, 0), (33, .getfield 10, 3, (0, 2, 11, 0), 0, 0), (36, .getfield 219, 3, (2, 2, 10, 0), 0, 0), (39, .iconst 3, 1, (0, 0, 0, 0), 3, 0), (40, .invokevirtual 245, 3, (12, 4, 1, 0), 0, 0), (43, .lconst 0, 1, (0, 0, 0, 0), 0, 0), (44, .lstore_n 3, 1, (3, 0, 0, 0), 0, 0), (45, .iconst 0, 1, (0, 0, 0, 0), 0, 0), (46, .istore 5, 2, (5, 0, 0, 0), 0, 0), (48, .iload 5, 2, (5, 0, 0, 0), 0, 0)]),
  (96, [(50, .iconst 4, 1, (0, 0, 0, 0), 4, 0), (51, .if_icmp .ge 41, 3, (92, 0, 0, 0), 0, 0), (54, .lload_n 3, 1, (3, 0, 0, 0), 0, 0), (55, .aload_n 0, 1, (0, 0, 0, 0), 0, 0), (56, .getfield 10, 3, (0, 2, 11, 0), 0, 0), (59, .getfield 294, 3, (3, 2, 10, 0), 0, 0), (62, .iload_n 1, 1, (1, 0, 0, 0), 0, 0), (63, .aaload, 1, (0, 0, 0, 0), 0, 0), (64, .iload 5, 2, (5, 0, 0, 0), 0, 0), (66, .invokestatic 321, 3, (148, 0, 2, 0), 0, 0), (69, .i2l, 1, (0, 0, 0, 0), 0, 0), (70, .aload_n 0, 1, (0, 0, 0, 0), 0, 0), (71, .getfield 10, 3, (0, 2, 11, 0), 0, 0), (74, .getfield 219, 3, (2, 2, 10, 0), 0, 0), (77, .getfield 248, 3, (3, 2, 1, 0), 0, 0), (80, .iload 5, 2, (5, 0, 0, 0), 0, 0), (82, .laload, 1, (0, 0, 0, 0), 0, 0), (83, .lmul, 1, (0, 0, 0, 0), 0, 0), (84, .ladd, 1, (0, 0, 0, 0), 0, 0), (85, .lstore_n 3, 1, (3, 0, 0, 0), 0, 0), (86, .iinc 5 1, 3, (5, 0, 0, 0), 1, 0), (89, .goto (-41), 3, (48, 0, 0, 0), 0, 0), (92, .lload_n 3, 1, (3, 0, 0, 0), 0, 0), (93, .ldc2_w 325, 3, (0, 0, 0, 0), 0, 3)]),
  (1000000, [(96, .aload_n 0, 1, (0, 0, 0, 0), 0, 0), (97, .getfield 10, 3, (0, 2, 11, 0), 0, 0), (100, .getfield 219, 3, (2, 2, 10, 0), 0, 0), (103, .iconst 3, 1, (0, 0, 0, 0), 3, 0), (104, .invokevirtual 251, 3, (11, 4, 1, 0), 0, 0), (107, .lmul, 1, (0, 0, 0, 0), 0, 0), (108, .iload_n 2, 1, (2, 0, 0, 0), 0, 0), (109, .invokestatic 191, 3, (131, 0, 3, 0), 0, 0), (112, .lreturn, 1, (0, 0, 0, 0), 0, 0)])]
-- ShareNets.bound(III)J
set_option maxRecDepth 100000 in
noncomputable def z_k100 : List (Nat × List (Nat × z_E)) := [(49, [(0, .iload_n 1, 1, (1, 0, 0, 0), 0, 0), (1, .iload_n 2, 1, (2, 0, 0, 0), 0, 0), (2, .invokestatic 327, 3, (129, 0, 2, 0), 0, 0), (5, .ifCond .eq 10, 3, (15, 0, 0, 0), 0, 0), (8, .iload_n 3, 1, (3, 0, 0, 0), 0, 0), (9, .invokestatic 185, 3, (121, 0, 1, 0), 0, 0), (12, .ifCond .ne 7, 3, (19, 0, 0, 0), 0, 0), (15, .ldc2_w 319, 3, (0, 0, 0, 0), 0, (-1000000000000)), (18, .lreturn, 1, (0, 0, 0, 0), 0, 0), (19, .aload_n 0, 1, (0, 0, 0, 0), 0, 0), (20, .iconst 3, 1, (0, 0, 0, 0), 3, 0), (21, .invokevirtual 209, 3, (139, 4, 1, 0), 0, 0), (24, .istore 4, 2, (4, 0, 0, 0), 0, 0), (26, .iload 4, 2, (4, 0, 0, 0), 0, 0), (28, .ifCond .ne 9, 3, (37, 0, 0, 0), 0, 0), (31, .ldc2_w 319, 3, (0, 0, 0, 0), 0, (-1000000000000)), (34, .goto 19, 3, (53, 0, 0, 0), 0, 0), (37, .aload_n 0, 1, (0, 0, 0, 0), 0, 0), (38, .iload_n 1, 1, (1, 0, 0, 0), 0, 0), (39, .iload_n 2, 1, (2, 0, 0, 0), 0, 0), (40, .iload 4, 2, (4, 0, 0, 0), 0, 0), (42, .invokevirtual 330, 3, (153, 4, 3, 0), 0, 0), (45, .i2l, 1, (0, 0, 0, 0), 0, 0), (46, .ldc2_w 333, 3, (0, 0, 0, 0), 0, 36)]),
  (1000000, [(49, .iload_n 3, 1, (3, 0, 0, 0), 0, 0), (50, .invokestatic 191, 3, (131, 0, 3, 0), 0, 0), (53, .lreturn, 1, (0, 0, 0, 0), 0, 0)])]
-- ShareNets.slack(IIII)J
set_option maxRecDepth 100000 in
noncomputable def z_k101 : List (Nat × List (Nat × z_E)) := [(45, [(0, .iload_n 1, 1, (1, 0, 0, 0), 0, 0), (1, .iload_n 2, 1, (2, 0, 0, 0), 0, 0), (2, .invokestatic 327, 3, (129, 0, 2, 0), 0, 0), (5, .ifCond .eq 20, 3, (25, 0, 0, 0), 0, 0), (8, .iload 4, 2, (4, 0, 0, 0), 0, 0), (10, .invokestatic 185, 3, (121, 0, 1, 0), 0, 0), (13, .ifCond .eq 12, 3, (25, 0, 0, 0), 0, 0), (16, .iload_n 3, 1, (3, 0, 0, 0), 0, 0), (17, .ifCond .lt 8, 3, (25, 0, 0, 0), 0, 0), (20, .iload_n 3, 1, (3, 0, 0, 0), 0, 0), (21, .iconst 4, 1, (0, 0, 0, 0), 4, 0), (22, .if_icmp .lt 7, 3, (29, 0, 0, 0), 0, 0), (25, .ldc2_w 319, 3, (0, 0, 0, 0), 0, (-1000000000000)), (28, .lreturn, 1, (0, 0, 0, 0), 0, 0), (29, .aload_n 0, 1, (0, 0, 0, 0), 0, 0), (30, .iconst 3, 1, (0, 0, 0, 0), 3, 0), (31, .invokevirtual 209, 3, (139, 4, 1, 0), 0, 0), (34, .istore 5, 2, (5, 0, 0, 0), 0, 0), (36, .iload 5, 2, (5, 0, 0, 0), 0, 0), (38, .iload_n 3, 1, (3, 0, 0, 0), 0, 0), (39, .ishr, 1, (0, 0, 0, 0), 0, 0), (40, .iconst 1, 1, (0, 0, 0, 0), 1, 0), (41, .iand, 1, (0, 0, 0, 0), 0, 0), (42, .ifCond .ne 7, 3, (49, 0, 0, 0), 0, 0)]),
  (1000000, [(45, .ldc2_w 319, 3, (0, 0, 0, 0), 0, (-1000000000000)), (48, .lreturn, 1, (0, 0, 0, 0), 0, 0), (49, .aload_n 0, 1, (0, 0, 0, 0), 0, 0), (50, .iload_n 1, 1, (1, 0, 0, 0), 0, 0), (51, .iload_n 2, 1, (2, 0, 0, 0), 0, 0), (52, .iload 5, 2, (5, 0, 0, 0), 0, 0), (54, .invokevirtual 330, 3, (153, 4, 3, 0), 0, 0), (57, .aload_n 0, 1, (0, 0, 0, 0), 0, 0), (58, .iload_n 1, 1, (1, 0, 0, 0), 0, 0), (59, .iload_n 2, 1, (2, 0, 0, 0), 0, 0), (60, .iload_n 3, 1, (3, 0, 0, 0), 0, 0), (61, .invokevirtual 335, 3, (152, 4, 3, 0), 0, 0), (64, .isub, 1, (0, 0, 0, 0), 0, 0), (65, .i2l, 1, (0, 0, 0, 0), 0, 0), (66, .ldc2_w 333, 3, (0, 0, 0, 0), 0, 36), (69, .iload 4, 2, (4, 0, 0, 0), 0, 0), (71, .invokestatic 191, 3, (131, 0, 3, 0), 0, 0), (74, .lreturn, 1, (0, 0, 0, 0), 0, 0)])]
-- ShareNets.tight(II)I
set_option maxRecDepth 100000 in
noncomputable def z_k102 : List (Nat × List (Nat × z_E)) := [(38, [(0, .iload_n 1, 1, (1, 0, 0, 0), 0, 0), (1, .iload_n 2, 1, (2, 0, 0, 0), 0, 0), (2, .invokestatic 327, 3, (129, 0, 2, 0), 0, 0), (5, .ifCond .ne 5, 3, (10, 0, 0, 0), 0, 0), (8, .iconst (-1), 1, (0, 0, 0, 0), (-1), 0), (9, .ireturn, 1, (0, 0, 0, 0), 0, 0), (10, .aload_n 0, 1, (0, 0, 0, 0), 0, 0), (11, .iconst 3, 1, (0, 0, 0, 0), 3, 0), (12, .invokevirtual 209, 3, (139, 4, 1, 0), 0, 0), (15, .istore_n 3, 1, (3, 0, 0, 0), 0, 0), (16, .iload_n 3, 1, (3, 0, 0, 0), 0, 0), (17, .ifCond .ne 6, 3, (23, 0, 0, 0), 0, 0), (20, .bipush (-3), 2, (0, 0, 0, 0), (-3), 0), (22, .ireturn, 1, (0, 0, 0, 0), 0, 0), (23, .aload_n 0, 1, (0, 0, 0, 0), 0, 0), (24, .iload_n 1, 1, (1, 0, 0, 0), 0, 0), (25, .iload_n 2, 1, (2, 0, 0, 0), 0, 0), (26, .iload_n 3, 1, (3, 0, 0, 0), 0, 0), (27, .invokevirtual 330, 3, (153, 4, 3, 0), 0, 0), (30, .istore 4, 2, (4, 0, 0, 0), 0, 0), (32, .iconst 0, 1, (0, 0, 0, 0), 0, 0), (33, .istore 5, 2, (5, 0, 0, 0), 0, 0), (35, .iconst 0, 1, (0, 0, 0, 0), 0, 0), (36, .istore 6, 2, (6, 0, 0, 0), 0, 0)]),
  (81, [(38, .iload 6, 2, (6, 0, 0, 0), 0, 0), (40, .iconst 4, 1, (0, 0, 0, 0), 4, 0), (41, .if_icmp .ge 40, 3, (81, 0, 0, 0), 0, 0), (44, .iload_n 3, 1, (3, 0, 0, 0), 0, 0), (45, .iload 6, 2, (6, 0, 0, 0), 0, 0), (47, .ishr, 1, (0, 0, 0, 0), 0, 0), (48, .iconst 1, 1, (0, 0, 0, 0), 1, 0), (49, .iand, 1, (0, 0, 0, 0), 0, 0), (50, .ifCond .eq 25, 3, (75, 0, 0, 0), 0, 0), (53, .aload_n 0, 1, (0, 0, 0, 0), 0, 0), (54, .iload_n 1, 1, (1, 0, 0, 0), 0, 0), (55, .iload_n 2, 1, (2, 0, 0, 0), 0, 0), (56, .iload 6, 2, (6, 0, 0, 0), 0, 0), (58, .invokevirtual 335, 3, (152, 4, 3, 0), 0, 0), (61, .iload 4, 2, (4, 0, 0, 0), 0, 0), (63, .if_icmp .ne 12, 3, (75, 0, 0, 0), 0, 0), (66, .iload 5, 2, (5, 0, 0, 0), 0, 0), (68, .iconst 1, 1, (0, 0, 0, 0), 1, 0), (69, .iload 6, 2, (6, 0, 0, 0), 0, 0), (71, .ishl, 1, (0, 0, 0, 0), 0, 0), (72, .ior, 1, (0, 0, 0, 0), 0, 0), (73, .istore 5, 2, (5, 0, 0, 0), 0, 0), (75, .iinc 6 1, 3, (6, 0, 0, 0), 1, 0), (78, .goto (-40), 3, (38, 0, 0, 0), 0, 0)]),
  (1000000, [(81, .iload 5, 2, (5, 0, 0, 0), 0, 0), (83, .ireturn, 1, (0, 0, 0, 0), 0, 0)])]
-- ShareNets.met(II)I
set_option maxRecDepth 100000 in
noncomputable def z_k103 : List (Nat × List (Nat × z_E)) := [(46, [(0, .iload_n 1, 1, (1, 0, 0, 0), 0, 0), (1, .iload_n 2, 1, (2, 0, 0, 0), 0, 0), (2, .invokestatic 327, 3, (129, 0, 2, 0), 0, 0), (5, .ifCond .eq 11, 3, (16, 0, 0, 0), 0, 0), (8, .iload_n 1, 1, (1, 0, 0, 0), 0, 0), (9, .iload_n 2, 1, (2, 0, 0, 0), 0, 0), (10, .invokestatic 174, 3, (128, 0, 2, 0), 0, 0), (13, .goto 4, 3, (17, 0, 0, 0), 0, 0), (16, .iconst (-1), 1, (0, 0, 0, 0), (-1), 0), (17, .istore_n 3, 1, (3, 0, 0, 0), 0, 0), (18, .iload_n 3, 1, (3, 0, 0, 0), 0, 0), (19, .ifCond .ge 5, 3, (24, 0, 0, 0), 0, 0), (22, .iconst (-1), 1, (0, 0, 0, 0), (-1), 0), (23, .ireturn, 1, (0, 0, 0, 0), 0, 0), (24, .aload_n 0, 1, (0, 0, 0, 0), 0, 0), (25, .iconst 3, 1, (0, 0, 0, 0), 3, 0), (26, .invokevirtual 209, 3, (139, 4, 1, 0), 0, 0), (29, .istore 4, 2, (4, 0, 0, 0), 0, 0), (31, .iload 4, 2, (4, 0, 0, 0), 0, 0), (33, .ifCond .eq 16, 3, (49, 0, 0, 0), 0, 0), (36, .aload_n 0, 1, (0, 0, 0, 0), 0, 0), (37, .getfield 10, 3, (0, 2, 11, 0), 0, 0), (40, .getfield 219, 3, (2, 2, 10, 0), 0, 0), (43, .getfield 223, 3, (2, 0, 1, 0), 0, 0)]),
  (93, [(46, .ifCond .ne 6, 3, (52, 0, 0, 0), 0, 0), (49, .bipush (-3), 2, (0, 0, 0, 0), (-3), 0), (51, .ireturn, 1, (0, 0, 0, 0), 0, 0), (52, .aload_n 0, 1, (0, 0, 0, 0), 0, 0), (53, .invokevirtual 255, 3, (144, 4, 0, 0), 0, 0), (56, .ifCond .ne 5, 3, (61, 0, 0, 0), 0, 0), (59, .iconst 0, 1, (0, 0, 0, 0), 0, 0), (60, .ireturn, 1, (0, 0, 0, 0), 0, 0), (61, .aload_n 0, 1, (0, 0, 0, 0), 0, 0), (62, .getfield 10, 3, (0, 2, 11, 0), 0, 0), (65, .getfield 219, 3, (2, 2, 10, 0), 0, 0), (68, .iload_n 1, 1, (1, 0, 0, 0), 0, 0), (69, .invokevirtual 245, 3, (12, 4, 1, 0), 0, 0), (72, .aload_n 0, 1, (0, 0, 0, 0), 0, 0), (73, .iload_n 1, 1, (1, 0, 0, 0), 0, 0), (74, .iload_n 2, 1, (2, 0, 0, 0), 0, 0), (75, .iload 4, 2, (4, 0, 0, 0), 0, 0), (77, .invokevirtual 330, 3, (153, 4, 3, 0), 0, 0), (80, .i2l, 1, (0, 0, 0, 0), 0, 0), (81, .lstore 5, 2, (5, 0, 0, 0), 0, 0), (83, .aload_n 0, 1, (0, 0, 0, 0), 0, 0), (84, .getfield 10, 3, (0, 2, 11, 0), 0, 0), (87, .getfield 219, 3, (2, 2, 10, 0), 0, 0), (90, .getfield 248, 3, (3, 2, 1, 0), 0, 0)]),
  (1000000, [(93, .iload_n 3, 1, (3, 0, 0, 0), 0, 0), (94, .laload, 1, (0, 0, 0, 0), 0, 0), (95, .ldc2_w 333, 3, (0, 0, 0, 0), 0, 36), (98, .lmul, 1, (0, 0, 0, 0), 0, 0), (99, .lload 5, 2, (5, 0, 0, 0), 0, 0), (101, .aload_n 0, 1, (0, 0, 0, 0), 0, 0), (102, .getfield 10, 3, (0, 2, 11, 0), 0, 0), (105, .getfield 219, 3, (2, 2, 10, 0), 0, 0), (108, .iload_n 1, 1, (1, 0, 0, 0), 0, 0), (109, .invokevirtual 251, 3, (11, 4, 1, 0), 0, 0), (112, .lmul, 1, (0, 0, 0, 0), 0, 0), (113, .lcmp, 1, (0, 0, 0, 0), 0, 0), (114, .ifCond .ne 7, 3, (121, 0, 0, 0), 0, 0), (117, .iconst 1, 1, (0, 0, 0, 0), 1, 0), (118, .goto 4, 3, (122, 0, 0, 0), 0, 0), (121, .iconst 0, 1, (0, 0, 0, 0), 0, 0), (122, .ireturn, 1, (0, 0, 0, 0), 0, 0)])]
-- ShareNets.prove(II)I
set_option maxRecDepth 100000 in
noncomputable def z_k104 : List (Nat × List (Nat × z_E)) := [(42, [(0, .iload_n 1, 1, (1, 0, 0, 0), 0, 0), (1, .invokestatic 91, 3, (118, 0, 1, 0), 0, 0), (4, .ifCond .eq 13, 3, (17, 0, 0, 0), 0, 0), (7, .iload_n 2, 1, (2, 0, 0, 0), 0, 0), (8, .iconst 1, 1, (0, 0, 0, 0), 1, 0), (9, .if_icmp .lt 8, 3, (17, 0, 0, 0), 0, 0), (12, .iload_n 2, 1, (2, 0, 0, 0), 0, 0), (13, .iconst 4, 1, (0, 0, 0, 0), 4, 0), (14, .if_icmp .le 5, 3, (19, 0, 0, 0), 0, 0), (17, .iconst (-1), 1, (0, 0, 0, 0), (-1), 0), (18, .ireturn, 1, (0, 0, 0, 0), 0, 0), (19, .aload_n 0, 1, (0, 0, 0, 0), 0, 0), (20, .getfield 63, 3, (11, 2, 11, 0), 0, 0), (23, .aload_n 0, 1, (0, 0, 0, 0), 0, 0), (24, .getfield 10, 3, (0, 2, 11, 0), 0, 0), (27, .getfield 99, 3, (0, 2, 10, 0), 0, 0), (30, .iload_n 1, 1, (1, 0, 0, 0), 0, 0), (31, .aaload, 1, (0, 0, 0, 0), 0, 0), (32, .iload_n 2, 1, (2, 0, 0, 0), 0, 0), (33, .invokevirtual 178, 3, (42, 4, 2, 0), 0, 0), (36, .aload_n 0, 1, (0, 0, 0, 0), 0, 0), (37, .iconst 0, 1, (0, 0, 0, 0), 0, 0), (38, .putfield 44, 3, (7, 0, 11, 0), 0, 0), (41, .iconst 0, 1, (0, 0, 0, 0), 0, 0)]),
  (86, [(42, .istore_n 3, 1, (3, 0, 0, 0), 0, 0), (43, .iload_n 3, 1, (3, 0, 0, 0), 0, 0), (44, .iload_n 2, 1, (2, 0, 0, 0), 0, 0), (45, .invokestatic 171, 3, (127, 0, 1, 0), 0, 0), (48, .if_icmp .ge 63, 3, (111, 0, 0, 0), 0, 0), (51, .aload_n 0, 1, (0, 0, 0, 0), 0, 0), (52, .getfield 63, 3, (11, 2, 11, 0), 0, 0), (55, .getfield 182, 3, (0, 2, 7, 0), 0, 0), (58, .iload_n 3, 1, (3, 0, 0, 0), 0, 0), (59, .iaload, 1, (0, 0, 0, 0), 0, 0), (60, .ifCond .le 45, 3, (105, 0, 0, 0), 0, 0), (63, .aload_n 0, 1, (0, 0, 0, 0), 0, 0), (64, .getfield 37, 3, (5, 2, 11, 0), 0, 0), (67, .aload_n 0, 1, (0, 0, 0, 0), 0, 0), (68, .getfield 44, 3, (7, 0, 11, 0), 0, 0), (71, .getstatic 165, 3, (0, 0, 0, 0), 0, 0), (74, .iload_n 3, 1, (3, 0, 0, 0), 0, 0), (75, .iaload, 1, (0, 0, 0, 0), 0, 0), (76, .iastore, 1, (0, 0, 0, 0), 0, 0), (77, .aload_n 0, 1, (0, 0, 0, 0), 0, 0), (78, .getfield 41, 3, (6, 2, 11, 0), 0, 0), (81, .aload_n 0, 1, (0, 0, 0, 0), 0, 0), (82, .getfield 44, 3, (7, 0, 11, 0), 0, 0), (85, .aload_n 0, 1, (0, 0, 0, 0), 0, 0)]),
  (1000000, [(86, .getfield 63, 3, (11, 2, 11, 0), 0, 0), (89, .getfield 182, 3, (0, 2, 7, 0), 0, 0), (92, .iload_n 3, 1, (3, 0, 0, 0), 0, 0), (93, .iaload, 1, (0, 0, 0, 0), 0, 0), (94, .iastore, 1, (0, 0, 0, 0), 0, 0), (95, .aload_n 0, 1, (0, 0, 0, 0), 0, 0), (96, .dup, 1, (0, 0, 0, 0), 0, 0), (97, .getfield 44, 3, (7, 0, 11, 0), 0, 0), (100, .iconst 1, 1, (0, 0, 0, 0), 1, 0), (101, .iadd, 1, (0, 0, 0, 0), 0, 0), (102, .putfield 44, 3, (7, 0, 11, 0), 0, 0), (105, .iinc 3 1, 3, (3, 0, 0, 0), 1, 0), (108, .goto (-65), 3, (43, 0, 0, 0), 0, 0), (111, .aload_n 0, 1, (0, 0, 0, 0), 0, 0), (112, .getfield 44, 3, (7, 0, 11, 0), 0, 0), (115, .ireturn, 1, (0, 0, 0, 0), 0, 0)])]
-- ShareNets.row(II)I
set_option maxRecDepth 100000 in
noncomputable def z_k105 : List (Nat × List (Nat × z_E)) := [(1000000, [(0, .aload_n 0, 1, (0, 0, 0, 0), 0, 0), (1, .iload_n 1, 1, (1, 0, 0, 0), 0, 0), (2, .iload_n 2, 1, (2, 0, 0, 0), 0, 0), (3, .invokevirtual 338, 3, (125, 4, 2, 0), 0, 0), (6, .ifCond .ne 6, 3, (12, 0, 0, 0), 0, 0), (9, .bipush (-9), 2, (0, 0, 0, 0), (-9), 0), (11, .ireturn, 1, (0, 0, 0, 0), 0, 0), (12, .iload_n 2, 1, (2, 0, 0, 0), 0, 0), (13, .ifCond .ne 12, 3, (25, 0, 0, 0), 0, 0), (16, .aload_n 0, 1, (0, 0, 0, 0), 0, 0), (17, .getfield 37, 3, (5, 2, 11, 0), 0, 0), (20, .iload_n 1, 1, (1, 0, 0, 0), 0, 0), (21, .iaload, 1, (0, 0, 0, 0), 0, 0), (22, .goto 9, 3, (31, 0, 0, 0), 0, 0), (25, .aload_n 0, 1, (0, 0, 0, 0), 0, 0), (26, .getfield 41, 3, (6, 2, 11, 0), 0, 0), (29, .iload_n 1, 1, (1, 0, 0, 0), 0, 0), (30, .iaload, 1, (0, 0, 0, 0), 0, 0), (31, .ireturn, 1, (0, 0, 0, 0), 0, 0)])]
-- ShareNets.alterRow(III)I
set_option maxRecDepth 100000 in
noncomputable def z_k106 : List (Nat × List (Nat × z_E)) := [(42, [(0, .aload_n 0, 1, (0, 0, 0, 0), 0, 0), (1, .iload_n 1, 1, (1, 0, 0, 0), 0, 0), (2, .iload_n 2, 1, (2, 0, 0, 0), 0, 0), (3, .invokevirtual 338, 3, (125, 4, 2, 0), 0, 0), (6, .ifCond .ne 6, 3, (12, 0, 0, 0), 0, 0), (9, .bipush (-9), 2, (0, 0, 0, 0), (-9), 0), (11, .ireturn, 1, (0, 0, 0, 0), 0, 0), (12, .iload_n 2, 1, (2, 0, 0, 0), 0, 0), (13, .ifCond .ne 10, 3, (23, 0, 0, 0), 0, 0), (16, .aload_n 0, 1, (0, 0, 0, 0), 0, 0), (17, .getfield 37, 3, (5, 2, 11, 0), 0, 0), (20, .goto 7, 3, (27, 0, 0, 0), 0, 0), (23, .aload_n 0, 1, (0, 0, 0, 0), 0, 0), (24, .getfield 41, 3, (6, 2, 11, 0), 0, 0), (27, .astore 4, 2, (4, 0, 0, 0), 0, 0), (29, .aload 4, 2, (4, 0, 0, 0), 0, 0), (31, .iload_n 1, 1, (1, 0, 0, 0), 0, 0), (32, .iaload, 1, (0, 0, 0, 0), 0, 0), (33, .istore 5, 2, (5, 0, 0, 0), 0, 0), (35, .aload 4, 2, (4, 0, 0, 0), 0, 0), (37, .iload_n 1, 1, (1, 0, 0, 0), 0, 0), (38, .iload_n 3, 1, (3, 0, 0, 0), 0, 0), (39, .iastore, 1, (0, 0, 0, 0), 0, 0), (40, .iload 5, 2, (5, 0, 0, 0), 0, 0)]),
  (1000000, [(42, .ireturn, 1, (0, 0, 0, 0), 0, 0)])]
-- ShareNets.judge(II)I
set_option maxRecDepth 100000 in
noncomputable def z_k107 : List (Nat × List (Nat × z_E)) := [(41, [(0, .iload_n 1, 1, (1, 0, 0, 0), 0, 0), (1, .invokestatic 91, 3, (118, 0, 1, 0), 0, 0), (4, .ifCond .eq 13, 3, (17, 0, 0, 0), 0, 0), (7, .iload_n 2, 1, (2, 0, 0, 0), 0, 0), (8, .iconst 1, 1, (0, 0, 0, 0), 1, 0), (9, .if_icmp .lt 8, 3, (17, 0, 0, 0), 0, 0), (12, .iload_n 2, 1, (2, 0, 0, 0), 0, 0), (13, .iconst 4, 1, (0, 0, 0, 0), 4, 0), (14, .if_icmp .le 5, 3, (19, 0, 0, 0), 0, 0), (17, .iconst (-1), 1, (0, 0, 0, 0), (-1), 0), (18, .ireturn, 1, (0, 0, 0, 0), 0, 0), (19, .aload_n 0, 1, (0, 0, 0, 0), 0, 0), (20, .getfield 63, 3, (11, 2, 11, 0), 0, 0), (23, .aload_n 0, 1, (0, 0, 0, 0), 0, 0), (24, .getfield 10, 3, (0, 2, 11, 0), 0, 0), (27, .getfield 99, 3, (0, 2, 10, 0), 0, 0), (30, .iload_n 1, 1, (1, 0, 0, 0), 0, 0), (31, .aaload, 1, (0, 0, 0, 0), 0, 0), (32, .iload_n 2, 1, (2, 0, 0, 0), 0, 0), (33, .invokevirtual 178, 3, (42, 4, 2, 0), 0, 0), (36, .iconst 0, 1, (0, 0, 0, 0), 0, 0), (37, .istore_n 3, 1, (3, 0, 0, 0), 0, 0), (38, .iconst 0, 1, (0, 0, 0, 0), 0, 0), (39, .istore 4, 2, (4, 0, 0, 0), 0, 0)]),
  (90, [(41, .iload 4, 2, (4, 0, 0, 0), 0, 0), (43, .iload_n 2, 1, (2, 0, 0, 0), 0, 0), (44, .invokestatic 171, 3, (127, 0, 1, 0), 0, 0), (47, .if_icmp .ge 78, 3, (125, 0, 0, 0), 0, 0), (50, .aload_n 0, 1, (0, 0, 0, 0), 0, 0), (51, .getfield 63, 3, (11, 2, 11, 0), 0, 0), (54, .getfield 182, 3, (0, 2, 7, 0), 0, 0), (57, .iload 4, 2, (4, 0, 0, 0), 0, 0), (59, .iaload, 1, (0, 0, 0, 0), 0, 0), (60, .ifCond .ne 6, 3, (66, 0, 0, 0), 0, 0), (63, .goto 56, 3, (119, 0, 0, 0), 0, 0), (66, .iload_n 3, 1, (3, 0, 0, 0), 0, 0), (67, .aload_n 0, 1, (0, 0, 0, 0), 0, 0), (68, .getfield 44, 3, (7, 0, 11, 0), 0, 0), (71, .if_icmp .lt 7, 3, (78, 0, 0, 0), 0, 0), (74, .sipush 222, 3, (0, 0, 0, 0), 222, 0), (77, .ireturn, 1, (0, 0, 0, 0), 0, 0), (78, .aload_n 0, 1, (0, 0, 0, 0), 0, 0), (79, .getfield 37, 3, (5, 2, 11, 0), 0, 0), (82, .iload_n 3, 1, (3, 0, 0, 0), 0, 0), (83, .iaload, 1, (0, 0, 0, 0), 0, 0), (84, .getstatic 165, 3, (0, 0, 0, 0), 0, 0), (87, .iload 4, 2, (4, 0, 0, 0), 0, 0), (89, .iaload, 1, (0, 0, 0, 0), 0, 0)]),
  (135, [(90, .if_icmp .ne 22, 3, (112, 0, 0, 0), 0, 0), (93, .aload_n 0, 1, (0, 0, 0, 0), 0, 0), (94, .getfield 41, 3, (6, 2, 11, 0), 0, 0), (97, .iload_n 3, 1, (3, 0, 0, 0), 0, 0), (98, .iaload, 1, (0, 0, 0, 0), 0, 0), (99, .aload_n 0, 1, (0, 0, 0, 0), 0, 0), (100, .getfield 63, 3, (11, 2, 11, 0), 0, 0), (103, .getfield 182, 3, (0, 2, 7, 0), 0, 0), (106, .iload 4, 2, (4, 0, 0, 0), 0, 0), (108, .iaload, 1, (0, 0, 0, 0), 0, 0), (109, .if_icmp .eq 7, 3, (116, 0, 0, 0), 0, 0), (112, .iload_n 3, 1, (3, 0, 0, 0), 0, 0), (113, .iconst 1, 1, (0, 0, 0, 0), 1, 0), (114, .iadd, 1, (0, 0, 0, 0), 0, 0), (115, .ireturn, 1, (0, 0, 0, 0), 0, 0), (116, .iinc 3 1, 3, (3, 0, 0, 0), 1, 0), (119, .iinc 4 1, 3, (4, 0, 0, 0), 1, 0), (122, .goto (-81), 3, (41, 0, 0, 0), 0, 0), (125, .iload_n 3, 1, (3, 0, 0, 0), 0, 0), (126, .aload_n 0, 1, (0, 0, 0, 0), 0, 0), (127, .getfield 44, 3, (7, 0, 11, 0), 0, 0), (130, .if_icmp .ge 9, 3, (139, 0, 0, 0), 0, 0), (133, .iload_n 3, 1, (3, 0, 0, 0), 0, 0), (134, .iconst 1, 1, (0, 0, 0, 0), 1, 0)]),
  (1000000, [(135, .iadd, 1, (0, 0, 0, 0), 0, 0), (136, .goto 4, 3, (140, 0, 0, 0), 0, 0), (139, .iconst 0, 1, (0, 0, 0, 0), 0, 0), (140, .ireturn, 1, (0, 0, 0, 0), 0, 0)])]
-- ShareNets.sheet(III)I
set_option maxRecDepth 100000 in
noncomputable def z_k108 : List (Nat × List (Nat × z_E)) := [(44, [(0, .iload_n 1, 1, (1, 0, 0, 0), 0, 0), (1, .invokestatic 134, 3, (122, 0, 1, 0), 0, 0), (4, .ifCond .eq 21, 3, (25, 0, 0, 0), 0, 0), (7, .iload_n 2, 1, (2, 0, 0, 0), 0, 0), (8, .iconst (-1), 1, (0, 0, 0, 0), (-1), 0), (9, .if_icmp .eq 18, 3, (27, 0, 0, 0), 0, 0), (12, .iload_n 2, 1, (2, 0, 0, 0), 0, 0), (13, .invokestatic 341, 3, (123, 0, 1, 0), 0, 0), (16, .ifCond .eq 9, 3, (25, 0, 0, 0), 0, 0), (19, .iload_n 3, 1, (3, 0, 0, 0), 0, 0), (20, .bipush 40, 2, (0, 0, 0, 0), 40, 0), (22, .if_icmp .le 5, 3, (27, 0, 0, 0), 0, 0), (25, .iconst (-1), 1, (0, 0, 0, 0), (-1), 0), (26, .ireturn, 1, (0, 0, 0, 0), 0, 0), (27, .iload_n 2, 1, (2, 0, 0, 0), 0, 0), (28, .iconst (-1), 1, (0, 0, 0, 0), (-1), 0), (29, .if_icmp .eq 10, 3, (39, 0, 0, 0), 0, 0), (32, .iload_n 3, 1, (3, 0, 0, 0), 0, 0), (33, .ifCond .ge 6, 3, (39, 0, 0, 0), 0, 0), (36, .bipush (-14), 2, (0, 0, 0, 0), (-14), 0), (38, .ireturn, 1, (0, 0, 0, 0), 0, 0), (39, .aload_n 0, 1, (0, 0, 0, 0), 0, 0), (40, .getfield 50, 3, (8, 2, 11, 0), 0, 0), (43, .iload_n 1, 1, (1, 0, 0, 0), 0, 0)]),
  (1000000, [(44, .aaload, 1, (0, 0, 0, 0), 0, 0), (45, .iload_n 2, 1, (2, 0, 0, 0), 0, 0), (46, .iload_n 2, 1, (2, 0, 0, 0), 0, 0), (47, .iconst (-1), 1, (0, 0, 0, 0), (-1), 0), (48, .if_icmp .ne 7, 3, (55, 0, 0, 0), 0, 0), (51, .iconst 0, 1, (0, 0, 0, 0), 0, 0), (52, .goto 4, 3, (56, 0, 0, 0), 0, 0), (55, .iload_n 3, 1, (3, 0, 0, 0), 0, 0), (56, .invokevirtual 344, 3, (33, 4, 2, 0), 0, 0), (59, .iconst 1, 1, (0, 0, 0, 0), 1, 0), (60, .ireturn, 1, (0, 0, 0, 0), 0, 0)])]
-- ShareNets.put(III)I
set_option maxRecDepth 100000 in
noncomputable def z_k109 : List (Nat × List (Nat × z_E)) := [(45, [(0, .iload_n 1, 1, (1, 0, 0, 0), 0, 0), (1, .invokestatic 134, 3, (122, 0, 1, 0), 0, 0), (4, .ifCond .ne 5, 3, (9, 0, 0, 0), 0, 0), (7, .iconst (-1), 1, (0, 0, 0, 0), (-1), 0), (8, .ireturn, 1, (0, 0, 0, 0), 0, 0), (9, .aload_n 0, 1, (0, 0, 0, 0), 0, 0), (10, .getfield 50, 3, (8, 2, 11, 0), 0, 0), (13, .iload_n 1, 1, (1, 0, 0, 0), 0, 0), (14, .aaload, 1, (0, 0, 0, 0), 0, 0), (15, .astore 4, 2, (4, 0, 0, 0), 0, 0), (17, .aload 4, 2, (4, 0, 0, 0), 0, 0), (19, .getfield 137, 3, (1, 0, 4, 0), 0, 0), (22, .iconst (-1), 1, (0, 0, 0, 0), (-1), 0), (23, .if_icmp .ne 6, 3, (29, 0, 0, 0), 0, 0), (26, .bipush (-11), 2, (0, 0, 0, 0), (-11), 0), (28, .ireturn, 1, (0, 0, 0, 0), 0, 0), (29, .iload_n 2, 1, (2, 0, 0, 0), 0, 0), (30, .ifCond .lt 12, 3, (42, 0, 0, 0), 0, 0), (33, .iload_n 2, 1, (2, 0, 0, 0), 0, 0), (34, .aload 4, 2, (4, 0, 0, 0), 0, 0), (36, .getfield 140, 3, (2, 0, 4, 0), 0, 0), (39, .if_icmp .lt 6, 3, (45, 0, 0, 0), 0, 0), (42, .bipush (-12), 2, (0, 0, 0, 0), (-12), 0), (44, .ireturn, 1, (0, 0, 0, 0), 0, 0)]),
  (1000000, [(45, .aload 4, 2, (4, 0, 0, 0), 0, 0), (47, .getfield 143, 3, (0, 2, 4, 0), 0, 0), (50, .iload_n 2, 1, (2, 0, 0, 0), 0, 0), (51, .aload 4, 2, (4, 0, 0, 0), 0, 0), (53, .iload_n 3, 1, (3, 0, 0, 0), 0, 0), (54, .invokevirtual 346, 3, (34, 4, 1, 0), 0, 0), (57, .lastore, 1, (0, 0, 0, 0), 0, 0), (58, .iconst 1, 1, (0, 0, 0, 0), 1, 0), (59, .ireturn, 1, (0, 0, 0, 0), 0, 0)])]
-- ShareNets.item(III)I
set_option maxRecDepth 100000 in
noncomputable def z_k110 : List (Nat × List (Nat × z_E)) := [(47, [(0, .iload_n 1, 1, (1, 0, 0, 0), 0, 0), (1, .invokestatic 134, 3, (122, 0, 1, 0), 0, 0), (4, .ifCond .eq 10, 3, (14, 0, 0, 0), 0, 0), (7, .iload_n 2, 1, (2, 0, 0, 0), 0, 0), (8, .invokestatic 341, 3, (123, 0, 1, 0), 0, 0), (11, .ifCond .ne 5, 3, (16, 0, 0, 0), 0, 0), (14, .iconst (-1), 1, (0, 0, 0, 0), (-1), 0), (15, .ireturn, 1, (0, 0, 0, 0), 0, 0), (16, .aload_n 0, 1, (0, 0, 0, 0), 0, 0), (17, .getfield 50, 3, (8, 2, 11, 0), 0, 0), (20, .iload_n 1, 1, (1, 0, 0, 0), 0, 0), (21, .aaload, 1, (0, 0, 0, 0), 0, 0), (22, .astore 4, 2, (4, 0, 0, 0), 0, 0), (24, .aload 4, 2, (4, 0, 0, 0), 0, 0), (26, .getfield 137, 3, (1, 0, 4, 0), 0, 0), (29, .iconst (-1), 1, (0, 0, 0, 0), (-1), 0), (30, .if_icmp .ne 6, 3, (36, 0, 0, 0), 0, 0), (33, .bipush (-11), 2, (0, 0, 0, 0), (-11), 0), (35, .ireturn, 1, (0, 0, 0, 0), 0, 0), (36, .aload 4, 2, (4, 0, 0, 0), 0, 0), (38, .getfield 137, 3, (1, 0, 4, 0), 0, 0), (41, .iload_n 2, 1, (2, 0, 0, 0), 0, 0), (42, .if_icmp .eq 6, 3, (48, 0, 0, 0), 0, 0), (45, .bipush (-13), 2, (0, 0, 0, 0), (-13), 0)]),
  (1000000, [(47, .ireturn, 1, (0, 0, 0, 0), 0, 0), (48, .iload_n 3, 1, (3, 0, 0, 0), 0, 0), (49, .ifCond .lt 12, 3, (61, 0, 0, 0), 0, 0), (52, .iload_n 3, 1, (3, 0, 0, 0), 0, 0), (53, .aload 4, 2, (4, 0, 0, 0), 0, 0), (55, .getfield 140, 3, (2, 0, 4, 0), 0, 0), (58, .if_icmp .lt 8, 3, (66, 0, 0, 0), 0, 0), (61, .bipush (-12), 2, (0, 0, 0, 0), (-12), 0), (63, .goto 11, 3, (74, 0, 0, 0), 0, 0), (66, .aload 4, 2, (4, 0, 0, 0), 0, 0), (68, .getfield 143, 3, (0, 2, 4, 0), 0, 0), (71, .iload_n 3, 1, (3, 0, 0, 0), 0, 0), (72, .laload, 1, (0, 0, 0, 0), 0, 0), (73, .l2i, 1, (0, 0, 0, 0), 0, 0), (74, .ireturn, 1, (0, 0, 0, 0), 0, 0)])]
-- ShareNets.shelf(III)I
set_option maxRecDepth 100000 in
noncomputable def z_k111 : List (Nat × List (Nat × z_E)) := [(42, [(0, .iload_n 1, 1, (1, 0, 0, 0), 0, 0), (1, .invokestatic 349, 3, (124, 0, 1, 0), 0, 0), (4, .ifCond .ne 5, 3, (9, 0, 0, 0), 0, 0), (7, .iconst (-1), 1, (0, 0, 0, 0), (-1), 0), (8, .ireturn, 1, (0, 0, 0, 0), 0, 0), (9, .iload_n 2, 1, (2, 0, 0, 0), 0, 0), (10, .ifCond .ne 19, 3, (29, 0, 0, 0), 0, 0), (13, .aload_n 0, 1, (0, 0, 0, 0), 0, 0), (14, .iload_n 3, 1, (3, 0, 0, 0), 0, 0), (15, .invokevirtual 305, 3, (120, 4, 1, 0), 0, 0), (18, .ifCond .eq 11, 3, (29, 0, 0, 0), 0, 0), (21, .aload_n 0, 1, (0, 0, 0, 0), 0, 0), (22, .iload_n 1, 1, (1, 0, 0, 0), 0, 0), (23, .iconst 0, 1, (0, 0, 0, 0), 0, 0), (24, .iload_n 3, 1, (3, 0, 0, 0), 0, 0), (25, .invokevirtual 352, 3, (154, 4, 3, 0), 0, 0), (28, .ireturn, 1, (0, 0, 0, 0), 0, 0), (29, .iload_n 2, 1, (2, 0, 0, 0), 0, 0), (30, .iconst 1, 1, (0, 0, 0, 0), 1, 0), (31, .if_icmp .ne 50, 3, (81, 0, 0, 0), 0, 0), (34, .iload_n 3, 1, (3, 0, 0, 0), 0, 0), (35, .invokestatic 134, 3, (122, 0, 1, 0), 0, 0), (38, .ifCond .eq 43, 3, (81, 0, 0, 0), 0, 0), (41, .aload_n 0, 1, (0, 0, 0, 0), 0, 0)]),
  (87, [(42, .getfield 50, 3, (8, 2, 11, 0), 0, 0), (45, .iload_n 3, 1, (3, 0, 0, 0), 0, 0), (46, .aaload, 1, (0, 0, 0, 0), 0, 0), (47, .astore 4, 2, (4, 0, 0, 0), 0, 0), (49, .aload_n 0, 1, (0, 0, 0, 0), 0, 0), (50, .iload_n 1, 1, (1, 0, 0, 0), 0, 0), (51, .aload 4, 2, (4, 0, 0, 0), 0, 0), (53, .getfield 137, 3, (1, 0, 4, 0), 0, 0), (56, .iconst (-1), 1, (0, 0, 0, 0), (-1), 0), (57, .if_icmp .ne 7, 3, (64, 0, 0, 0), 0, 0), (60, .iconst (-1), 1, (0, 0, 0, 0), (-1), 0), (61, .goto 11, 3, (72, 0, 0, 0), 0, 0), (64, .bipush 10, 2, (0, 0, 0, 0), 10, 0), (66, .aload 4, 2, (4, 0, 0, 0), 0, 0), (68, .getfield 137, 3, (1, 0, 4, 0), 0, 0), (71, .iadd, 1, (0, 0, 0, 0), 0, 0), (72, .aload 4, 2, (4, 0, 0, 0), 0, 0), (74, .getfield 140, 3, (2, 0, 4, 0), 0, 0), (77, .invokevirtual 352, 3, (154, 4, 3, 0), 0, 0), (80, .ireturn, 1, (0, 0, 0, 0), 0, 0), (81, .iload_n 2, 1, (2, 0, 0, 0), 0, 0), (82, .iconst 2, 1, (0, 0, 0, 0), 2, 0), (83, .if_icmp .ne 13, 3, (96, 0, 0, 0), 0, 0), (86, .aload_n 0, 1, (0, 0, 0, 0), 0, 0)]),
  (1000000, [(87, .iload_n 1, 1, (1, 0, 0, 0), 0, 0), (88, .iconst (-1), 1, (0, 0, 0, 0), (-1), 0), (89, .iconst 0, 1, (0, 0, 0, 0), 0, 0), (90, .invokevirtual 352, 3, (154, 4, 3, 0), 0, 0), (93, .goto 4, 3, (97, 0, 0, 0), 0, 0), (96, .iconst (-1), 1, (0, 0, 0, 0), (-1), 0), (97, .ireturn, 1, (0, 0, 0, 0), 0, 0)])]
-- ShareNets.taken(II)I
set_option maxRecDepth 100000 in
noncomputable def z_k112 : List (Nat × List (Nat × z_E)) := [(43, [(0, .iload_n 2, 1, (2, 0, 0, 0), 0, 0), (1, .ifCond .lt 12, 3, (13, 0, 0, 0), 0, 0), (4, .iload_n 2, 1, (2, 0, 0, 0), 0, 0), (5, .iconst 3, 1, (0, 0, 0, 0), 3, 0), (6, .if_icmp .gt 7, 3, (13, 0, 0, 0), 0, 0), (9, .iconst 1, 1, (0, 0, 0, 0), 1, 0), (10, .goto 4, 3, (14, 0, 0, 0), 0, 0), (13, .iconst 0, 1, (0, 0, 0, 0), 0, 0), (14, .istore_n 3, 1, (3, 0, 0, 0), 0, 0), (15, .iload_n 1, 1, (1, 0, 0, 0), 0, 0), (16, .invokestatic 349, 3, (124, 0, 1, 0), 0, 0), (19, .ifCond .eq 17, 3, (36, 0, 0, 0), 0, 0), (22, .iload_n 3, 1, (3, 0, 0, 0), 0, 0), (23, .ifCond .ne 15, 3, (38, 0, 0, 0), 0, 0), (26, .iload_n 2, 1, (2, 0, 0, 0), 0, 0), (27, .bipush 10, 2, (0, 0, 0, 0), 10, 0), (29, .isub, 1, (0, 0, 0, 0), 0, 0), (30, .invokestatic 341, 3, (123, 0, 1, 0), 0, 0), (33, .ifCond .ne 5, 3, (38, 0, 0, 0), 0, 0), (36, .iconst (-1), 1, (0, 0, 0, 0), (-1), 0), (37, .ireturn, 1, (0, 0, 0, 0), 0, 0), (38, .aload_n 0, 1, (0, 0, 0, 0), 0, 0), (39, .getfield 54, 3, (9, 2, 11, 0), 0, 0), (42, .iload_n 1, 1, (1, 0, 0, 0), 0, 0)]),
  (86, [(43, .iaload, 1, (0, 0, 0, 0), 0, 0), (44, .bipush 10, 2, (0, 0, 0, 0), 10, 0), (46, .if_icmp .lt 25, 3, (71, 0, 0, 0), 0, 0), (49, .aload_n 0, 1, (0, 0, 0, 0), 0, 0), (50, .getfield 54, 3, (9, 2, 11, 0), 0, 0), (53, .iload_n 1, 1, (1, 0, 0, 0), 0, 0), (54, .iaload, 1, (0, 0, 0, 0), 0, 0), (55, .iload_n 2, 1, (2, 0, 0, 0), 0, 0), (56, .if_icmp .ne 12, 3, (68, 0, 0, 0), 0, 0), (59, .aload_n 0, 1, (0, 0, 0, 0), 0, 0), (60, .getfield 57, 3, (10, 2, 11, 0), 0, 0), (63, .iload_n 1, 1, (1, 0, 0, 0), 0, 0), (64, .iaload, 1, (0, 0, 0, 0), 0, 0), (65, .goto 5, 3, (70, 0, 0, 0), 0, 0), (68, .bipush (-13), 2, (0, 0, 0, 0), (-13), 0), (70, .ireturn, 1, (0, 0, 0, 0), 0, 0), (71, .aload_n 0, 1, (0, 0, 0, 0), 0, 0), (72, .iload_n 1, 1, (1, 0, 0, 0), 0, 0), (73, .invokevirtual 355, 3, (155, 4, 1, 0), 0, 0), (76, .astore 4, 2, (4, 0, 0, 0), 0, 0), (78, .aload 4, 2, (4, 0, 0, 0), 0, 0), (80, .ifnonnull 6, 3, (86, 0, 0, 0), 0, 0), (83, .bipush (-11), 2, (0, 0, 0, 0), (-11), 0), (85, .ireturn, 1, (0, 0, 0, 0), 0, 0)]),
  (1000000, [(86, .iload_n 3, 1, (3, 0, 0, 0), 0, 0), (87, .ifCond .eq 20, 3, (107, 0, 0, 0), 0, 0), (90, .aload 4, 2, (4, 0, 0, 0), 0, 0), (92, .iload_n 2, 1, (2, 0, 0, 0), 0, 0), (93, .invokestatic 359, 3, (156, 0, 2, 0), 0, 0), (96, .ifCond .eq 11, 3, (107, 0, 0, 0), 0, 0), (99, .aload 4, 2, (4, 0, 0, 0), 0, 0), (101, .getfield 363, 3, (1, 0, 3, 0), 0, 0), (104, .goto 5, 3, (109, 0, 0, 0), 0, 0), (107, .bipush (-13), 2, (0, 0, 0, 0), (-13), 0), (109, .ireturn, 1, (0, 0, 0, 0), 0, 0)])]
-- ShareNets.act(III)I
set_option maxRecDepth 100000 in
noncomputable def z_k113 : List (Nat × List (Nat × z_E)) := [(74, [(0, .aload_n 0, 1, (0, 0, 0, 0), 0, 0), (1, .getfield 33, 3, (4, 2, 11, 0), 0, 0), (4, .invokevirtual 366, 3, (60, 4, 0, 0), 0, 0), (7, .aload_n 0, 1, (0, 0, 0, 0), 0, 0), (8, .iload_n 1, 1, (1, 0, 0, 0), 0, 0), (9, .invokevirtual 355, 3, (155, 4, 1, 0), 0, 0), (12, .astore 4, 2, (4, 0, 0, 0), 0, 0), (14, .aload 4, 2, (4, 0, 0, 0), 0, 0), (16, .ifnonnull 5, 3, (21, 0, 0, 0), 0, 0), (19, .iconst 0, 1, (0, 0, 0, 0), 0, 0), (20, .ireturn, 1, (0, 0, 0, 0), 0, 0), (21, .iconst 0, 1, (0, 0, 0, 0), 0, 0), (22, .istore 5, 2, (5, 0, 0, 0), 0, 0), (24, .iload_n 2, 1, (2, 0, 0, 0), 0, 0), (25, .tableswitch 91 0 3 #[31, 46, 61, 76], 31, (0, 0, 0, 0), 0, 0), (56, .aload 4, 2, (4, 0, 0, 0), 0, 0), (58, .iload_n 3, 1, (3, 0, 0, 0), 0, 0), (59, .aload_n 0, 1, (0, 0, 0, 0), 0, 0), (60, .getfield 33, 3, (4, 2, 11, 0), 0, 0), (63, .invokevirtual 368, 3, (0, 6, 2, 0), 0, 0), (66, .istore 5, 2, (5, 0, 0, 0), 0, 0), (68, .goto 48, 3, (116, 0, 0, 0), 0, 0), (71, .aload 4, 2, (4, 0, 0, 0), 0, 0), (73, .iload_n 3, 1, (3, 0, 0, 0), 0, 0)]),
  (128, [(74, .aload_n 0, 1, (0, 0, 0, 0), 0, 0), (75, .getfield 33, 3, (4, 2, 11, 0), 0, 0), (78, .invokevirtual 371, 3, (1, 6, 2, 0), 0, 0), (81, .istore 5, 2, (5, 0, 0, 0), 0, 0), (83, .goto 33, 3, (116, 0, 0, 0), 0, 0), (86, .aload 4, 2, (4, 0, 0, 0), 0, 0), (88, .iload_n 3, 1, (3, 0, 0, 0), 0, 0), (89, .aload_n 0, 1, (0, 0, 0, 0), 0, 0), (90, .getfield 33, 3, (4, 2, 11, 0), 0, 0), (93, .invokevirtual 374, 3, (2, 6, 2, 0), 0, 0), (96, .istore 5, 2, (5, 0, 0, 0), 0, 0), (98, .goto 18, 3, (116, 0, 0, 0), 0, 0), (101, .aload 4, 2, (4, 0, 0, 0), 0, 0), (103, .iload_n 3, 1, (3, 0, 0, 0), 0, 0), (104, .aload_n 0, 1, (0, 0, 0, 0), 0, 0), (105, .getfield 33, 3, (4, 2, 11, 0), 0, 0), (108, .invokevirtual 376, 3, (3, 6, 2, 0), 0, 0), (111, .istore 5, 2, (5, 0, 0, 0), 0, 0), (113, .goto 3, 3, (116, 0, 0, 0), 0, 0), (116, .aload_n 0, 1, (0, 0, 0, 0), 0, 0), (117, .getfield 33, 3, (4, 2, 11, 0), 0, 0), (120, .getfield 379, 3, (2, 3, 9, 0), 0, 0), (123, .ifCond .eq 8, 3, (131, 0, 0, 0), 0, 0), (126, .bipush (-15), 2, (0, 0, 0, 0), (-15), 0)]),
  (1000000, [(128, .goto 5, 3, (133, 0, 0, 0), 0, 0), (131, .iload 5, 2, (5, 0, 0, 0), 0, 0), (133, .ireturn, 1, (0, 0, 0, 0), 0, 0)])]
-- ShareNets.trace(I)I
set_option maxRecDepth 100000 in
noncomputable def z_k114 : List (Nat × List (Nat × z_E)) := [(1000000, [(0, .iload_n 1, 1, (1, 0, 0, 0), 0, 0), (1, .ifCond .lt 14, 3, (15, 0, 0, 0), 0, 0), (4, .iload_n 1, 1, (1, 0, 0, 0), 0, 0), (5, .aload_n 0, 1, (0, 0, 0, 0), 0, 0), (6, .getfield 33, 3, (4, 2, 11, 0), 0, 0), (9, .getfield 382, 3, (1, 0, 9, 0), 0, 0), (12, .if_icmp .lt 8, 3, (20, 0, 0, 0), 0, 0), (15, .bipush (-3), 2, (0, 0, 0, 0), (-3), 0), (17, .goto 12, 3, (29, 0, 0, 0), 0, 0), (20, .aload_n 0, 1, (0, 0, 0, 0), 0, 0), (21, .getfield 33, 3, (4, 2, 11, 0), 0, 0), (24, .getfield 383, 3, (0, 2, 9, 0), 0, 0), (27, .iload_n 1, 1, (1, 0, 0, 0), 0, 0), (28, .iaload, 1, (0, 0, 0, 0), 0, 0), (29, .ireturn, 1, (0, 0, 0, 0), 0, 0)])]
-- ShareNets.many(I)I
set_option maxRecDepth 100000 in
noncomputable def z_k115 : List (Nat × List (Nat × z_E)) := [(84, [(0, .iload_n 1, 1, (1, 0, 0, 0), 0, 0), (1, .tableswitch 87 0 5 #[39, 50, 58, 66, 71, 79], 39, (0, 0, 0, 0), 0, 0), (40, .aload_n 0, 1, (0, 0, 0, 0), 0, 0), (41, .getfield 10, 3, (0, 2, 11, 0), 0, 0), (44, .getfield 219, 3, (2, 2, 10, 0), 0, 0), (47, .getfield 223, 3, (2, 0, 1, 0), 0, 0), (50, .ireturn, 1, (0, 0, 0, 0), 0, 0), (51, .aload_n 0, 1, (0, 0, 0, 0), 0, 0), (52, .getfield 10, 3, (0, 2, 11, 0), 0, 0), (55, .getfield 291, 3, (5, 0, 10, 0), 0, 0), (58, .ireturn, 1, (0, 0, 0, 0), 0, 0), (59, .aload_n 0, 1, (0, 0, 0, 0), 0, 0), (60, .getfield 10, 3, (0, 2, 11, 0), 0, 0), (63, .invokevirtual 202, 3, (64, 4, 0, 0), 0, 0), (66, .ireturn, 1, (0, 0, 0, 0), 0, 0), (67, .aload_n 0, 1, (0, 0, 0, 0), 0, 0), (68, .getfield 44, 3, (7, 0, 11, 0), 0, 0), (71, .ireturn, 1, (0, 0, 0, 0), 0, 0), (72, .aload_n 0, 1, (0, 0, 0, 0), 0, 0), (73, .getfield 26, 3, (3, 2, 11, 0), 0, 0), (76, .getfield 386, 3, (1, 0, 8, 0), 0, 0), (79, .ireturn, 1, (0, 0, 0, 0), 0, 0), (80, .aload_n 0, 1, (0, 0, 0, 0), 0, 0), (81, .getfield 33, 3, (4, 2, 11, 0), 0, 0)]),
  (1000000, [(84, .getfield 382, 3, (1, 0, 9, 0), 0, 0), (87, .ireturn, 1, (0, 0, 0, 0), 0, 0), (88, .iconst (-1), 1, (0, 0, 0, 0), (-1), 0), (89, .ireturn, 1, (0, 0, 0, 0), 0, 0)])]
-- ShareNets.keep()I
set_option maxRecDepth 100000 in
noncomputable def z_k116 : List (Nat × List (Nat × z_E)) := [(1000000, [(0, .aload_n 0, 1, (0, 0, 0, 0), 0, 0), (1, .getfield 16, 3, (1, 2, 11, 0), 0, 0), (4, .aload_n 0, 1, (0, 0, 0, 0), 0, 0), (5, .getfield 10, 3, (0, 2, 11, 0), 0, 0), (8, .invokevirtual 387, 3, (63, 4, 1, 0), 0, 0), (11, .aload_n 0, 1, (0, 0, 0, 0), 0, 0), (12, .iconst 1, 1, (0, 0, 0, 0), 1, 0), (13, .putfield 19, 3, (2, 3, 11, 0), 0, 0), (16, .iconst 1, 1, (0, 0, 0, 0), 1, 0), (17, .ireturn, 1, (0, 0, 0, 0), 0, 0)])]
-- ShareNets.again()I
set_option maxRecDepth 100000 in
noncomputable def z_k117 : List (Nat × List (Nat × z_E)) := [(1000000, [(0, .aload_n 0, 1, (0, 0, 0, 0), 0, 0), (1, .getfield 19, 3, (2, 3, 11, 0), 0, 0), (4, .ifCond .ne 6, 3, (10, 0, 0, 0), 0, 0), (7, .bipush (-3), 2, (0, 0, 0, 0), (-3), 0), (9, .ireturn, 1, (0, 0, 0, 0), 0, 0), (10, .aload_n 0, 1, (0, 0, 0, 0), 0, 0), (11, .getfield 10, 3, (0, 2, 11, 0), 0, 0), (14, .aload_n 0, 1, (0, 0, 0, 0), 0, 0), (15, .getfield 16, 3, (1, 2, 11, 0), 0, 0), (18, .invokevirtual 387, 3, (63, 4, 1, 0), 0, 0), (21, .iconst 1, 1, (0, 0, 0, 0), 1, 0), (22, .ireturn, 1, (0, 0, 0, 0), 0, 0)])]
-- ShareNets.isNet(I)Z
set_option maxRecDepth 100000 in
noncomputable def z_k118 : List (Nat × List (Nat × z_E)) := [(1000000, [(0, .iload_n 0, 1, (0, 0, 0, 0), 0, 0), (1, .ifCond .lt 12, 3, (13, 0, 0, 0), 0, 0), (4, .iload_n 0, 1, (0, 0, 0, 0), 0, 0), (5, .iconst 4, 1, (0, 0, 0, 0), 4, 0), (6, .if_icmp .ge 7, 3, (13, 0, 0, 0), 0, 0), (9, .iconst 1, 1, (0, 0, 0, 0), 1, 0), (10, .goto 4, 3, (14, 0, 0, 0), 0, 0), (13, .iconst 0, 1, (0, 0, 0, 0), 0, 0), (14, .ireturn, 1, (1, 0, 0, 0), 0, 0)])]
-- ShareNets.isPost(II)Z
set_option maxRecDepth 100000 in
noncomputable def z_k119 : List (Nat × List (Nat × z_E)) := [(1000000, [(0, .iload_n 1, 1, (1, 0, 0, 0), 0, 0), (1, .invokestatic 91, 3, (118, 0, 1, 0), 0, 0), (4, .ifCond .eq 27, 3, (31, 0, 0, 0), 0, 0), (7, .iload_n 2, 1, (2, 0, 0, 0), 0, 0), (8, .ifCond .lt 23, 3, (31, 0, 0, 0), 0, 0), (11, .iload_n 2, 1, (2, 0, 0, 0), 0, 0), (12, .aload_n 0, 1, (0, 0, 0, 0), 0, 0), (13, .getfield 10, 3, (0, 2, 11, 0), 0, 0), (16, .getfield 99, 3, (0, 2, 10, 0), 0, 0), (19, .iload_n 1, 1, (1, 0, 0, 0), 0, 0), (20, .aaload, 1, (0, 0, 0, 0), 0, 0), (21, .getfield 128, 3, (1, 0, 2, 0), 0, 0), (24, .if_icmp .ge 7, 3, (31, 0, 0, 0), 0, 0), (27, .iconst 1, 1, (0, 0, 0, 0), 1, 0), (28, .goto 4, 3, (32, 0, 0, 0), 0, 0), (31, .iconst 0, 1, (0, 0, 0, 0), 0, 0), (32, .ireturn, 1, (1, 0, 0, 0), 0, 0)])]
-- ShareNets.isShare(I)Z
set_option maxRecDepth 100000 in
noncomputable def z_k120 : List (Nat × List (Nat × z_E)) := [(1000000, [(0, .iload_n 1, 1, (1, 0, 0, 0), 0, 0), (1, .ifCond .lt 18, 3, (19, 0, 0, 0), 0, 0), (4, .iload_n 1, 1, (1, 0, 0, 0), 0, 0), (5, .aload_n 0, 1, (0, 0, 0, 0), 0, 0), (6, .getfield 10, 3, (0, 2, 11, 0), 0, 0), (9, .getfield 291, 3, (5, 0, 10, 0), 0, 0), (12, .if_icmp .ge 7, 3, (19, 0, 0, 0), 0, 0), (15, .iconst 1, 1, (0, 0, 0, 0), 1, 0), (16, .goto 4, 3, (20, 0, 0, 0), 0, 0), (19, .iconst 0, 1, (0, 0, 0, 0), 0, 0), (20, .ireturn, 1, (1, 0, 0, 0), 0, 0)])]
-- ShareNets.isFractionPart(I)Z
set_option maxRecDepth 100000 in
noncomputable def z_k121 : List (Nat × List (Nat × z_E)) := [(1000000, [(0, .iload_n 0, 1, (0, 0, 0, 0), 0, 0), (1, .ifCond .eq 8, 3, (9, 0, 0, 0), 0, 0), (4, .iload_n 0, 1, (0, 0, 0, 0), 0, 0), (5, .iconst 1, 1, (0, 0, 0, 0), 1, 0), (6, .if_icmp .ne 7, 3, (13, 0, 0, 0), 0, 0), (9, .iconst 1, 1, (0, 0, 0, 0), 1, 0), (10, .goto 4, 3, (14, 0, 0, 0), 0, 0), (13, .iconst 0, 1, (0, 0, 0, 0), 0, 0), (14, .ireturn, 1, (1, 0, 0, 0), 0, 0)])]
-- ShareNets.isSheet(I)Z
set_option maxRecDepth 100000 in
noncomputable def z_k122 : List (Nat × List (Nat × z_E)) := [(1000000, [(0, .iload_n 0, 1, (0, 0, 0, 0), 0, 0), (1, .ifCond .lt 12, 3, (13, 0, 0, 0), 0, 0), (4, .iload_n 0, 1, (0, 0, 0, 0), 0, 0), (5, .iconst 4, 1, (0, 0, 0, 0), 4, 0), (6, .if_icmp .ge 7, 3, (13, 0, 0, 0), 0, 0), (9, .iconst 1, 1, (0, 0, 0, 0), 1, 0), (10, .goto 4, 3, (14, 0, 0, 0), 0, 0), (13, .iconst 0, 1, (0, 0, 0, 0), 0, 0), (14, .ireturn, 1, (1, 0, 0, 0), 0, 0)])]
-- ShareNets.isSort(I)Z
set_option maxRecDepth 100000 in
noncomputable def z_k123 : List (Nat × List (Nat × z_E)) := [(1000000, [(0, .iload_n 0, 1, (0, 0, 0, 0), 0, 0), (1, .ifCond .lt 12, 3, (13, 0, 0, 0), 0, 0), (4, .iload_n 0, 1, (0, 0, 0, 0), 0, 0), (5, .iconst 3, 1, (0, 0, 0, 0), 3, 0), (6, .if_icmp .gt 7, 3, (13, 0, 0, 0), 0, 0), (9, .iconst 1, 1, (0, 0, 0, 0), 1, 0), (10, .goto 4, 3, (14, 0, 0, 0), 0, 0), (13, .iconst 0, 1, (0, 0, 0, 0), 0, 0), (14, .ireturn, 1, (1, 0, 0, 0), 0, 0)])]
-- ShareNets.isShelf(I)Z
set_option maxRecDepth 100000 in
noncomputable def z_k124 : List (Nat × List (Nat × z_E)) := [(1000000, [(0, .iload_n 0, 1, (0, 0, 0, 0), 0, 0), (1, .ifCond .lt 12, 3, (13, 0, 0, 0), 0, 0), (4, .iload_n 0, 1, (0, 0, 0, 0), 0, 0), (5, .iconst 4, 1, (0, 0, 0, 0), 4, 0), (6, .if_icmp .ge 7, 3, (13, 0, 0, 0), 0, 0), (9, .iconst 1, 1, (0, 0, 0, 0), 1, 0), (10, .goto 4, 3, (14, 0, 0, 0), 0, 0), (13, .iconst 0, 1, (0, 0, 0, 0), 0, 0), (14, .ireturn, 1, (1, 0, 0, 0), 0, 0)])]
-- ShareNets.isInRow(II)Z
set_option maxRecDepth 100000 in
noncomputable def z_k125 : List (Nat × List (Nat × z_E)) := [(1000000, [(0, .iload_n 1, 1, (1, 0, 0, 0), 0, 0), (1, .ifCond .lt 24, 3, (25, 0, 0, 0), 0, 0), (4, .iload_n 1, 1, (1, 0, 0, 0), 0, 0), (5, .aload_n 0, 1, (0, 0, 0, 0), 0, 0), (6, .getfield 44, 3, (7, 0, 11, 0), 0, 0), (9, .if_icmp .ge 16, 3, (25, 0, 0, 0), 0, 0), (12, .iload_n 2, 1, (2, 0, 0, 0), 0, 0), (13, .ifCond .eq 8, 3, (21, 0, 0, 0), 0, 0), (16, .iload_n 2, 1, (2, 0, 0, 0), 0, 0), (17, .iconst 1, 1, (0, 0, 0, 0), 1, 0), (18, .if_icmp .ne 7, 3, (25, 0, 0, 0), 0, 0), (21, .iconst 1, 1, (0, 0, 0, 0), 1, 0), (22, .goto 4, 3, (26, 0, 0, 0), 0, 0), (25, .iconst 0, 1, (0, 0, 0, 0), 0, 0), (26, .ireturn, 1, (1, 0, 0, 0), 0, 0)])]
-- ShareNets.pairsOf(I)I
set_option maxRecDepth 100000 in
noncomputable def z_k126 : List (Nat × List (Nat × z_E)) := [(1000000, [(0, .iload_n 0, 1, (0, 0, 0, 0), 0, 0), (1, .iload_n 0, 1, (0, 0, 0, 0), 0, 0), (2, .iconst 1, 1, (0, 0, 0, 0), 1, 0), (3, .isub, 1, (0, 0, 0, 0), 0, 0), (4, .imul, 1, (0, 0, 0, 0), 0, 0), (5, .iconst 2, 1, (0, 0, 0, 0), 2, 0), (6, .idiv, 1, (0, 0, 0, 0), 0, 0), (7, .ireturn, 1, (0, 0, 0, 0), 0, 0)])]
-- ShareNets.formsOf(I)I
set_option maxRecDepth 100000 in
noncomputable def z_k127 : List (Nat × List (Nat × z_E)) := [(1000000, [(0, .iload_n 0, 1, (0, 0, 0, 0), 0, 0), (1, .tableswitch 40 1 4 #[31, 33, 35, 37], 31, (0, 0, 0, 0), 0, 0), (32, .iconst 1, 1, (0, 0, 0, 0), 1, 0), (33, .ireturn, 1, (0, 0, 0, 0), 0, 0), (34, .iconst 2, 1, (0, 0, 0, 0), 2, 0), (35, .ireturn, 1, (0, 0, 0, 0), 0, 0), (36, .iconst 4, 1, (0, 0, 0, 0), 4, 0), (37, .ireturn, 1, (0, 0, 0, 0), 0, 0), (38, .bipush 11, 2, (0, 0, 0, 0), 11, 0), (40, .ireturn, 1, (0, 0, 0, 0), 0, 0), (41, .iconst 0, 1, (0, 0, 0, 0), 0, 0), (42, .ireturn, 1, (0, 0, 0, 0), 0, 0)])]
-- ShareNets.indexOfForm(II)I
set_option maxRecDepth 100000 in
noncomputable def z_k128 : List (Nat × List (Nat × z_E)) := [(1000000, [(0, .iconst 0, 1, (0, 0, 0, 0), 0, 0), (1, .istore_n 2, 1, (2, 0, 0, 0), 0, 0), (2, .iload_n 2, 1, (2, 0, 0, 0), 0, 0), (3, .iload_n 0, 1, (0, 0, 0, 0), 0, 0), (4, .invokestatic 171, 3, (127, 0, 1, 0), 0, 0), (7, .if_icmp .ge 20, 3, (27, 0, 0, 0), 0, 0), (10, .getstatic 165, 3, (0, 0, 0, 0), 0, 0), (13, .iload_n 2, 1, (2, 0, 0, 0), 0, 0), (14, .iaload, 1, (0, 0, 0, 0), 0, 0), (15, .iload_n 1, 1, (1, 0, 0, 0), 0, 0), (16, .if_icmp .ne 5, 3, (21, 0, 0, 0), 0, 0), (19, .iload_n 2, 1, (2, 0, 0, 0), 0, 0), (20, .ireturn, 1, (0, 0, 0, 0), 0, 0), (21, .iinc 2 1, 3, (2, 0, 0, 0), 1, 0), (24, .goto (-22), 3, (2, 0, 0, 0), 0, 0), (27, .iconst (-1), 1, (0, 0, 0, 0), (-1), 0), (28, .ireturn, 1, (0, 0, 0, 0), 0, 0)])]
-- ShareNets.isBoundForm(II)Z
set_option maxRecDepth 100000 in
noncomputable def z_k129 : List (Nat × List (Nat × z_E)) := [(1000000, [(0, .iload_n 0, 1, (0, 0, 0, 0), 0, 0), (1, .iconst 2, 1, (0, 0, 0, 0), 2, 0), (2, .if_icmp .eq 8, 3, (10, 0, 0, 0), 0, 0), (5, .iload_n 0, 1, (0, 0, 0, 0), 0, 0), (6, .iconst 3, 1, (0, 0, 0, 0), 3, 0), (7, .if_icmp .ne 15, 3, (22, 0, 0, 0), 0, 0), (10, .iload_n 0, 1, (0, 0, 0, 0), 0, 0), (11, .iload_n 1, 1, (1, 0, 0, 0), 0, 0), (12, .invokestatic 174, 3, (128, 0, 2, 0), 0, 0), (15, .ifCond .lt 7, 3, (22, 0, 0, 0), 0, 0), (18, .iconst 1, 1, (0, 0, 0, 0), 1, 0), (19, .goto 4, 3, (23, 0, 0, 0), 0, 0), (22, .iconst 0, 1, (0, 0, 0, 0), 0, 0), (23, .ireturn, 1, (1, 0, 0, 0), 0, 0)])]
-- ShareNets.setsOf(II)I
set_option maxRecDepth 100000 in
noncomputable def z_k130 : List (Nat × List (Nat × z_E)) := [(1000000, [(0, .iconst 1, 1, (0, 0, 0, 0), 1, 0), (1, .istore_n 2, 1, (2, 0, 0, 0), 0, 0), (2, .iconst 0, 1, (0, 0, 0, 0), 0, 0), (3, .istore_n 3, 1, (3, 0, 0, 0), 0, 0), (4, .iload_n 3, 1, (3, 0, 0, 0), 0, 0), (5, .iload_n 1, 1, (1, 0, 0, 0), 0, 0), (6, .if_icmp .ge 19, 3, (25, 0, 0, 0), 0, 0), (9, .iload_n 2, 1, (2, 0, 0, 0), 0, 0), (10, .iload_n 0, 1, (0, 0, 0, 0), 0, 0), (11, .iload_n 3, 1, (3, 0, 0, 0), 0, 0), (12, .isub, 1, (0, 0, 0, 0), 0, 0), (13, .imul, 1, (0, 0, 0, 0), 0, 0), (14, .iload_n 3, 1, (3, 0, 0, 0), 0, 0), (15, .iconst 1, 1, (0, 0, 0, 0), 1, 0), (16, .iadd, 1, (0, 0, 0, 0), 0, 0), (17, .idiv, 1, (0, 0, 0, 0), 0, 0), (18, .istore_n 2, 1, (2, 0, 0, 0), 0, 0), (19, .iinc 3 1, 3, (3, 0, 0, 0), 1, 0), (22, .goto (-18), 3, (4, 0, 0, 0), 0, 0), (25, .iload_n 2, 1, (2, 0, 0, 0), 0, 0), (26, .ireturn, 1, (0, 0, 0, 0), 0, 0)])]
-- ShareNets.partOfFraction(JJI)J
set_option maxRecDepth 100000 in
noncomputable def z_k131 : List (Nat × List (Nat × z_E)) := [(1000000, [(0, .lload_n 0, 1, (0, 0, 0, 0), 0, 0), (1, .invokestatic 390, 3, (276, 0, 1, 0), 0, 0), (4, .lload_n 2, 1, (2, 0, 0, 0), 0, 0), (5, .invokestatic 396, 3, (132, 0, 2, 0), 0, 0), (8, .lstore 5, 2, (5, 0, 0, 0), 0, 0), (10, .lload 5, 2, (5, 0, 0, 0), 0, 0), (12, .lconst 0, 1, (0, 0, 0, 0), 0, 0), (13, .lcmp, 1, (0, 0, 0, 0), 0, 0), (14, .ifCond .gt 7, 3, (21, 0, 0, 0), 0, 0), (17, .ldc2_w 319, 3, (0, 0, 0, 0), 0, (-1000000000000)), (20, .lreturn, 1, (0, 0, 0, 0), 0, 0), (21, .iload 4, 2, (4, 0, 0, 0), 0, 0), (23, .ifCond .ne 10, 3, (33, 0, 0, 0), 0, 0), (26, .lload_n 0, 1, (0, 0, 0, 0), 0, 0), (27, .lload 5, 2, (5, 0, 0, 0), 0, 0), (29, .ldiv, 1, (0, 0, 0, 0), 0, 0), (30, .goto 7, 3, (37, 0, 0, 0), 0, 0), (33, .lload_n 2, 1, (2, 0, 0, 0), 0, 0), (34, .lload 5, 2, (5, 0, 0, 0), 0, 0), (36, .ldiv, 1, (0, 0, 0, 0), 0, 0), (37, .lreturn, 1, (0, 0, 0, 0), 0, 0)])]
-- ShareNets.commonDivisor(JJ)J
set_option maxRecDepth 100000 in
noncomputable def z_k132 : List (Nat × List (Nat × z_E)) := [(47, [(0, .lload_n 0, 1, (0, 0, 0, 0), 0, 0), (1, .lstore 4, 2, (4, 0, 0, 0), 0, 0), (3, .lload_n 2, 1, (2, 0, 0, 0), 0, 0), (4, .lstore 6, 2, (6, 0, 0, 0), 0, 0), (6, .iconst 0, 1, (0, 0, 0, 0), 0, 0), (7, .istore 8, 2, (8, 0, 0, 0), 0, 0), (9, .iload 8, 2, (8, 0, 0, 0), 0, 0), (11, .sipush 200, 3, (0, 0, 0, 0), 200, 0), (14, .if_icmp .ge 31, 3, (45, 0, 0, 0), 0, 0), (17, .lload 6, 2, (6, 0, 0, 0), 0, 0), (19, .lconst 0, 1, (0, 0, 0, 0), 0, 0), (20, .lcmp, 1, (0, 0, 0, 0), 0, 0), (21, .ifCond .eq 24, 3, (45, 0, 0, 0), 0, 0), (24, .lload 4, 2, (4, 0, 0, 0), 0, 0), (26, .lload 6, 2, (6, 0, 0, 0), 0, 0), (28, .lrem, 1, (0, 0, 0, 0), 0, 0), (29, .lstore 9, 2, (9, 0, 0, 0), 0, 0), (31, .lload 6, 2, (6, 0, 0, 0), 0, 0), (33, .lstore 4, 2, (4, 0, 0, 0), 0, 0), (35, .lload 9, 2, (9, 0, 0, 0), 0, 0), (37, .lstore 6, 2, (6, 0, 0, 0), 0, 0), (39, .iinc 8 1, 3, (8, 0, 0, 0), 1, 0), (42, .goto (-33), 3, (9, 0, 0, 0), 0, 0), (45, .lload 4, 2, (4, 0, 0, 0), 0, 0)]),
  (1000000, [(47, .lreturn, 1, (0, 0, 0, 0), 0, 0)])]
-- ShareNets.bitAtPlace(II)I
set_option maxRecDepth 100000 in
noncomputable def z_k133 : List (Nat × List (Nat × z_E)) := [(1000000, [(0, .iconst 0, 1, (0, 0, 0, 0), 0, 0), (1, .istore_n 2, 1, (2, 0, 0, 0), 0, 0), (2, .iconst 0, 1, (0, 0, 0, 0), 0, 0), (3, .istore_n 3, 1, (3, 0, 0, 0), 0, 0), (4, .iload_n 3, 1, (3, 0, 0, 0), 0, 0), (5, .bipush 10, 2, (0, 0, 0, 0), 10, 0), (7, .if_icmp .ge 27, 3, (34, 0, 0, 0), 0, 0), (10, .iload_n 0, 1, (0, 0, 0, 0), 0, 0), (11, .iload_n 3, 1, (3, 0, 0, 0), 0, 0), (12, .ishr, 1, (0, 0, 0, 0), 0, 0), (13, .iconst 1, 1, (0, 0, 0, 0), 1, 0), (14, .iand, 1, (0, 0, 0, 0), 0, 0), (15, .ifCond .eq 13, 3, (28, 0, 0, 0), 0, 0), (18, .iload_n 2, 1, (2, 0, 0, 0), 0, 0), (19, .iload_n 1, 1, (1, 0, 0, 0), 0, 0), (20, .if_icmp .ne 5, 3, (25, 0, 0, 0), 0, 0), (23, .iload_n 3, 1, (3, 0, 0, 0), 0, 0), (24, .ireturn, 1, (0, 0, 0, 0), 0, 0), (25, .iinc 2 1, 3, (2, 0, 0, 0), 1, 0), (28, .iinc 3 1, 3, (3, 0, 0, 0), 1, 0), (31, .goto (-27), 3, (4, 0, 0, 0), 0, 0), (34, .iconst 0, 1, (0, 0, 0, 0), 0, 0), (35, .ireturn, 1, (0, 0, 0, 0), 0, 0)])]
-- ShareNets.orderPosts(LShareNets$Net;)V
set_option maxRecDepth 100000 in
noncomputable def z_k134 : List (Nat × List (Nat × z_E)) := [(42, [(0, .iconst 2, 1, (0, 0, 0, 0), 2, 0), (1, .aload_n 1, 1, (1, 0, 0, 0), 0, 0), (2, .invokevirtual 110, 3, (26, 4, 0, 0), 0, 0), (5, .imul, 1, (0, 0, 0, 0), 0, 0), (6, .aload_n 1, 1, (1, 0, 0, 0), 0, 0), (7, .getfield 128, 3, (1, 0, 2, 0), 0, 0), (10, .invokestatic 161, 3, (126, 0, 1, 0), 0, 0), (13, .if_icmp .le 7, 3, (20, 0, 0, 0), 0, 0), (16, .iconst 1, 1, (0, 0, 0, 0), 1, 0), (17, .goto 4, 3, (21, 0, 0, 0), 0, 0), (20, .iconst 0, 1, (0, 0, 0, 0), 0, 0), (21, .istore_n 2, 1, (2, 0, 0, 0), 0, 0), (22, .iconst 0, 1, (0, 0, 0, 0), 0, 0), (23, .istore_n 3, 1, (3, 0, 0, 0), 0, 0), (24, .iconst 0, 1, (0, 0, 0, 0), 0, 0), (25, .istore 4, 2, (4, 0, 0, 0), 0, 0), (27, .iload 4, 2, (4, 0, 0, 0), 0, 0), (29, .aload_n 1, 1, (1, 0, 0, 0), 0, 0), (30, .getfield 128, 3, (1, 0, 2, 0), 0, 0), (33, .if_icmp .ge 103, 3, (136, 0, 0, 0), 0, 0), (36, .iconst 0, 1, (0, 0, 0, 0), 0, 0), (37, .istore 5, 2, (5, 0, 0, 0), 0, 0), (39, .iconst (-1), 1, (0, 0, 0, 0), (-1), 0), (40, .istore 6, 2, (6, 0, 0, 0), 0, 0)]),
  (85, [(42, .iconst 0, 1, (0, 0, 0, 0), 0, 0), (43, .istore 7, 2, (7, 0, 0, 0), 0, 0), (45, .iload 7, 2, (7, 0, 0, 0), 0, 0), (47, .aload_n 1, 1, (1, 0, 0, 0), 0, 0), (48, .getfield 128, 3, (1, 0, 2, 0), 0, 0), (51, .if_icmp .ge 63, 3, (114, 0, 0, 0), 0, 0), (54, .iload_n 2, 1, (2, 0, 0, 0), 0, 0), (55, .ifCond .eq 15, 3, (70, 0, 0, 0), 0, 0), (58, .aload_n 1, 1, (1, 0, 0, 0), 0, 0), (59, .getfield 131, 3, (0, 2, 2, 0), 0, 0), (62, .iload 7, 2, (7, 0, 0, 0), 0, 0), (64, .iaload, 1, (0, 0, 0, 0), 0, 0), (65, .iconst (-1), 1, (0, 0, 0, 0), (-1), 0), (66, .ixor, 1, (0, 0, 0, 0), 0, 0), (67, .goto 10, 3, (77, 0, 0, 0), 0, 0), (70, .aload_n 1, 1, (1, 0, 0, 0), 0, 0), (71, .getfield 131, 3, (0, 2, 2, 0), 0, 0), (74, .iload 7, 2, (7, 0, 0, 0), 0, 0), (76, .iaload, 1, (0, 0, 0, 0), 0, 0), (77, .iload_n 3, 1, (3, 0, 0, 0), 0, 0), (78, .iand, 1, (0, 0, 0, 0), 0, 0), (79, .invokestatic 400, 3, (275, 0, 1, 0), 0, 0), (82, .istore 8, 2, (8, 0, 0, 0), 0, 0), (84, .iload_n 3, 1, (3, 0, 0, 0), 0, 0)]),
  (129, [(85, .iload 7, 2, (7, 0, 0, 0), 0, 0), (87, .ishr, 1, (0, 0, 0, 0), 0, 0), (88, .iconst 1, 1, (0, 0, 0, 0), 1, 0), (89, .iand, 1, (0, 0, 0, 0), 0, 0), (90, .ifCond .ne 18, 3, (108, 0, 0, 0), 0, 0), (93, .iload 8, 2, (8, 0, 0, 0), 0, 0), (95, .iload 6, 2, (6, 0, 0, 0), 0, 0), (97, .if_icmp .le 11, 3, (108, 0, 0, 0), 0, 0), (100, .iload 7, 2, (7, 0, 0, 0), 0, 0), (102, .istore 5, 2, (5, 0, 0, 0), 0, 0), (104, .iload 8, 2, (8, 0, 0, 0), 0, 0), (106, .istore 6, 2, (6, 0, 0, 0), 0, 0), (108, .iinc 7 1, 3, (7, 0, 0, 0), 1, 0), (111, .goto (-66), 3, (45, 0, 0, 0), 0, 0), (114, .aload_n 0, 1, (0, 0, 0, 0), 0, 0), (115, .getfield 80, 3, (15, 2, 11, 0), 0, 0), (118, .iload 4, 2, (4, 0, 0, 0), 0, 0), (120, .iload 5, 2, (5, 0, 0, 0), 0, 0), (122, .iastore, 1, (0, 0, 0, 0), 0, 0), (123, .iload_n 3, 1, (3, 0, 0, 0), 0, 0), (124, .iconst 1, 1, (0, 0, 0, 0), 1, 0), (125, .iload 5, 2, (5, 0, 0, 0), 0, 0), (127, .ishl, 1, (0, 0, 0, 0), 0, 0), (128, .ior, 1, (0, 0, 0, 0), 0, 0)]),
  (1000000, [(129, .istore_n 3, 1, (3, 0, 0, 0), 0, 0), (130, .iinc 4 1, 3, (4, 0, 0, 0), 1, 0), (133, .goto (-106), 3, (27, 0, 0, 0), 0, 0), (136, .return_, 1, (0, 0, 0, 0), 0, 0)])]
-- ShareNets.canMatch(LShareNets$Net;LShareNets$Net;II)Z
set_option maxRecDepth 100000 in
noncomputable def z_k135 : List (Nat × List (Nat × z_E)) := [(41, [(0, .iload_n 3, 1, (3, 0, 0, 0), 0, 0), (1, .aload_n 1, 1, (1, 0, 0, 0), 0, 0), (2, .getfield 128, 3, (1, 0, 2, 0), 0, 0), (5, .if_icmp .ge 9, 3, (14, 0, 0, 0), 0, 0), (8, .iload_n 3, 1, (3, 0, 0, 0), 0, 0), (9, .bipush 10, 2, (0, 0, 0, 0), 10, 0), (11, .if_icmp .lt 5, 3, (16, 0, 0, 0), 0, 0), (14, .iconst 1, 1, (0, 0, 0, 0), 1, 0), (15, .ireturn, 1, (1, 0, 0, 0), 0, 0), (16, .aload_n 1, 1, (1, 0, 0, 0), 0, 0), (17, .getfield 131, 3, (0, 2, 2, 0), 0, 0), (20, .aload_n 0, 1, (0, 0, 0, 0), 0, 0), (21, .getfield 80, 3, (15, 2, 11, 0), 0, 0), (24, .iload_n 3, 1, (3, 0, 0, 0), 0, 0), (25, .iaload, 1, (0, 0, 0, 0), 0, 0), (26, .iaload, 1, (0, 0, 0, 0), 0, 0), (27, .istore 5, 2, (5, 0, 0, 0), 0, 0), (29, .aload_n 0, 1, (0, 0, 0, 0), 0, 0), (30, .iload 5, 2, (5, 0, 0, 0), 0, 0), (32, .iload_n 3, 1, (3, 0, 0, 0), 0, 0), (33, .invokevirtual 405, 3, (136, 4, 2, 0), 0, 0), (36, .istore 6, 2, (6, 0, 0, 0), 0, 0), (38, .iconst 0, 1, (0, 0, 0, 0), 0, 0), (39, .istore 7, 2, (7, 0, 0, 0), 0, 0)]),
  (87, [(41, .iload 7, 2, (7, 0, 0, 0), 0, 0), (43, .aload_n 2, 1, (2, 0, 0, 0), 0, 0), (44, .getfield 128, 3, (1, 0, 2, 0), 0, 0), (47, .if_icmp .ge 81, 3, (128, 0, 0, 0), 0, 0), (50, .iload 4, 2, (4, 0, 0, 0), 0, 0), (52, .iload 7, 2, (7, 0, 0, 0), 0, 0), (54, .ishr, 1, (0, 0, 0, 0), 0, 0), (55, .iconst 1, 1, (0, 0, 0, 0), 1, 0), (56, .iand, 1, (0, 0, 0, 0), 0, 0), (57, .ifCond .ne 65, 3, (122, 0, 0, 0), 0, 0), (60, .aload_n 2, 1, (2, 0, 0, 0), 0, 0), (61, .getfield 131, 3, (0, 2, 2, 0), 0, 0), (64, .iload 7, 2, (7, 0, 0, 0), 0, 0), (66, .iaload, 1, (0, 0, 0, 0), 0, 0), (67, .iload 4, 2, (4, 0, 0, 0), 0, 0), (69, .iand, 1, (0, 0, 0, 0), 0, 0), (70, .iload 6, 2, (6, 0, 0, 0), 0, 0), (72, .if_icmp .ne 50, 3, (122, 0, 0, 0), 0, 0), (75, .aload_n 2, 1, (2, 0, 0, 0), 0, 0), (76, .getfield 131, 3, (0, 2, 2, 0), 0, 0), (79, .iload 7, 2, (7, 0, 0, 0), 0, 0), (81, .iaload, 1, (0, 0, 0, 0), 0, 0), (82, .invokestatic 400, 3, (275, 0, 1, 0), 0, 0), (85, .iload 5, 2, (5, 0, 0, 0), 0, 0)]),
  (128, [(87, .invokestatic 400, 3, (275, 0, 1, 0), 0, 0), (90, .if_icmp .ne 32, 3, (122, 0, 0, 0), 0, 0), (93, .aload_n 0, 1, (0, 0, 0, 0), 0, 0), (94, .getfield 83, 3, (16, 2, 11, 0), 0, 0), (97, .iload_n 3, 1, (3, 0, 0, 0), 0, 0), (98, .iload 7, 2, (7, 0, 0, 0), 0, 0), (100, .iastore, 1, (0, 0, 0, 0), 0, 0), (101, .aload_n 0, 1, (0, 0, 0, 0), 0, 0), (102, .aload_n 1, 1, (1, 0, 0, 0), 0, 0), (103, .aload_n 2, 1, (2, 0, 0, 0), 0, 0), (104, .iload_n 3, 1, (3, 0, 0, 0), 0, 0), (105, .iconst 1, 1, (0, 0, 0, 0), 1, 0), (106, .iadd, 1, (0, 0, 0, 0), 0, 0), (107, .iload 4, 2, (4, 0, 0, 0), 0, 0), (109, .iconst 1, 1, (0, 0, 0, 0), 1, 0), (110, .iload 7, 2, (7, 0, 0, 0), 0, 0), (112, .ishl, 1, (0, 0, 0, 0), 0, 0), (113, .ior, 1, (0, 0, 0, 0), 0, 0), (114, .invokevirtual 157, 3, (135, 4, 4, 0), 0, 0), (117, .ifCond .eq 5, 3, (122, 0, 0, 0), 0, 0), (120, .iconst 1, 1, (0, 0, 0, 0), 1, 0), (121, .ireturn, 1, (1, 0, 0, 0), 0, 0), (122, .iinc 7 1, 3, (7, 0, 0, 0), 1, 0), (125, .goto (-84), 3, (41, 0, 0, 0), 0, 0)]),
  (1000000, [(128, .iconst 0, 1, (0, 0, 0, 0), 0, 0), (129, .ireturn, 1, (1, 0, 0, 0), 0, 0)])]
-- ShareNets.imageOfRoads(II)I
set_option maxRecDepth 100000 in
noncomputable def z_k136 : List (Nat × List (Nat × z_E)) := [(36, [(0, .iconst 0, 1, (0, 0, 0, 0), 0, 0), (1, .istore_n 3, 1, (3, 0, 0, 0), 0, 0), (2, .iconst 0, 1, (0, 0, 0, 0), 0, 0), (3, .istore 4, 2, (4, 0, 0, 0), 0, 0), (5, .iload 4, 2, (4, 0, 0, 0), 0, 0), (7, .iload_n 2, 1, (2, 0, 0, 0), 0, 0), (8, .if_icmp .ge 35, 3, (43, 0, 0, 0), 0, 0), (11, .iload_n 1, 1, (1, 0, 0, 0), 0, 0), (12, .aload_n 0, 1, (0, 0, 0, 0), 0, 0), (13, .getfield 80, 3, (15, 2, 11, 0), 0, 0), (16, .iload 4, 2, (4, 0, 0, 0), 0, 0), (18, .iaload, 1, (0, 0, 0, 0), 0, 0), (19, .ishr, 1, (0, 0, 0, 0), 0, 0), (20, .iconst 1, 1, (0, 0, 0, 0), 1, 0), (21, .iand, 1, (0, 0, 0, 0), 0, 0), (22, .ifCond .eq 15, 3, (37, 0, 0, 0), 0, 0), (25, .iload_n 3, 1, (3, 0, 0, 0), 0, 0), (26, .iconst 1, 1, (0, 0, 0, 0), 1, 0), (27, .aload_n 0, 1, (0, 0, 0, 0), 0, 0), (28, .getfield 83, 3, (16, 2, 11, 0), 0, 0), (31, .iload 4, 2, (4, 0, 0, 0), 0, 0), (33, .iaload, 1, (0, 0, 0, 0), 0, 0), (34, .ishl, 1, (0, 0, 0, 0), 0, 0), (35, .ior, 1, (0, 0, 0, 0), 0, 0)]),
  (1000000, [(36, .istore_n 3, 1, (3, 0, 0, 0), 0, 0), (37, .iinc 4 1, 3, (4, 0, 0, 0), 1, 0), (40, .goto (-35), 3, (5, 0, 0, 0), 0, 0), (43, .iload_n 3, 1, (3, 0, 0, 0), 0, 0), (44, .ireturn, 1, (0, 0, 0, 0), 0, 0)])]
-- ShareNets.isFreeNet(LShareNets$Net;)Z
set_option maxRecDepth 100000 in
noncomputable def z_k137 : List (Nat × List (Nat × z_E)) := [(44, [(0, .iconst 2, 1, (0, 0, 0, 0), 2, 0), (1, .istore_n 2, 1, (2, 0, 0, 0), 0, 0), (2, .iload_n 2, 1, (2, 0, 0, 0), 0, 0), (3, .iconst 4, 1, (0, 0, 0, 0), 4, 0), (4, .if_icmp .gt 40, 3, (44, 0, 0, 0), 0, 0), (7, .aload_n 0, 1, (0, 0, 0, 0), 0, 0), (8, .getfield 10, 3, (0, 2, 11, 0), 0, 0), (11, .getfield 199, 3, (1, 2, 10, 0), 0, 0), (14, .iload_n 2, 1, (2, 0, 0, 0), 0, 0), (15, .iaload, 1, (0, 0, 0, 0), 0, 0), (16, .ifCond .eq 22, 3, (38, 0, 0, 0), 0, 0), (19, .aload_n 0, 1, (0, 0, 0, 0), 0, 0), (20, .getfield 67, 3, (12, 2, 11, 0), 0, 0), (23, .aload_n 1, 1, (1, 0, 0, 0), 0, 0), (24, .iload_n 2, 1, (2, 0, 0, 0), 0, 0), (25, .invokevirtual 178, 3, (42, 4, 2, 0), 0, 0), (28, .aload_n 0, 1, (0, 0, 0, 0), 0, 0), (29, .iload_n 2, 1, (2, 0, 0, 0), 0, 0), (30, .invokevirtual 408, 3, (138, 4, 1, 0), 0, 0), (33, .ifCond .eq 5, 3, (38, 0, 0, 0), 0, 0), (36, .iconst 0, 1, (0, 0, 0, 0), 0, 0), (37, .ireturn, 1, (1, 0, 0, 0), 0, 0), (38, .iinc 2 1, 3, (2, 0, 0, 0), 1, 0), (41, .goto (-39), 3, (2, 0, 0, 0), 0, 0)]),
  (1000000, [(44, .iconst 1, 1, (0, 0, 0, 0), 1, 0), (45, .ireturn, 1, (1, 0, 0, 0), 0, 0)])]
-- ShareNets.holdsOut(I)Z
set_option maxRecDepth 100000 in
noncomputable def z_k138 : List (Nat × List (Nat × z_E)) := [(40, [(0, .iconst 0, 1, (0, 0, 0, 0), 0, 0), (1, .istore_n 2, 1, (2, 0, 0, 0), 0, 0), (2, .iload_n 2, 1, (2, 0, 0, 0), 0, 0), (3, .iload_n 1, 1, (1, 0, 0, 0), 0, 0), (4, .invokestatic 171, 3, (127, 0, 1, 0), 0, 0), (7, .if_icmp .ge 39, 3, (46, 0, 0, 0), 0, 0), (10, .aload_n 0, 1, (0, 0, 0, 0), 0, 0), (11, .getfield 10, 3, (0, 2, 11, 0), 0, 0), (14, .getfield 199, 3, (1, 2, 10, 0), 0, 0), (17, .iload_n 1, 1, (1, 0, 0, 0), 0, 0), (18, .iaload, 1, (0, 0, 0, 0), 0, 0), (19, .iload_n 2, 1, (2, 0, 0, 0), 0, 0), (20, .ishr, 1, (0, 0, 0, 0), 0, 0), (21, .iconst 1, 1, (0, 0, 0, 0), 1, 0), (22, .iand, 1, (0, 0, 0, 0), 0, 0), (23, .ifCond .eq 17, 3, (40, 0, 0, 0), 0, 0), (26, .aload_n 0, 1, (0, 0, 0, 0), 0, 0), (27, .getfield 67, 3, (12, 2, 11, 0), 0, 0), (30, .getfield 182, 3, (0, 2, 7, 0), 0, 0), (33, .iload_n 2, 1, (2, 0, 0, 0), 0, 0), (34, .iaload, 1, (0, 0, 0, 0), 0, 0), (35, .ifCond .eq 5, 3, (40, 0, 0, 0), 0, 0), (38, .iconst 1, 1, (0, 0, 0, 0), 1, 0), (39, .ireturn, 1, (1, 0, 0, 0), 0, 0)]),
  (1000000, [(40, .iinc 2 1, 3, (2, 0, 0, 0), 1, 0), (43, .goto (-41), 3, (2, 0, 0, 0), 0, 0), (46, .iconst 0, 1, (0, 0, 0, 0), 0, 0), (47, .ireturn, 1, (1, 0, 0, 0), 0, 0)])]
-- ShareNets.freeForms(I)I
set_option maxRecDepth 100000 in
noncomputable def z_k139 : List (Nat × List (Nat × z_E)) := [(40, [(0, .iconst 0, 1, (0, 0, 0, 0), 0, 0), (1, .istore_n 2, 1, (2, 0, 0, 0), 0, 0), (2, .iconst 0, 1, (0, 0, 0, 0), 0, 0), (3, .istore_n 3, 1, (3, 0, 0, 0), 0, 0), (4, .iload_n 3, 1, (3, 0, 0, 0), 0, 0), (5, .iload_n 1, 1, (1, 0, 0, 0), 0, 0), (6, .invokestatic 171, 3, (127, 0, 1, 0), 0, 0), (9, .if_icmp .ge 39, 3, (48, 0, 0, 0), 0, 0), (12, .aload_n 0, 1, (0, 0, 0, 0), 0, 0), (13, .getfield 73, 3, (13, 2, 11, 0), 0, 0), (16, .iload_n 1, 1, (1, 0, 0, 0), 0, 0), (17, .getstatic 165, 3, (0, 0, 0, 0), 0, 0), (20, .iload_n 3, 1, (3, 0, 0, 0), 0, 0), (21, .iaload, 1, (0, 0, 0, 0), 0, 0), (22, .invokevirtual 411, 3, (21, 4, 2, 0), 0, 0), (25, .aload_n 0, 1, (0, 0, 0, 0), 0, 0), (26, .aload_n 0, 1, (0, 0, 0, 0), 0, 0), (27, .getfield 73, 3, (13, 2, 11, 0), 0, 0), (30, .invokevirtual 205, 3, (137, 4, 1, 0), 0, 0), (33, .ifCond .eq 9, 3, (42, 0, 0, 0), 0, 0), (36, .iload_n 2, 1, (2, 0, 0, 0), 0, 0), (37, .iconst 1, 1, (0, 0, 0, 0), 1, 0), (38, .iload_n 3, 1, (3, 0, 0, 0), 0, 0), (39, .ishl, 1, (0, 0, 0, 0), 0, 0)]),
  (1000000, [(40, .ior, 1, (0, 0, 0, 0), 0, 0), (41, .istore_n 2, 1, (2, 0, 0, 0), 0, 0), (42, .iinc 3 1, 3, (3, 0, 0, 0), 1, 0), (45, .goto (-41), 3, (4, 0, 0, 0), 0, 0), (48, .iload_n 2, 1, (2, 0, 0, 0), 0, 0), (49, .ireturn, 1, (0, 0, 0, 0), 0, 0)])]
-- ShareNets.countInForm(IIII)I
set_option maxRecDepth 100000 in
noncomputable def z_k140 : List (Nat × List (Nat × z_E)) := [(1000000, [(0, .aload_n 0, 1, (0, 0, 0, 0), 0, 0), (1, .getfield 73, 3, (13, 2, 11, 0), 0, 0), (4, .iload_n 3, 1, (3, 0, 0, 0), 0, 0), (5, .getstatic 165, 3, (0, 0, 0, 0), 0, 0), (8, .iload 4, 2, (4, 0, 0, 0), 0, 0), (10, .iaload, 1, (0, 0, 0, 0), 0, 0), (11, .invokevirtual 411, 3, (21, 4, 2, 0), 0, 0), (14, .aload_n 0, 1, (0, 0, 0, 0), 0, 0), (15, .getfield 67, 3, (12, 2, 11, 0), 0, 0), (18, .aload_n 0, 1, (0, 0, 0, 0), 0, 0), (19, .getfield 73, 3, (13, 2, 11, 0), 0, 0), (22, .iload_n 1, 1, (1, 0, 0, 0), 0, 0), (23, .invokevirtual 178, 3, (42, 4, 2, 0), 0, 0), (26, .aload_n 0, 1, (0, 0, 0, 0), 0, 0), (27, .getfield 67, 3, (12, 2, 11, 0), 0, 0), (30, .getfield 182, 3, (0, 2, 7, 0), 0, 0), (33, .iload_n 2, 1, (2, 0, 0, 0), 0, 0), (34, .iaload, 1, (0, 0, 0, 0), 0, 0), (35, .ireturn, 1, (0, 0, 0, 0), 0, 0)])]
-- ShareNets.mostInForms(IIII)I
set_option maxRecDepth 100000 in
noncomputable def z_k141 : List (Nat × List (Nat × z_E)) := [(44, [(0, .iconst (-1), 1, (0, 0, 0, 0), (-1), 0), (1, .istore 5, 2, (5, 0, 0, 0), 0, 0), (3, .iconst 0, 1, (0, 0, 0, 0), 0, 0), (4, .istore 6, 2, (6, 0, 0, 0), 0, 0), (6, .iload 6, 2, (6, 0, 0, 0), 0, 0), (8, .iload_n 1, 1, (1, 0, 0, 0), 0, 0), (9, .invokestatic 171, 3, (127, 0, 1, 0), 0, 0), (12, .if_icmp .ge 35, 3, (47, 0, 0, 0), 0, 0), (15, .iload 4, 2, (4, 0, 0, 0), 0, 0), (17, .iload 6, 2, (6, 0, 0, 0), 0, 0), (19, .ishr, 1, (0, 0, 0, 0), 0, 0), (20, .iconst 1, 1, (0, 0, 0, 0), 1, 0), (21, .iand, 1, (0, 0, 0, 0), 0, 0), (22, .ifCond .eq 19, 3, (41, 0, 0, 0), 0, 0), (25, .iload 5, 2, (5, 0, 0, 0), 0, 0), (27, .aload_n 0, 1, (0, 0, 0, 0), 0, 0), (28, .iload_n 2, 1, (2, 0, 0, 0), 0, 0), (29, .iload_n 3, 1, (3, 0, 0, 0), 0, 0), (30, .iload_n 1, 1, (1, 0, 0, 0), 0, 0), (31, .iload 6, 2, (6, 0, 0, 0), 0, 0), (33, .invokevirtual 195, 3, (140, 4, 4, 0), 0, 0), (36, .invokestatic 414, 3, (277, 0, 2, 0), 0, 0), (39, .istore 5, 2, (5, 0, 0, 0), 0, 0), (41, .iinc 6 1, 3, (6, 0, 0, 0), 1, 0)]),
  (1000000, [(44, .goto (-38), 3, (6, 0, 0, 0), 0, 0), (47, .iload 5, 2, (5, 0, 0, 0), 0, 0), (49, .ireturn, 1, (0, 0, 0, 0), 0, 0)])]
-- ShareNets.mostInFive(III)I
set_option maxRecDepth 100000 in
noncomputable def z_k142 : List (Nat × List (Nat × z_E)) := [(45, [(0, .iconst 0, 1, (0, 0, 0, 0), 0, 0), (1, .istore 4, 2, (4, 0, 0, 0), 0, 0), (3, .iload 4, 2, (4, 0, 0, 0), 0, 0), (5, .bipush 11, 2, (0, 0, 0, 0), 11, 0), (7, .if_icmp .ge 25, 3, (32, 0, 0, 0), 0, 0), (10, .aload_n 0, 1, (0, 0, 0, 0), 0, 0), (11, .getfield 77, 3, (14, 2, 11, 0), 0, 0), (14, .iload 4, 2, (4, 0, 0, 0), 0, 0), (16, .aload_n 0, 1, (0, 0, 0, 0), 0, 0), (17, .iload_n 1, 1, (1, 0, 0, 0), 0, 0), (18, .iload_n 2, 1, (2, 0, 0, 0), 0, 0), (19, .iconst 4, 1, (0, 0, 0, 0), 4, 0), (20, .iload 4, 2, (4, 0, 0, 0), 0, 0), (22, .invokevirtual 195, 3, (140, 4, 4, 0), 0, 0), (25, .iastore, 1, (0, 0, 0, 0), 0, 0), (26, .iinc 4 1, 3, (4, 0, 0, 0), 1, 0), (29, .goto (-26), 3, (3, 0, 0, 0), 0, 0), (32, .iconst (-1), 1, (0, 0, 0, 0), (-1), 0), (33, .istore 4, 2, (4, 0, 0, 0), 0, 0), (35, .iconst 0, 1, (0, 0, 0, 0), 0, 0), (36, .istore 5, 2, (5, 0, 0, 0), 0, 0), (38, .iload 5, 2, (5, 0, 0, 0), 0, 0), (40, .bipush 11, 2, (0, 0, 0, 0), 11, 0), (42, .if_icmp .ge 82, 3, (124, 0, 0, 0), 0, 0)]),
  (90, [(45, .iload_n 3, 1, (3, 0, 0, 0), 0, 0), (46, .iload 5, 2, (5, 0, 0, 0), 0, 0), (48, .ishr, 1, (0, 0, 0, 0), 0, 0), (49, .iconst 1, 1, (0, 0, 0, 0), 1, 0), (50, .iand, 1, (0, 0, 0, 0), 0, 0), (51, .ifCond .ne 6, 3, (57, 0, 0, 0), 0, 0), (54, .goto 64, 3, (118, 0, 0, 0), 0, 0), (57, .aload_n 0, 1, (0, 0, 0, 0), 0, 0), (58, .getfield 73, 3, (13, 2, 11, 0), 0, 0), (61, .iconst 4, 1, (0, 0, 0, 0), 4, 0), (62, .getstatic 165, 3, (0, 0, 0, 0), 0, 0), (65, .iload 5, 2, (5, 0, 0, 0), 0, 0), (67, .iaload, 1, (0, 0, 0, 0), 0, 0), (68, .invokevirtual 411, 3, (21, 4, 2, 0), 0, 0), (71, .aload_n 0, 1, (0, 0, 0, 0), 0, 0), (72, .getfield 73, 3, (13, 2, 11, 0), 0, 0), (75, .iconst 5, 1, (0, 0, 0, 0), 5, 0), (76, .putfield 128, 3, (1, 0, 2, 0), 0, 0), (79, .iconst 0, 1, (0, 0, 0, 0), 0, 0), (80, .istore 6, 2, (6, 0, 0, 0), 0, 0), (82, .iload 6, 2, (6, 0, 0, 0), 0, 0), (84, .bipush 16, 2, (0, 0, 0, 0), 16, 0), (86, .if_icmp .ge 32, 3, (118, 0, 0, 0), 0, 0), (89, .aload_n 0, 1, (0, 0, 0, 0), 0, 0)]),
  (1000000, [(90, .getfield 73, 3, (13, 2, 11, 0), 0, 0), (93, .iconst 4, 1, (0, 0, 0, 0), 4, 0), (94, .iload 6, 2, (6, 0, 0, 0), 0, 0), (96, .invokevirtual 147, 3, (24, 4, 2, 0), 0, 0), (99, .iload 4, 2, (4, 0, 0, 0), 0, 0), (101, .aload_n 0, 1, (0, 0, 0, 0), 0, 0), (102, .iload_n 1, 1, (1, 0, 0, 0), 0, 0), (103, .iload_n 3, 1, (3, 0, 0, 0), 0, 0), (104, .invokevirtual 417, 3, (143, 4, 2, 0), 0, 0), (107, .invokestatic 414, 3, (277, 0, 2, 0), 0, 0), (110, .istore 4, 2, (4, 0, 0, 0), 0, 0), (112, .iinc 6 1, 3, (6, 0, 0, 0), 1, 0), (115, .goto (-33), 3, (82, 0, 0, 0), 0, 0), (118, .iinc 5 1, 3, (5, 0, 0, 0), 1, 0), (121, .goto (-83), 3, (38, 0, 0, 0), 0, 0), (124, .iload 4, 2, (4, 0, 0, 0), 0, 0), (126, .ireturn, 1, (0, 0, 0, 0), 0, 0)])]
-- ShareNets.countInFive(II)I
set_option maxRecDepth 100000 in
noncomputable def z_k143 : List (Nat × List (Nat × z_E)) := [(43, [(0, .aload_n 0, 1, (0, 0, 0, 0), 0, 0), (1, .getfield 67, 3, (12, 2, 11, 0), 0, 0), (4, .aload_n 0, 1, (0, 0, 0, 0), 0, 0), (5, .getfield 73, 3, (13, 2, 11, 0), 0, 0), (8, .iconst 4, 1, (0, 0, 0, 0), 4, 0), (9, .invokevirtual 178, 3, (42, 4, 2, 0), 0, 0), (12, .iconst 0, 1, (0, 0, 0, 0), 0, 0), (13, .istore_n 3, 1, (3, 0, 0, 0), 0, 0), (14, .iconst 0, 1, (0, 0, 0, 0), 0, 0), (15, .istore 4, 2, (4, 0, 0, 0), 0, 0), (17, .iload 4, 2, (4, 0, 0, 0), 0, 0), (19, .bipush 11, 2, (0, 0, 0, 0), 11, 0), (21, .if_icmp .ge 54, 3, (75, 0, 0, 0), 0, 0), (24, .aload_n 0, 1, (0, 0, 0, 0), 0, 0), (25, .getfield 67, 3, (12, 2, 11, 0), 0, 0), (28, .getfield 182, 3, (0, 2, 7, 0), 0, 0), (31, .iload 4, 2, (4, 0, 0, 0), 0, 0), (33, .iaload, 1, (0, 0, 0, 0), 0, 0), (34, .ifCond .eq 14, 3, (48, 0, 0, 0), 0, 0), (37, .iload_n 2, 1, (2, 0, 0, 0), 0, 0), (38, .iload 4, 2, (4, 0, 0, 0), 0, 0), (40, .ishr, 1, (0, 0, 0, 0), 0, 0), (41, .iconst 1, 1, (0, 0, 0, 0), 1, 0), (42, .iand, 1, (0, 0, 0, 0), 0, 0)]),
  (85, [(43, .ifCond .ne 5, 3, (48, 0, 0, 0), 0, 0), (46, .iconst (-1), 1, (0, 0, 0, 0), (-1), 0), (47, .ireturn, 1, (0, 0, 0, 0), 0, 0), (48, .iload_n 3, 1, (3, 0, 0, 0), 0, 0), (49, .aload_n 0, 1, (0, 0, 0, 0), 0, 0), (50, .getfield 67, 3, (12, 2, 11, 0), 0, 0), (53, .getfield 182, 3, (0, 2, 7, 0), 0, 0), (56, .iload 4, 2, (4, 0, 0, 0), 0, 0), (58, .iaload, 1, (0, 0, 0, 0), 0, 0), (59, .aload_n 0, 1, (0, 0, 0, 0), 0, 0), (60, .getfield 77, 3, (14, 2, 11, 0), 0, 0), (63, .iload 4, 2, (4, 0, 0, 0), 0, 0), (65, .iaload, 1, (0, 0, 0, 0), 0, 0), (66, .imul, 1, (0, 0, 0, 0), 0, 0), (67, .iadd, 1, (0, 0, 0, 0), 0, 0), (68, .istore_n 3, 1, (3, 0, 0, 0), 0, 0), (69, .iinc 4 1, 3, (4, 0, 0, 0), 1, 0), (72, .goto (-55), 3, (17, 0, 0, 0), 0, 0), (75, .iload_n 1, 1, (1, 0, 0, 0), 0, 0), (76, .iconst 1, 1, (0, 0, 0, 0), 1, 0), (77, .if_icmp .lt 16, 3, (93, 0, 0, 0), 0, 0), (80, .iload_n 1, 1, (1, 0, 0, 0), 0, 0), (81, .iconst 4, 1, (0, 0, 0, 0), 4, 0), (82, .if_icmp .gt 11, 3, (93, 0, 0, 0), 0, 0)]),
  (1000000, [(85, .iload_n 3, 1, (3, 0, 0, 0), 0, 0), (86, .iconst 5, 1, (0, 0, 0, 0), 5, 0), (87, .iload_n 1, 1, (1, 0, 0, 0), 0, 0), (88, .isub, 1, (0, 0, 0, 0), 0, 0), (89, .idiv, 1, (0, 0, 0, 0), 0, 0), (90, .goto 4, 3, (94, 0, 0, 0), 0, 0), (93, .iconst (-1), 1, (0, 0, 0, 0), (-1), 0), (94, .ireturn, 1, (0, 0, 0, 0), 0, 0)])]
-- ShareNets.isFreeLimit()Z
set_option maxRecDepth 100000 in
noncomputable def z_k144 : List (Nat × List (Nat × z_E)) := [(44, [(0, .iconst 2, 1, (0, 0, 0, 0), 2, 0), (1, .istore_n 1, 1, (1, 0, 0, 0), 0, 0), (2, .iload_n 1, 1, (1, 0, 0, 0), 0, 0), (3, .iconst 4, 1, (0, 0, 0, 0), 4, 0), (4, .if_icmp .gt 83, 3, (87, 0, 0, 0), 0, 0), (7, .aload_n 0, 1, (0, 0, 0, 0), 0, 0), (8, .getfield 10, 3, (0, 2, 11, 0), 0, 0), (11, .getfield 199, 3, (1, 2, 10, 0), 0, 0), (14, .iload_n 1, 1, (1, 0, 0, 0), 0, 0), (15, .iaload, 1, (0, 0, 0, 0), 0, 0), (16, .ifCond .eq 65, 3, (81, 0, 0, 0), 0, 0), (19, .aload_n 0, 1, (0, 0, 0, 0), 0, 0), (20, .getfield 10, 3, (0, 2, 11, 0), 0, 0), (23, .getfield 219, 3, (2, 2, 10, 0), 0, 0), (26, .iload_n 1, 1, (1, 0, 0, 0), 0, 0), (27, .invokevirtual 245, 3, (12, 4, 1, 0), 0, 0), (30, .iconst 0, 1, (0, 0, 0, 0), 0, 0), (31, .istore_n 2, 1, (2, 0, 0, 0), 0, 0), (32, .iload_n 2, 1, (2, 0, 0, 0), 0, 0), (33, .iload_n 1, 1, (1, 0, 0, 0), 0, 0), (34, .invokestatic 171, 3, (127, 0, 1, 0), 0, 0), (37, .if_icmp .ge 44, 3, (81, 0, 0, 0), 0, 0), (40, .aload_n 0, 1, (0, 0, 0, 0), 0, 0), (41, .getfield 10, 3, (0, 2, 11, 0), 0, 0)]),
  (88, [(44, .getfield 199, 3, (1, 2, 10, 0), 0, 0), (47, .iload_n 1, 1, (1, 0, 0, 0), 0, 0), (48, .iaload, 1, (0, 0, 0, 0), 0, 0), (49, .iload_n 2, 1, (2, 0, 0, 0), 0, 0), (50, .ishr, 1, (0, 0, 0, 0), 0, 0), (51, .iconst 1, 1, (0, 0, 0, 0), 1, 0), (52, .iand, 1, (0, 0, 0, 0), 0, 0), (53, .ifCond .eq 22, 3, (75, 0, 0, 0), 0, 0), (56, .aload_n 0, 1, (0, 0, 0, 0), 0, 0), (57, .getfield 10, 3, (0, 2, 11, 0), 0, 0), (60, .getfield 219, 3, (2, 2, 10, 0), 0, 0), (63, .getfield 248, 3, (3, 2, 1, 0), 0, 0), (66, .iload_n 2, 1, (2, 0, 0, 0), 0, 0), (67, .laload, 1, (0, 0, 0, 0), 0, 0), (68, .lconst 0, 1, (0, 0, 0, 0), 0, 0), (69, .lcmp, 1, (0, 0, 0, 0), 0, 0), (70, .ifCond .eq 5, 3, (75, 0, 0, 0), 0, 0), (73, .iconst 0, 1, (0, 0, 0, 0), 0, 0), (74, .ireturn, 1, (1, 0, 0, 0), 0, 0), (75, .iinc 2 1, 3, (2, 0, 0, 0), 1, 0), (78, .goto (-46), 3, (32, 0, 0, 0), 0, 0), (81, .iinc 1 1, 3, (1, 0, 0, 0), 1, 0), (84, .goto (-82), 3, (2, 0, 0, 0), 0, 0), (87, .iconst 1, 1, (0, 0, 0, 0), 1, 0)]),
  (1000000, [(88, .ireturn, 1, (1, 0, 0, 0), 0, 0)])]
-- ShareNets.happens(I)Z
set_option maxRecDepth 100000 in
noncomputable def z_k145 : List (Nat × List (Nat × z_E)) := [(1000000, [(0, .iload_n 1, 1, (1, 0, 0, 0), 0, 0), (1, .ifCond .eq 8, 3, (9, 0, 0, 0), 0, 0), (4, .iload_n 1, 1, (1, 0, 0, 0), 0, 0), (5, .iconst 4, 1, (0, 0, 0, 0), 4, 0), (6, .if_icmp .ne 14, 3, (20, 0, 0, 0), 0, 0), (9, .iload_n 1, 1, (1, 0, 0, 0), 0, 0), (10, .iconst 4, 1, (0, 0, 0, 0), 4, 0), (11, .if_icmp .ne 7, 3, (18, 0, 0, 0), 0, 0), (14, .iconst 1, 1, (0, 0, 0, 0), 1, 0), (15, .goto 4, 3, (19, 0, 0, 0), 0, 0), (18, .iconst 0, 1, (0, 0, 0, 0), 0, 0), (19, .ireturn, 1, (1, 0, 0, 0), 0, 0), (20, .aload_n 0, 1, (0, 0, 0, 0), 0, 0), (21, .getfield 10, 3, (0, 2, 11, 0), 0, 0), (24, .invokevirtual 271, 3, (65, 4, 0, 0), 0, 0), (27, .iconst 4, 1, (0, 0, 0, 0), 4, 0), (28, .irem, 1, (0, 0, 0, 0), 0, 0), (29, .iload_n 1, 1, (1, 0, 0, 0), 0, 0), (30, .if_icmp .ge 7, 3, (37, 0, 0, 0), 0, 0), (33, .iconst 1, 1, (0, 0, 0, 0), 1, 0), (34, .goto 4, 3, (38, 0, 0, 0), 0, 0), (37, .iconst 0, 1, (0, 0, 0, 0), 0, 0), (38, .ireturn, 1, (1, 0, 0, 0), 0, 0)])]
-- ShareNets.isShareTold(III)Z
set_option maxRecDepth 100000 in
noncomputable def z_k146 : List (Nat × List (Nat × z_E)) := [(73, [(0, .iload_n 0, 1, (0, 0, 0, 0), 0, 0), (1, .tableswitch 84 0 3 #[31, 37, 54, 37], 31, (0, 0, 0, 0), 0, 0), (32, .iload_n 1, 1, (1, 0, 0, 0), 0, 0), (33, .iload_n 2, 1, (2, 0, 0, 0), 0, 0), (34, .invokestatic 327, 3, (129, 0, 2, 0), 0, 0), (37, .ireturn, 1, (1, 0, 0, 0), 0, 0), (38, .iload_n 1, 1, (1, 0, 0, 0), 0, 0), (39, .ifCond .lt 14, 3, (53, 0, 0, 0), 0, 0), (42, .iload_n 1, 1, (1, 0, 0, 0), 0, 0), (43, .sipush 9999, 3, (0, 0, 0, 0), 9999, 0), (46, .if_icmp .gt 7, 3, (53, 0, 0, 0), 0, 0), (49, .iconst 1, 1, (0, 0, 0, 0), 1, 0), (50, .goto 4, 3, (54, 0, 0, 0), 0, 0), (53, .iconst 0, 1, (0, 0, 0, 0), 0, 0), (54, .ireturn, 1, (1, 0, 0, 0), 0, 0), (55, .iload_n 1, 1, (1, 0, 0, 0), 0, 0), (56, .bipush (-9), 2, (0, 0, 0, 0), (-9), 0), (58, .if_icmp .lt 25, 3, (83, 0, 0, 0), 0, 0), (61, .iload_n 1, 1, (1, 0, 0, 0), 0, 0), (62, .bipush 9, 2, (0, 0, 0, 0), 9, 0), (64, .if_icmp .gt 19, 3, (83, 0, 0, 0), 0, 0), (67, .iload_n 2, 1, (2, 0, 0, 0), 0, 0), (68, .bipush (-9), 2, (0, 0, 0, 0), (-9), 0), (70, .if_icmp .lt 13, 3, (83, 0, 0, 0), 0, 0)]),
  (1000000, [(73, .iload_n 2, 1, (2, 0, 0, 0), 0, 0), (74, .bipush 9, 2, (0, 0, 0, 0), 9, 0), (76, .if_icmp .gt 7, 3, (83, 0, 0, 0), 0, 0), (79, .iconst 1, 1, (0, 0, 0, 0), 1, 0), (80, .goto 4, 3, (84, 0, 0, 0), 0, 0), (83, .iconst 0, 1, (0, 0, 0, 0), 0, 0), (84, .ireturn, 1, (1, 0, 0, 0), 0, 0), (85, .iconst 0, 1, (0, 0, 0, 0), 0, 0), (86, .ireturn, 1, (1, 0, 0, 0), 0, 0)])]
-- ShareNets.makeShare(IIII)LShareNets$Share;
set_option maxRecDepth 100000 in
noncomputable def z_k147 : List (Nat × List (Nat × z_E)) := [(62, [(0, .iload_n 0, 1, (0, 0, 0, 0), 0, 0), (1, .tableswitch 61 1 3 #[27, 39, 50], 27, (0, 0, 0, 0), 0, 0), (28, .new 420, 3, (6, 0, 0, 0), 0, 0), (31, .dup, 1, (0, 0, 0, 0), 0, 0), (32, .iconst 1, 1, (0, 0, 0, 0), 1, 0), (33, .iload_n 1, 1, (1, 0, 0, 0), 0, 0), (34, .iload_n 2, 1, (2, 0, 0, 0), 0, 0), (35, .iload_n 3, 1, (3, 0, 0, 0), 0, 0), (36, .invokespecial 422, 3, (38, 2, 4, 0), 0, 0), (39, .areturn, 1, (0, 0, 0, 0), 0, 0), (40, .new 425, 3, (5, 0, 0, 0), 0, 0), (43, .dup, 1, (0, 0, 0, 0), 0, 0), (44, .iload_n 1, 1, (1, 0, 0, 0), 0, 0), (45, .iload_n 2, 1, (2, 0, 0, 0), 0, 0), (46, .iload_n 3, 1, (3, 0, 0, 0), 0, 0), (47, .invokespecial 427, 3, (35, 2, 3, 0), 0, 0), (50, .areturn, 1, (0, 0, 0, 0), 0, 0), (51, .new 429, 3, (0, 0, 0, 0), 0, 0), (54, .dup, 1, (0, 0, 0, 0), 0, 0), (55, .iload_n 1, 1, (1, 0, 0, 0), 0, 0), (56, .iload_n 2, 1, (2, 0, 0, 0), 0, 0), (57, .iload_n 3, 1, (3, 0, 0, 0), 0, 0), (58, .invokespecial 431, 3, (0, 2, 3, 0), 0, 0), (61, .areturn, 1, (0, 0, 0, 0), 0, 0)]),
  (1000000, [(62, .new 309, 3, (3, 0, 0, 0), 0, 0), (65, .dup, 1, (0, 0, 0, 0), 0, 0), (66, .iconst 0, 1, (0, 0, 0, 0), 0, 0), (67, .iload_n 1, 1, (1, 0, 0, 0), 0, 0), (68, .iload_n 2, 1, (2, 0, 0, 0), 0, 0), (69, .iload_n 3, 1, (3, 0, 0, 0), 0, 0), (70, .invokespecial 432, 3, (27, 2, 4, 0), 0, 0), (73, .areturn, 1, (0, 0, 0, 0), 0, 0)])]
-- ShareNets.thirdsGiven(LShareNets$Share;I)I
set_option maxRecDepth 100000 in
noncomputable def z_k148 : List (Nat × List (Nat × z_E)) := [(71, [(0, .aload_n 0, 1, (0, 0, 0, 0), 0, 0), (1, .getfield 308, 3, (0, 0, 3, 0), 0, 0), (4, .lookupswitch 58 #[(0, 28), (2, 41)], 28, (0, 0, 0, 0), 0, 0), (32, .aload_n 0, 1, (0, 0, 0, 0), 0, 0), (33, .getfield 313, 3, (2, 0, 3, 0), 0, 0), (36, .aload_n 0, 1, (0, 0, 0, 0), 0, 0), (37, .getfield 316, 3, (3, 0, 3, 0), 0, 0), (40, .iload_n 1, 1, (1, 0, 0, 0), 0, 0), (41, .invokestatic 433, 3, (149, 0, 3, 0), 0, 0), (44, .ireturn, 1, (0, 0, 0, 0), 0, 0), (45, .getstatic 165, 3, (0, 0, 0, 0), 0, 0), (48, .iload_n 1, 1, (1, 0, 0, 0), 0, 0), (49, .iaload, 1, (0, 0, 0, 0), 0, 0), (50, .aload_n 0, 1, (0, 0, 0, 0), 0, 0), (51, .getfield 313, 3, (2, 0, 3, 0), 0, 0), (54, .aload_n 0, 1, (0, 0, 0, 0), 0, 0), (55, .getfield 316, 3, (3, 0, 3, 0), 0, 0), (58, .invokestatic 436, 3, (150, 0, 3, 0), 0, 0), (61, .ireturn, 1, (0, 0, 0, 0), 0, 0), (62, .iconst 3, 1, (0, 0, 0, 0), 3, 0), (63, .aload_n 0, 1, (0, 0, 0, 0), 0, 0), (64, .getfield 313, 3, (2, 0, 3, 0), 0, 0), (67, .iload_n 1, 1, (1, 0, 0, 0), 0, 0), (68, .invokestatic 439, 3, (151, 0, 2, 0), 0, 0)]),
  (1000000, [(71, .iconst 4, 1, (0, 0, 0, 0), 4, 0), (72, .isub, 1, (0, 0, 0, 0), 0, 0), (73, .imul, 1, (0, 0, 0, 0), 0, 0), (74, .ireturn, 1, (0, 0, 0, 0), 0, 0)])]
-- ShareNets.thirdsOfLift(III)I
set_option maxRecDepth 100000 in
noncomputable def z_k149 : List (Nat × List (Nat × z_E)) := [(1000000, [(0, .iload_n 0, 1, (0, 0, 0, 0), 0, 0), (1, .iconst 3, 1, (0, 0, 0, 0), 3, 0), (2, .if_icmp .ne 18, 3, (20, 0, 0, 0), 0, 0), (5, .getstatic 165, 3, (0, 0, 0, 0), 0, 0), (8, .iload_n 2, 1, (2, 0, 0, 0), 0, 0), (9, .iaload, 1, (0, 0, 0, 0), 0, 0), (10, .iload_n 1, 1, (1, 0, 0, 0), 0, 0), (11, .if_icmp .ne 7, 3, (18, 0, 0, 0), 0, 0), (14, .iconst 3, 1, (0, 0, 0, 0), 3, 0), (15, .goto 4, 3, (19, 0, 0, 0), 0, 0), (18, .iconst 0, 1, (0, 0, 0, 0), 0, 0), (19, .ireturn, 1, (0, 0, 0, 0), 0, 0), (20, .iload_n 1, 1, (1, 0, 0, 0), 0, 0), (21, .iconst 1, 1, (0, 0, 0, 0), 1, 0), (22, .if_icmp .ne 7, 3, (29, 0, 0, 0), 0, 0), (25, .iload_n 2, 1, (2, 0, 0, 0), 0, 0), (26, .goto 6, 3, (32, 0, 0, 0), 0, 0), (29, .iconst 3, 1, (0, 0, 0, 0), 3, 0), (30, .iload_n 2, 1, (2, 0, 0, 0), 0, 0), (31, .isub, 1, (0, 0, 0, 0), 0, 0), (32, .ireturn, 1, (0, 0, 0, 0), 0, 0)])]
-- ShareNets.thirdsOfSquare(III)I
set_option maxRecDepth 100000 in
noncomputable def z_k150 : List (Nat × List (Nat × z_E)) := [(38, [(0, .iload_n 0, 1, (0, 0, 0, 0), 0, 0), (1, .iconst 1, 1, (0, 0, 0, 0), 1, 0), (2, .iand, 1, (0, 0, 0, 0), 0, 0), (3, .ifCond .eq 7, 3, (10, 0, 0, 0), 0, 0), (6, .iload_n 1, 1, (1, 0, 0, 0), 0, 0), (7, .goto 4, 3, (11, 0, 0, 0), 0, 0), (10, .iload_n 2, 1, (2, 0, 0, 0), 0, 0), (11, .istore_n 3, 1, (3, 0, 0, 0), 0, 0), (12, .iload_n 0, 1, (0, 0, 0, 0), 0, 0), (13, .iconst 2, 1, (0, 0, 0, 0), 2, 0), (14, .iand, 1, (0, 0, 0, 0), 0, 0), (15, .ifCond .eq 7, 3, (22, 0, 0, 0), 0, 0), (18, .iload_n 1, 1, (1, 0, 0, 0), 0, 0), (19, .goto 4, 3, (23, 0, 0, 0), 0, 0), (22, .iload_n 2, 1, (2, 0, 0, 0), 0, 0), (23, .istore 4, 2, (4, 0, 0, 0), 0, 0), (25, .iload_n 0, 1, (0, 0, 0, 0), 0, 0), (26, .iconst 4, 1, (0, 0, 0, 0), 4, 0), (27, .iand, 1, (0, 0, 0, 0), 0, 0), (28, .ifCond .eq 7, 3, (35, 0, 0, 0), 0, 0), (31, .iload_n 1, 1, (1, 0, 0, 0), 0, 0), (32, .goto 4, 3, (36, 0, 0, 0), 0, 0), (35, .iload_n 2, 1, (2, 0, 0, 0), 0, 0), (36, .istore 5, 2, (5, 0, 0, 0), 0, 0)]),
  (1000000, [(38, .iload_n 3, 1, (3, 0, 0, 0), 0, 0), (39, .iload 4, 2, (4, 0, 0, 0), 0, 0), (41, .imul, 1, (0, 0, 0, 0), 0, 0), (42, .iload_n 3, 1, (3, 0, 0, 0), 0, 0), (43, .iload 5, 2, (5, 0, 0, 0), 0, 0), (45, .imul, 1, (0, 0, 0, 0), 0, 0), (46, .iadd, 1, (0, 0, 0, 0), 0, 0), (47, .iload 4, 2, (4, 0, 0, 0), 0, 0), (49, .iload 5, 2, (5, 0, 0, 0), 0, 0), (51, .imul, 1, (0, 0, 0, 0), 0, 0), (52, .iadd, 1, (0, 0, 0, 0), 0, 0), (53, .ireturn, 1, (0, 0, 0, 0), 0, 0)])]
-- ShareNets.digitAt(II)I
set_option maxRecDepth 100000 in
noncomputable def z_k151 : List (Nat × List (Nat × z_E)) := [(1000000, [(0, .iload_n 0, 1, (0, 0, 0, 0), 0, 0), (1, .istore_n 2, 1, (2, 0, 0, 0), 0, 0), (2, .iconst 0, 1, (0, 0, 0, 0), 0, 0), (3, .istore_n 3, 1, (3, 0, 0, 0), 0, 0), (4, .iload_n 3, 1, (3, 0, 0, 0), 0, 0), (5, .iload_n 1, 1, (1, 0, 0, 0), 0, 0), (6, .if_icmp .ge 14, 3, (20, 0, 0, 0), 0, 0), (9, .iload_n 2, 1, (2, 0, 0, 0), 0, 0), (10, .bipush 10, 2, (0, 0, 0, 0), 10, 0), (12, .idiv, 1, (0, 0, 0, 0), 0, 0), (13, .istore_n 2, 1, (2, 0, 0, 0), 0, 0), (14, .iinc 3 1, 3, (3, 0, 0, 0), 1, 0), (17, .goto (-13), 3, (4, 0, 0, 0), 0, 0), (20, .iload_n 2, 1, (2, 0, 0, 0), 0, 0), (21, .bipush 10, 2, (0, 0, 0, 0), 10, 0), (23, .irem, 1, (0, 0, 0, 0), 0, 0), (24, .ireturn, 1, (0, 0, 0, 0), 0, 0)])]
-- ShareNets.height(III)I
set_option maxRecDepth 100000 in
noncomputable def z_k152 : List (Nat × List (Nat × z_E)) := [(46, [(0, .bipush 12, 2, (0, 0, 0, 0), 12, 0), (2, .iload_n 1, 1, (1, 0, 0, 0), 0, 0), (3, .iload_n 2, 1, (2, 0, 0, 0), 0, 0), (4, .iload_n 3, 1, (3, 0, 0, 0), 0, 0), (5, .invokestatic 433, 3, (149, 0, 3, 0), 0, 0), (8, .imul, 1, (0, 0, 0, 0), 0, 0), (9, .istore 4, 2, (4, 0, 0, 0), 0, 0), (11, .iconst 0, 1, (0, 0, 0, 0), 0, 0), (12, .istore 5, 2, (5, 0, 0, 0), 0, 0), (14, .iload 5, 2, (5, 0, 0, 0), 0, 0), (16, .aload_n 0, 1, (0, 0, 0, 0), 0, 0), (17, .getfield 10, 3, (0, 2, 11, 0), 0, 0), (20, .getfield 291, 3, (5, 0, 10, 0), 0, 0), (23, .if_icmp .ge 56, 3, (79, 0, 0, 0), 0, 0), (26, .aload_n 0, 1, (0, 0, 0, 0), 0, 0), (27, .getfield 10, 3, (0, 2, 11, 0), 0, 0), (30, .getfield 294, 3, (3, 2, 10, 0), 0, 0), (33, .iload 5, 2, (5, 0, 0, 0), 0, 0), (35, .aaload, 1, (0, 0, 0, 0), 0, 0), (36, .getfield 308, 3, (0, 0, 3, 0), 0, 0), (39, .iconst 2, 1, (0, 0, 0, 0), 2, 0), (40, .if_icmp .ne 33, 3, (73, 0, 0, 0), 0, 0), (43, .iload 4, 2, (4, 0, 0, 0), 0, 0), (45, .aload_n 0, 1, (0, 0, 0, 0), 0, 0)]),
  (1000000, [(46, .getfield 10, 3, (0, 2, 11, 0), 0, 0), (49, .getfield 302, 3, (4, 2, 10, 0), 0, 0), (52, .iload 5, 2, (5, 0, 0, 0), 0, 0), (54, .iaload, 1, (0, 0, 0, 0), 0, 0), (55, .aload_n 0, 1, (0, 0, 0, 0), 0, 0), (56, .getfield 10, 3, (0, 2, 11, 0), 0, 0), (59, .getfield 294, 3, (3, 2, 10, 0), 0, 0), (62, .iload 5, 2, (5, 0, 0, 0), 0, 0), (64, .aaload, 1, (0, 0, 0, 0), 0, 0), (65, .iload_n 3, 1, (3, 0, 0, 0), 0, 0), (66, .invokestatic 321, 3, (148, 0, 2, 0), 0, 0), (69, .imul, 1, (0, 0, 0, 0), 0, 0), (70, .iadd, 1, (0, 0, 0, 0), 0, 0), (71, .istore 4, 2, (4, 0, 0, 0), 0, 0), (73, .iinc 5 1, 3, (5, 0, 0, 0), 1, 0), (76, .goto (-62), 3, (14, 0, 0, 0), 0, 0), (79, .iload 4, 2, (4, 0, 0, 0), 0, 0), (81, .ireturn, 1, (0, 0, 0, 0), 0, 0)])]
-- ShareNets.greatestHeight(III)I
set_option maxRecDepth 100000 in
noncomputable def z_k153 : List (Nat × List (Nat × z_E)) := [(46, [(0, .ldc_w 442, 3, (0, 0, 0, 0), (-2147483648), 0), (3, .istore 4, 2, (4, 0, 0, 0), 0, 0), (5, .iconst 0, 1, (0, 0, 0, 0), 0, 0), (6, .istore 5, 2, (5, 0, 0, 0), 0, 0), (8, .iload 5, 2, (5, 0, 0, 0), 0, 0), (10, .iconst 4, 1, (0, 0, 0, 0), 4, 0), (11, .if_icmp .ge 33, 3, (44, 0, 0, 0), 0, 0), (14, .iload_n 3, 1, (3, 0, 0, 0), 0, 0), (15, .iload 5, 2, (5, 0, 0, 0), 0, 0), (17, .ishr, 1, (0, 0, 0, 0), 0, 0), (18, .iconst 1, 1, (0, 0, 0, 0), 1, 0), (19, .iand, 1, (0, 0, 0, 0), 0, 0), (20, .ifCond .eq 18, 3, (38, 0, 0, 0), 0, 0), (23, .iload 4, 2, (4, 0, 0, 0), 0, 0), (25, .aload_n 0, 1, (0, 0, 0, 0), 0, 0), (26, .iload_n 1, 1, (1, 0, 0, 0), 0, 0), (27, .iload_n 2, 1, (2, 0, 0, 0), 0, 0), (28, .iload 5, 2, (5, 0, 0, 0), 0, 0), (30, .invokevirtual 335, 3, (152, 4, 3, 0), 0, 0), (33, .invokestatic 414, 3, (277, 0, 2, 0), 0, 0), (36, .istore 4, 2, (4, 0, 0, 0), 0, 0), (38, .iinc 5 1, 3, (5, 0, 0, 0), 1, 0), (41, .goto (-33), 3, (8, 0, 0, 0), 0, 0), (44, .iload 4, 2, (4, 0, 0, 0), 0, 0)]),
  (1000000, [(46, .ireturn, 1, (0, 0, 0, 0), 0, 0)])]
-- ShareNets.fillShelf(III)I
set_option maxRecDepth 100000 in
noncomputable def z_k154 : List (Nat × List (Nat × z_E)) := [(1000000, [(0, .aload_n 0, 1, (0, 0, 0, 0), 0, 0), (1, .getfield 54, 3, (9, 2, 11, 0), 0, 0), (4, .iload_n 1, 1, (1, 0, 0, 0), 0, 0), (5, .iload_n 2, 1, (2, 0, 0, 0), 0, 0), (6, .iastore, 1, (0, 0, 0, 0), 0, 0), (7, .aload_n 0, 1, (0, 0, 0, 0), 0, 0), (8, .getfield 57, 3, (10, 2, 11, 0), 0, 0), (11, .iload_n 1, 1, (1, 0, 0, 0), 0, 0), (12, .iload_n 3, 1, (3, 0, 0, 0), 0, 0), (13, .iastore, 1, (0, 0, 0, 0), 0, 0), (14, .iconst 1, 1, (0, 0, 0, 0), 1, 0), (15, .ireturn, 1, (0, 0, 0, 0), 0, 0)])]
-- ShareNets.shareOn(I)LShareNets$Share;
set_option maxRecDepth 100000 in
noncomputable def z_k155 : List (Nat × List (Nat × z_E)) := [(44, [(0, .iload_n 1, 1, (1, 0, 0, 0), 0, 0), (1, .invokestatic 349, 3, (124, 0, 1, 0), 0, 0), (4, .ifCond .eq 25, 3, (29, 0, 0, 0), 0, 0), (7, .aload_n 0, 1, (0, 0, 0, 0), 0, 0), (8, .getfield 54, 3, (9, 2, 11, 0), 0, 0), (11, .iload_n 1, 1, (1, 0, 0, 0), 0, 0), (12, .iaload, 1, (0, 0, 0, 0), 0, 0), (13, .ifCond .ne 16, 3, (29, 0, 0, 0), 0, 0), (16, .aload_n 0, 1, (0, 0, 0, 0), 0, 0), (17, .aload_n 0, 1, (0, 0, 0, 0), 0, 0), (18, .getfield 57, 3, (10, 2, 11, 0), 0, 0), (21, .iload_n 1, 1, (1, 0, 0, 0), 0, 0), (22, .iaload, 1, (0, 0, 0, 0), 0, 0), (23, .invokevirtual 305, 3, (120, 4, 1, 0), 0, 0), (26, .ifCond .ne 5, 3, (31, 0, 0, 0), 0, 0), (29, .aconst_null, 1, (0, 0, 0, 0), 0, 0), (30, .areturn, 1, (0, 0, 0, 0), 0, 0), (31, .aload_n 0, 1, (0, 0, 0, 0), 0, 0), (32, .getfield 10, 3, (0, 2, 11, 0), 0, 0), (35, .getfield 294, 3, (3, 2, 10, 0), 0, 0), (38, .aload_n 0, 1, (0, 0, 0, 0), 0, 0), (39, .getfield 57, 3, (10, 2, 11, 0), 0, 0), (42, .iload_n 1, 1, (1, 0, 0, 0), 0, 0), (43, .iaload, 1, (0, 0, 0, 0), 0, 0)]),
  (1000000, [(44, .aaload, 1, (0, 0, 0, 0), 0, 0), (45, .areturn, 1, (0, 0, 0, 0), 0, 0)])]
-- ShareNets.isOfKind(LShareNets$Share;I)Z
set_option maxRecDepth 100000 in
noncomputable def z_k156 : List (Nat × List (Nat × z_E)) := [(1000000, [(0, .iload_n 1, 1, (1, 0, 0, 0), 0, 0), (1, .tableswitch 48 0 3 #[31, 33, 38, 43], 31, (0, 0, 0, 0), 0, 0), (32, .iconst 1, 1, (0, 0, 0, 0), 1, 0), (33, .ireturn, 1, (1, 0, 0, 0), 0, 0), (34, .aload_n 0, 1, (0, 0, 0, 0), 0, 0), (35, .instanceof 420, 3, (6, 0, 0, 0), 0, 0), (38, .ireturn, 1, (1, 0, 0, 0), 0, 0), (39, .aload_n 0, 1, (0, 0, 0, 0), 0, 0), (40, .instanceof 425, 3, (5, 0, 0, 0), 0, 0), (43, .ireturn, 1, (1, 0, 0, 0), 0, 0), (44, .aload_n 0, 1, (0, 0, 0, 0), 0, 0), (45, .instanceof 429, 3, (0, 0, 0, 0), 0, 0), (48, .ireturn, 1, (1, 0, 0, 0), 0, 0), (49, .iconst 0, 1, (0, 0, 0, 0), 0, 0), (50, .ireturn, 1, (1, 0, 0, 0), 0, 0)])]
-- ShareNetsModel.<init>()V
set_option maxRecDepth 100000 in
noncomputable def z_k157 : List (Nat × List (Nat × z_E)) := [(30, [(0, .aload_n 0, 1, (0, 0, 0, 0), 0, 0), (1, .invokespecial 1, 3, (0, 9, 0, 0), 0, 0), (4, .aload_n 0, 1, (0, 0, 0, 0), 0, 0), (5, .iconst 4, 1, (0, 0, 0, 0), 4, 0), (6, .newarray .int, 2, (0, 0, 0, 0), 0, 0), (8, .dup, 1, (0, 0, 0, 0), 0, 0), (9, .iconst 0, 1, (0, 0, 0, 0), 0, 0), (10, .iconst 1, 1, (0, 0, 0, 0), 1, 0), (11, .iastore, 1, (0, 0, 0, 0), 0, 0), (12, .dup, 1, (0, 0, 0, 0), 0, 0), (13, .iconst 1, 1, (0, 0, 0, 0), 1, 0), (14, .iconst 1, 1, (0, 0, 0, 0), 1, 0), (15, .iastore, 1, (0, 0, 0, 0), 0, 0), (16, .dup, 1, (0, 0, 0, 0), 0, 0), (17, .iconst 2, 1, (0, 0, 0, 0), 2, 0), (18, .iconst 1, 1, (0, 0, 0, 0), 1, 0), (19, .iastore, 1, (0, 0, 0, 0), 0, 0), (20, .dup, 1, (0, 0, 0, 0), 0, 0), (21, .iconst 3, 1, (0, 0, 0, 0), 3, 0), (22, .iconst 1, 1, (0, 0, 0, 0), 1, 0), (23, .iastore, 1, (0, 0, 0, 0), 0, 0), (24, .putfield 7, 3, (0, 2, 12, 0), 0, 0), (27, .aload_n 0, 1, (0, 0, 0, 0), 0, 0), (28, .bipush 40, 2, (0, 0, 0, 0), 40, 0)]),
  (77, [(30, .newarray .int, 2, (0, 0, 0, 0), 0, 0), (32, .putfield 13, 3, (1, 2, 12, 0), 0, 0), (35, .aload_n 0, 1, (0, 0, 0, 0), 0, 0), (36, .bipush 8, 2, (0, 0, 0, 0), 8, 0), (38, .newarray .int, 2, (0, 0, 0, 0), 0, 0), (40, .putfield 16, 3, (3, 2, 12, 0), 0, 0), (43, .aload_n 0, 1, (0, 0, 0, 0), 0, 0), (44, .iconst 5, 1, (0, 0, 0, 0), 5, 0), (45, .newarray .int, 2, (0, 0, 0, 0), 0, 0), (47, .putfield 19, 3, (5, 2, 12, 0), 0, 0), (50, .aload_n 0, 1, (0, 0, 0, 0), 0, 0), (51, .bipush 25, 2, (0, 0, 0, 0), 25, 0), (53, .newarray .int, 2, (0, 0, 0, 0), 0, 0), (55, .putfield 22, 3, (6, 2, 12, 0), 0, 0), (58, .aload_n 0, 1, (0, 0, 0, 0), 0, 0), (59, .iconst 1, 1, (0, 0, 0, 0), 1, 0), (60, .putfield 25, 3, (7, 0, 12, 0), 0, 0), (63, .aload_n 0, 1, (0, 0, 0, 0), 0, 0), (64, .bipush 24, 2, (0, 0, 0, 0), 24, 0), (66, .newarray .int, 2, (0, 0, 0, 0), 0, 0), (68, .putfield 29, 3, (9, 2, 12, 0), 0, 0), (71, .aload_n 0, 1, (0, 0, 0, 0), 0, 0), (72, .sipush 320, 3, (0, 0, 0, 0), 320, 0), (75, .newarray .int, 2, (0, 0, 0, 0), 0, 0)]),
  (125, [(77, .putfield 32, 3, (10, 2, 12, 0), 0, 0), (80, .aload_n 0, 1, (0, 0, 0, 0), 0, 0), (81, .bipush 55, 2, (0, 0, 0, 0), 55, 0), (83, .newarray .int, 2, (0, 0, 0, 0), 0, 0), (85, .putfield 35, 3, (11, 2, 12, 0), 0, 0), (88, .aload_n 0, 1, (0, 0, 0, 0), 0, 0), (89, .iconst 5, 1, (0, 0, 0, 0), 5, 0), (90, .newarray .int, 2, (0, 0, 0, 0), 0, 0), (92, .putfield 38, 3, (12, 2, 12, 0), 0, 0), (95, .aload_n 0, 1, (0, 0, 0, 0), 0, 0), (96, .sipush 160, 3, (0, 0, 0, 0), 160, 0), (99, .newarray .int, 2, (0, 0, 0, 0), 0, 0), (101, .putfield 41, 3, (13, 2, 12, 0), 0, 0), (104, .aload_n 0, 1, (0, 0, 0, 0), 0, 0), (105, .bipush 10, 2, (0, 0, 0, 0), 10, 0), (107, .newarray .int, 2, (0, 0, 0, 0), 0, 0), (109, .putfield 44, 3, (22, 2, 12, 0), 0, 0), (112, .aload_n 0, 1, (0, 0, 0, 0), 0, 0), (113, .bipush 10, 2, (0, 0, 0, 0), 10, 0), (115, .newarray .int, 2, (0, 0, 0, 0), 0, 0), (117, .putfield 47, 3, (23, 2, 12, 0), 0, 0), (120, .aload_n 0, 1, (0, 0, 0, 0), 0, 0), (121, .bipush 10, 2, (0, 0, 0, 0), 10, 0), (123, .newarray .int, 2, (0, 0, 0, 0), 0, 0)]),
  (168, [(125, .putfield 50, 3, (25, 2, 12, 0), 0, 0), (128, .aload_n 0, 1, (0, 0, 0, 0), 0, 0), (129, .iconst 5, 1, (0, 0, 0, 0), 5, 0), (130, .newarray .int, 2, (0, 0, 0, 0), 0, 0), (132, .putfield 53, 3, (28, 2, 12, 0), 0, 0), (135, .aload_n 0, 1, (0, 0, 0, 0), 0, 0), (136, .iconst 4, 1, (0, 0, 0, 0), 4, 0), (137, .newarray .int, 2, (0, 0, 0, 0), 0, 0), (139, .putfield 56, 3, (29, 2, 12, 0), 0, 0), (142, .aload_n 0, 1, (0, 0, 0, 0), 0, 0), (143, .iconst 5, 1, (0, 0, 0, 0), 5, 0), (144, .newarray .int, 2, (0, 0, 0, 0), 0, 0), (146, .putfield 59, 3, (30, 2, 12, 0), 0, 0), (149, .aload_n 0, 1, (0, 0, 0, 0), 0, 0), (150, .iconst 5, 1, (0, 0, 0, 0), 5, 0), (151, .newarray .int, 2, (0, 0, 0, 0), 0, 0), (153, .putfield 62, 3, (31, 2, 12, 0), 0, 0), (156, .aload_n 0, 1, (0, 0, 0, 0), 0, 0), (157, .bipush 10, 2, (0, 0, 0, 0), 10, 0), (159, .newarray .int, 2, (0, 0, 0, 0), 0, 0), (161, .putfield 65, 3, (32, 2, 12, 0), 0, 0), (164, .aload_n 0, 1, (0, 0, 0, 0), 0, 0), (165, .iconst 4, 1, (0, 0, 0, 0), 4, 0), (166, .newarray .int, 2, (0, 0, 0, 0), 0, 0)]),
  (203, [(168, .putfield 68, 3, (33, 2, 12, 0), 0, 0), (171, .aload_n 0, 1, (0, 0, 0, 0), 0, 0), (172, .bipush 22, 2, (0, 0, 0, 0), 22, 0), (174, .newarray .int, 2, (0, 0, 0, 0), 0, 0), (176, .putfield 71, 3, (36, 2, 12, 0), 0, 0), (179, .aload_n 0, 1, (0, 0, 0, 0), 0, 0), (180, .bipush 22, 2, (0, 0, 0, 0), 22, 0), (182, .newarray .int, 2, (0, 0, 0, 0), 0, 0), (184, .putfield 74, 3, (38, 2, 12, 0), 0, 0), (187, .aload_n 0, 1, (0, 0, 0, 0), 0, 0), (188, .iconst 4, 1, (0, 0, 0, 0), 4, 0), (189, .newarray .int, 2, (0, 0, 0, 0), 0, 0), (191, .dup, 1, (0, 0, 0, 0), 0, 0), (192, .iconst 0, 1, (0, 0, 0, 0), 0, 0), (193, .iconst (-1), 1, (0, 0, 0, 0), (-1), 0), (194, .iastore, 1, (0, 0, 0, 0), 0, 0), (195, .dup, 1, (0, 0, 0, 0), 0, 0), (196, .iconst 1, 1, (0, 0, 0, 0), 1, 0), (197, .iconst (-1), 1, (0, 0, 0, 0), (-1), 0), (198, .iastore, 1, (0, 0, 0, 0), 0, 0), (199, .dup, 1, (0, 0, 0, 0), 0, 0), (200, .iconst 2, 1, (0, 0, 0, 0), 2, 0), (201, .iconst (-1), 1, (0, 0, 0, 0), (-1), 0), (202, .iastore, 1, (0, 0, 0, 0), 0, 0)]),
  (238, [(203, .dup, 1, (0, 0, 0, 0), 0, 0), (204, .iconst 3, 1, (0, 0, 0, 0), 3, 0), (205, .iconst (-1), 1, (0, 0, 0, 0), (-1), 0), (206, .iastore, 1, (0, 0, 0, 0), 0, 0), (207, .putfield 77, 3, (40, 2, 12, 0), 0, 0), (210, .aload_n 0, 1, (0, 0, 0, 0), 0, 0), (211, .iconst 4, 1, (0, 0, 0, 0), 4, 0), (212, .newarray .int, 2, (0, 0, 0, 0), 0, 0), (214, .putfield 80, 3, (41, 2, 12, 0), 0, 0), (217, .aload_n 0, 1, (0, 0, 0, 0), 0, 0), (218, .sipush 160, 3, (0, 0, 0, 0), 160, 0), (221, .newarray .long, 2, (1, 0, 0, 0), 0, 0), (223, .putfield 83, 3, (42, 2, 12, 0), 0, 0), (226, .aload_n 0, 1, (0, 0, 0, 0), 0, 0), (227, .iconst 4, 1, (0, 0, 0, 0), 4, 0), (228, .newarray .int, 2, (0, 0, 0, 0), 0, 0), (230, .dup, 1, (0, 0, 0, 0), 0, 0), (231, .iconst 0, 1, (0, 0, 0, 0), 0, 0), (232, .iconst (-1), 1, (0, 0, 0, 0), (-1), 0), (233, .iastore, 1, (0, 0, 0, 0), 0, 0), (234, .dup, 1, (0, 0, 0, 0), 0, 0), (235, .iconst 1, 1, (0, 0, 0, 0), 1, 0), (236, .iconst (-1), 1, (0, 0, 0, 0), (-1), 0), (237, .iastore, 1, (0, 0, 0, 0), 0, 0)]),
  (276, [(238, .dup, 1, (0, 0, 0, 0), 0, 0), (239, .iconst 2, 1, (0, 0, 0, 0), 2, 0), (240, .iconst (-1), 1, (0, 0, 0, 0), (-1), 0), (241, .iastore, 1, (0, 0, 0, 0), 0, 0), (242, .dup, 1, (0, 0, 0, 0), 0, 0), (243, .iconst 3, 1, (0, 0, 0, 0), 3, 0), (244, .iconst (-1), 1, (0, 0, 0, 0), (-1), 0), (245, .iastore, 1, (0, 0, 0, 0), 0, 0), (246, .putfield 87, 3, (43, 2, 12, 0), 0, 0), (249, .aload_n 0, 1, (0, 0, 0, 0), 0, 0), (250, .iconst 4, 1, (0, 0, 0, 0), 4, 0), (251, .newarray .int, 2, (0, 0, 0, 0), 0, 0), (253, .putfield 90, 3, (44, 2, 12, 0), 0, 0), (256, .aload_n 0, 1, (0, 0, 0, 0), 0, 0), (257, .iconst 4, 1, (0, 0, 0, 0), 4, 0), (258, .newarray .int, 2, (0, 0, 0, 0), 0, 0), (260, .putfield 93, 3, (45, 2, 12, 0), 0, 0), (263, .aload_n 0, 1, (0, 0, 0, 0), 0, 0), (264, .bipush 30, 2, (0, 0, 0, 0), 30, 0), (266, .newarray .int, 2, (0, 0, 0, 0), 0, 0), (268, .putfield 96, 3, (49, 2, 12, 0), 0, 0), (271, .aload_n 0, 1, (0, 0, 0, 0), 0, 0), (272, .bipush 120, 2, (0, 0, 0, 0), 120, 0), (274, .newarray .int, 2, (0, 0, 0, 0), 0, 0)]),
  (315, [(276, .putfield 99, 3, (53, 2, 12, 0), 0, 0), (279, .aload_n 0, 1, (0, 0, 0, 0), 0, 0), (280, .iconst 4, 1, (0, 0, 0, 0), 4, 0), (281, .newarray .int, 2, (0, 0, 0, 0), 0, 0), (283, .putfield 102, 3, (55, 2, 12, 0), 0, 0), (286, .iconst 1, 1, (0, 0, 0, 0), 1, 0), (287, .istore_n 1, 1, (1, 0, 0, 0), 0, 0), (288, .iload_n 1, 1, (1, 0, 0, 0), 0, 0), (289, .iconst 5, 1, (0, 0, 0, 0), 5, 0), (290, .if_icmp .ge 117, 3, (407, 0, 0, 0), 0, 0), (293, .iconst 0, 1, (0, 0, 0, 0), 0, 0), (294, .istore_n 2, 1, (2, 0, 0, 0), 0, 0), (295, .iload_n 2, 1, (2, 0, 0, 0), 0, 0), (296, .iconst 1, 1, (0, 0, 0, 0), 1, 0), (297, .iload_n 1, 1, (1, 0, 0, 0), 0, 0), (298, .invokestatic 105, 3, (159, 0, 1, 0), 0, 0), (301, .ishl, 1, (0, 0, 0, 0), 0, 0), (302, .if_icmp .ge 99, 3, (401, 0, 0, 0), 0, 0), (305, .iload_n 2, 1, (2, 0, 0, 0), 0, 0), (306, .istore_n 3, 1, (3, 0, 0, 0), 0, 0), (307, .iconst 0, 1, (0, 0, 0, 0), 0, 0), (308, .istore 4, 2, (4, 0, 0, 0), 0, 0), (310, .iload 4, 2, (4, 0, 0, 0), 0, 0), (312, .sipush 256, 3, (0, 0, 0, 0), 256, 0)]),
  (361, [(315, .if_icmp .ge 36, 3, (351, 0, 0, 0), 0, 0), (318, .iload_n 1, 1, (1, 0, 0, 0), 0, 0), (319, .iload_n 2, 1, (2, 0, 0, 0), 0, 0), (320, .iload 4, 2, (4, 0, 0, 0), 0, 0), (322, .invokestatic 109, 3, (161, 0, 3, 0), 0, 0), (325, .istore 5, 2, (5, 0, 0, 0), 0, 0), (327, .iload 5, 2, (5, 0, 0, 0), 0, 0), (329, .ifCond .lt 14, 3, (343, 0, 0, 0), 0, 0), (332, .iload 5, 2, (5, 0, 0, 0), 0, 0), (334, .iload_n 3, 1, (3, 0, 0, 0), 0, 0), (335, .if_icmp .ge 8, 3, (343, 0, 0, 0), 0, 0), (338, .iload 5, 2, (5, 0, 0, 0), 0, 0), (340, .goto 4, 3, (344, 0, 0, 0), 0, 0), (343, .iload_n 3, 1, (3, 0, 0, 0), 0, 0), (344, .istore_n 3, 1, (3, 0, 0, 0), 0, 0), (345, .iinc 4 1, 3, (4, 0, 0, 0), 1, 0), (348, .goto (-38), 3, (310, 0, 0, 0), 0, 0), (351, .aload_n 0, 1, (0, 0, 0, 0), 0, 0), (352, .getfield 32, 3, (10, 2, 12, 0), 0, 0), (355, .bipush 64, 2, (0, 0, 0, 0), 64, 0), (357, .iload_n 1, 1, (1, 0, 0, 0), 0, 0), (358, .imul, 1, (0, 0, 0, 0), 0, 0), (359, .iload_n 2, 1, (2, 0, 0, 0), 0, 0), (360, .iadd, 1, (0, 0, 0, 0), 0, 0)]),
  (394, [(361, .iload_n 3, 1, (3, 0, 0, 0), 0, 0), (362, .iastore, 1, (0, 0, 0, 0), 0, 0), (363, .iload_n 3, 1, (3, 0, 0, 0), 0, 0), (364, .iload_n 2, 1, (2, 0, 0, 0), 0, 0), (365, .if_icmp .ne 30, 3, (395, 0, 0, 0), 0, 0), (368, .aload_n 0, 1, (0, 0, 0, 0), 0, 0), (369, .getfield 35, 3, (11, 2, 12, 0), 0, 0), (372, .bipush 11, 2, (0, 0, 0, 0), 11, 0), (374, .iload_n 1, 1, (1, 0, 0, 0), 0, 0), (375, .imul, 1, (0, 0, 0, 0), 0, 0), (376, .aload_n 0, 1, (0, 0, 0, 0), 0, 0), (377, .getfield 38, 3, (12, 2, 12, 0), 0, 0), (380, .iload_n 1, 1, (1, 0, 0, 0), 0, 0), (381, .iaload, 1, (0, 0, 0, 0), 0, 0), (382, .iadd, 1, (0, 0, 0, 0), 0, 0), (383, .iload_n 2, 1, (2, 0, 0, 0), 0, 0), (384, .iastore, 1, (0, 0, 0, 0), 0, 0), (385, .aload_n 0, 1, (0, 0, 0, 0), 0, 0), (386, .getfield 38, 3, (12, 2, 12, 0), 0, 0), (389, .iload_n 1, 1, (1, 0, 0, 0), 0, 0), (390, .dup2, 1, (0, 0, 0, 0), 0, 0), (391, .iaload, 1, (0, 0, 0, 0), 0, 0), (392, .iconst 1, 1, (0, 0, 0, 0), 1, 0), (393, .iadd, 1, (0, 0, 0, 0), 0, 0)]),
  (1000000, [(394, .iastore, 1, (0, 0, 0, 0), 0, 0), (395, .iinc 2 1, 3, (2, 0, 0, 0), 1, 0), (398, .goto (-103), 3, (295, 0, 0, 0), 0, 0), (401, .iinc 1 1, 3, (1, 0, 0, 0), 1, 0), (404, .goto (-116), 3, (288, 0, 0, 0), 0, 0), (407, .return_, 1, (0, 0, 0, 0), 0, 0)])]
-- ShareNetsModel.in(III)Z
set_option maxRecDepth 100000 in
noncomputable def z_k158 : List (Nat × List (Nat × z_E)) := [(1000000, [(0, .iload_n 0, 1, (0, 0, 0, 0), 0, 0), (1, .iload_n 1, 1, (1, 0, 0, 0), 0, 0), (2, .if_icmp .lt 12, 3, (14, 0, 0, 0), 0, 0), (5, .iload_n 0, 1, (0, 0, 0, 0), 0, 0), (6, .iload_n 2, 1, (2, 0, 0, 0), 0, 0), (7, .if_icmp .gt 7, 3, (14, 0, 0, 0), 0, 0), (10, .iconst 1, 1, (0, 0, 0, 0), 1, 0), (11, .goto 4, 3, (15, 0, 0, 0), 0, 0), (14, .iconst 0, 1, (0, 0, 0, 0), 0, 0), (15, .ireturn, 1, (1, 0, 0, 0), 0, 0)])]
-- ShareNetsModel.pairsOf(I)I
set_option maxRecDepth 100000 in
noncomputable def z_k159 : List (Nat × List (Nat × z_E)) := [(1000000, [(0, .iload_n 0, 1, (0, 0, 0, 0), 0, 0), (1, .iload_n 0, 1, (0, 0, 0, 0), 0, 0), (2, .iconst 1, 1, (0, 0, 0, 0), 1, 0), (3, .isub, 1, (0, 0, 0, 0), 0, 0), (4, .imul, 1, (0, 0, 0, 0), 0, 0), (5, .iconst 2, 1, (0, 0, 0, 0), 2, 0), (6, .idiv, 1, (0, 0, 0, 0), 0, 0), (7, .ireturn, 1, (0, 0, 0, 0), 0, 0)])]
-- ShareNetsModel.bitOf(II)I
set_option maxRecDepth 100000 in
noncomputable def z_k160 : List (Nat × List (Nat × z_E)) := [(1000000, [(0, .iload_n 0, 1, (0, 0, 0, 0), 0, 0), (1, .iload_n 1, 1, (1, 0, 0, 0), 0, 0), (2, .if_icmp .ge 12, 3, (14, 0, 0, 0), 0, 0), (5, .iload_n 1, 1, (1, 0, 0, 0), 0, 0), (6, .invokestatic 105, 3, (159, 0, 1, 0), 0, 0), (9, .iload_n 0, 1, (0, 0, 0, 0), 0, 0), (10, .iadd, 1, (0, 0, 0, 0), 0, 0), (11, .goto 9, 3, (20, 0, 0, 0), 0, 0), (14, .iload_n 0, 1, (0, 0, 0, 0), 0, 0), (15, .invokestatic 105, 3, (159, 0, 1, 0), 0, 0), (18, .iload_n 1, 1, (1, 0, 0, 0), 0, 0), (19, .iadd, 1, (0, 0, 0, 0), 0, 0), (20, .ireturn, 1, (0, 0, 0, 0), 0, 0)])]
-- ShareNetsModel.ordered(III)I
set_option maxRecDepth 100000 in
noncomputable def z_k161 : List (Nat × List (Nat × z_E)) := [(37, [(0, .iconst 0, 1, (0, 0, 0, 0), 0, 0), (1, .istore_n 3, 1, (3, 0, 0, 0), 0, 0), (2, .iconst 0, 1, (0, 0, 0, 0), 0, 0), (3, .istore 4, 2, (4, 0, 0, 0), 0, 0), (5, .iload 4, 2, (4, 0, 0, 0), 0, 0), (7, .iconst 4, 1, (0, 0, 0, 0), 4, 0), (8, .if_icmp .ge 68, 3, (76, 0, 0, 0), 0, 0), (11, .iload_n 2, 1, (2, 0, 0, 0), 0, 0), (12, .iconst 2, 1, (0, 0, 0, 0), 2, 0), (13, .iload 4, 2, (4, 0, 0, 0), 0, 0), (15, .imul, 1, (0, 0, 0, 0), 0, 0), (16, .ishr, 1, (0, 0, 0, 0), 0, 0), (17, .iconst 3, 1, (0, 0, 0, 0), 3, 0), (18, .iand, 1, (0, 0, 0, 0), 0, 0), (19, .istore 5, 2, (5, 0, 0, 0), 0, 0), (21, .iload 4, 2, (4, 0, 0, 0), 0, 0), (23, .iload_n 0, 1, (0, 0, 0, 0), 0, 0), (24, .if_icmp .ge 22, 3, (46, 0, 0, 0), 0, 0), (27, .iload 5, 2, (5, 0, 0, 0), 0, 0), (29, .iload_n 0, 1, (0, 0, 0, 0), 0, 0), (30, .if_icmp .ge 21, 3, (51, 0, 0, 0), 0, 0), (33, .iload_n 3, 1, (3, 0, 0, 0), 0, 0), (34, .iload 5, 2, (5, 0, 0, 0), 0, 0), (36, .ishr, 1, (0, 0, 0, 0), 0, 0)]),
  (79, [(37, .iconst 1, 1, (0, 0, 0, 0), 1, 0), (38, .iand, 1, (0, 0, 0, 0), 0, 0), (39, .iconst 1, 1, (0, 0, 0, 0), 1, 0), (40, .if_icmp .ne 13, 3, (53, 0, 0, 0), 0, 0), (43, .goto 8, 3, (51, 0, 0, 0), 0, 0), (46, .iload 5, 2, (5, 0, 0, 0), 0, 0), (48, .ifCond .eq 5, 3, (53, 0, 0, 0), 0, 0), (51, .iconst (-1), 1, (0, 0, 0, 0), (-1), 0), (52, .ireturn, 1, (0, 0, 0, 0), 0, 0), (53, .iload_n 3, 1, (3, 0, 0, 0), 0, 0), (54, .iload 4, 2, (4, 0, 0, 0), 0, 0), (56, .iload_n 0, 1, (0, 0, 0, 0), 0, 0), (57, .if_icmp .ge 10, 3, (67, 0, 0, 0), 0, 0), (60, .iconst 1, 1, (0, 0, 0, 0), 1, 0), (61, .iload 5, 2, (5, 0, 0, 0), 0, 0), (63, .ishl, 1, (0, 0, 0, 0), 0, 0), (64, .goto 4, 3, (68, 0, 0, 0), 0, 0), (67, .iconst 0, 1, (0, 0, 0, 0), 0, 0), (68, .ior, 1, (0, 0, 0, 0), 0, 0), (69, .istore_n 3, 1, (3, 0, 0, 0), 0, 0), (70, .iinc 4 1, 3, (4, 0, 0, 0), 1, 0), (73, .goto (-68), 3, (5, 0, 0, 0), 0, 0), (76, .iconst 0, 1, (0, 0, 0, 0), 0, 0), (77, .istore 4, 2, (4, 0, 0, 0), 0, 0)]),
  (115, [(79, .iconst 1, 1, (0, 0, 0, 0), 1, 0), (80, .istore 5, 2, (5, 0, 0, 0), 0, 0), (82, .iload 5, 2, (5, 0, 0, 0), 0, 0), (84, .iload_n 0, 1, (0, 0, 0, 0), 0, 0), (85, .if_icmp .ge 61, 3, (146, 0, 0, 0), 0, 0), (88, .iconst 0, 1, (0, 0, 0, 0), 0, 0), (89, .istore 6, 2, (6, 0, 0, 0), 0, 0), (91, .iload 6, 2, (6, 0, 0, 0), 0, 0), (93, .iload 5, 2, (5, 0, 0, 0), 0, 0), (95, .if_icmp .ge 45, 3, (140, 0, 0, 0), 0, 0), (98, .iload 4, 2, (4, 0, 0, 0), 0, 0), (100, .iload_n 1, 1, (1, 0, 0, 0), 0, 0), (101, .iload_n 2, 1, (2, 0, 0, 0), 0, 0), (102, .iconst 2, 1, (0, 0, 0, 0), 2, 0), (103, .iload 6, 2, (6, 0, 0, 0), 0, 0), (105, .imul, 1, (0, 0, 0, 0), 0, 0), (106, .ishr, 1, (0, 0, 0, 0), 0, 0), (107, .iconst 3, 1, (0, 0, 0, 0), 3, 0), (108, .iand, 1, (0, 0, 0, 0), 0, 0), (109, .iload_n 2, 1, (2, 0, 0, 0), 0, 0), (110, .iconst 2, 1, (0, 0, 0, 0), 2, 0), (111, .iload 5, 2, (5, 0, 0, 0), 0, 0), (113, .imul, 1, (0, 0, 0, 0), 0, 0), (114, .ishr, 1, (0, 0, 0, 0), 0, 0)]),
  (1000000, [(115, .iconst 3, 1, (0, 0, 0, 0), 3, 0), (116, .iand, 1, (0, 0, 0, 0), 0, 0), (117, .invokestatic 113, 3, (160, 0, 2, 0), 0, 0), (120, .ishr, 1, (0, 0, 0, 0), 0, 0), (121, .iconst 1, 1, (0, 0, 0, 0), 1, 0), (122, .iand, 1, (0, 0, 0, 0), 0, 0), (123, .iload 6, 2, (6, 0, 0, 0), 0, 0), (125, .iload 5, 2, (5, 0, 0, 0), 0, 0), (127, .invokestatic 113, 3, (160, 0, 2, 0), 0, 0), (130, .ishl, 1, (0, 0, 0, 0), 0, 0), (131, .ior, 1, (0, 0, 0, 0), 0, 0), (132, .istore 4, 2, (4, 0, 0, 0), 0, 0), (134, .iinc 6 1, 3, (6, 0, 0, 0), 1, 0), (137, .goto (-46), 3, (91, 0, 0, 0), 0, 0), (140, .iinc 5 1, 3, (5, 0, 0, 0), 1, 0), (143, .goto (-61), 3, (82, 0, 0, 0), 0, 0), (146, .iload 4, 2, (4, 0, 0, 0), 0, 0), (148, .ireturn, 1, (0, 0, 0, 0), 0, 0)])]
-- ShareNetsModel.isNet(I)Z
set_option maxRecDepth 100000 in
noncomputable def z_k162 : List (Nat × List (Nat × z_E)) := [(1000000, [(0, .iload_n 0, 1, (0, 0, 0, 0), 0, 0), (1, .iconst 0, 1, (0, 0, 0, 0), 0, 0), (2, .iconst 3, 1, (0, 0, 0, 0), 3, 0), (3, .invokestatic 117, 3, (158, 0, 3, 0), 0, 0), (6, .ireturn, 1, (1, 0, 0, 0), 0, 0)])]
-- ShareNetsModel.isSide(I)Z
set_option maxRecDepth 100000 in
noncomputable def z_k163 : List (Nat × List (Nat × z_E)) := [(1000000, [(0, .iload_n 0, 1, (0, 0, 0, 0), 0, 0), (1, .iconst 0, 1, (0, 0, 0, 0), 0, 0), (2, .iconst 1, 1, (0, 0, 0, 0), 1, 0), (3, .invokestatic 117, 3, (158, 0, 3, 0), 0, 0), (6, .ireturn, 1, (1, 0, 0, 0), 0, 0)])]
-- ShareNetsModel.isPost(II)Z
set_option maxRecDepth 100000 in
noncomputable def z_k164 : List (Nat × List (Nat × z_E)) := [(1000000, [(0, .iload_n 2, 1, (2, 0, 0, 0), 0, 0), (1, .iconst 0, 1, (0, 0, 0, 0), 0, 0), (2, .aload_n 0, 1, (0, 0, 0, 0), 0, 0), (3, .getfield 7, 3, (0, 2, 12, 0), 0, 0), (6, .iload_n 1, 1, (1, 0, 0, 0), 0, 0), (7, .iaload, 1, (0, 0, 0, 0), 0, 0), (8, .iconst 1, 1, (0, 0, 0, 0), 1, 0), (9, .isub, 1, (0, 0, 0, 0), 0, 0), (10, .invokestatic 117, 3, (158, 0, 3, 0), 0, 0), (13, .ireturn, 1, (1, 0, 0, 0), 0, 0)])]
-- ShareNetsModel.isCode(II)Z
set_option maxRecDepth 100000 in
noncomputable def z_k165 : List (Nat × List (Nat × z_E)) := [(42, [(0, .iload_n 0, 1, (0, 0, 0, 0), 0, 0), (1, .iconst 1, 1, (0, 0, 0, 0), 1, 0), (2, .iconst 4, 1, (0, 0, 0, 0), 4, 0), (3, .invokestatic 117, 3, (158, 0, 3, 0), 0, 0), (6, .ifCond .eq 36, 3, (42, 0, 0, 0), 0, 0), (9, .iload_n 1, 1, (1, 0, 0, 0), 0, 0), (10, .iconst 0, 1, (0, 0, 0, 0), 0, 0), (11, .iconst 1, 1, (0, 0, 0, 0), 1, 0), (12, .iload_n 0, 1, (0, 0, 0, 0), 0, 0), (13, .iconst 1, 1, (0, 0, 0, 0), 1, 0), (14, .iconst 4, 1, (0, 0, 0, 0), 4, 0), (15, .invokestatic 117, 3, (158, 0, 3, 0), 0, 0), (18, .ifCond .eq 7, 3, (25, 0, 0, 0), 0, 0), (21, .iload_n 0, 1, (0, 0, 0, 0), 0, 0), (22, .goto 4, 3, (26, 0, 0, 0), 0, 0), (25, .iconst 1, 1, (0, 0, 0, 0), 1, 0), (26, .invokestatic 105, 3, (159, 0, 1, 0), 0, 0), (29, .ishl, 1, (0, 0, 0, 0), 0, 0), (30, .iconst 1, 1, (0, 0, 0, 0), 1, 0), (31, .isub, 1, (0, 0, 0, 0), 0, 0), (32, .invokestatic 117, 3, (158, 0, 3, 0), 0, 0), (35, .ifCond .eq 7, 3, (42, 0, 0, 0), 0, 0), (38, .iconst 1, 1, (0, 0, 0, 0), 1, 0), (39, .goto 4, 3, (43, 0, 0, 0), 0, 0)]),
  (1000000, [(42, .iconst 0, 1, (0, 0, 0, 0), 0, 0), (43, .ireturn, 1, (1, 0, 0, 0), 0, 0)])]
-- ShareNetsModel.isForm(II)Z
set_option maxRecDepth 100000 in
noncomputable def z_k166 : List (Nat × List (Nat × z_E)) := [(1000000, [(0, .iload_n 1, 1, (1, 0, 0, 0), 0, 0), (1, .iload_n 2, 1, (2, 0, 0, 0), 0, 0), (2, .invokestatic 121, 3, (165, 0, 2, 0), 0, 0), (5, .ifCond .eq 22, 3, (27, 0, 0, 0), 0, 0), (8, .aload_n 0, 1, (0, 0, 0, 0), 0, 0), (9, .getfield 32, 3, (10, 2, 12, 0), 0, 0), (12, .bipush 64, 2, (0, 0, 0, 0), 64, 0), (14, .iload_n 1, 1, (1, 0, 0, 0), 0, 0), (15, .imul, 1, (0, 0, 0, 0), 0, 0), (16, .iload_n 2, 1, (2, 0, 0, 0), 0, 0), (17, .iadd, 1, (0, 0, 0, 0), 0, 0), (18, .iaload, 1, (0, 0, 0, 0), 0, 0), (19, .iload_n 2, 1, (2, 0, 0, 0), 0, 0), (20, .if_icmp .ne 7, 3, (27, 0, 0, 0), 0, 0), (23, .iconst 1, 1, (0, 0, 0, 0), 1, 0), (24, .goto 4, 3, (28, 0, 0, 0), 0, 0), (27, .iconst 0, 1, (0, 0, 0, 0), 0, 0), (28, .ireturn, 1, (1, 0, 0, 0), 0, 0)])]
-- ShareNetsModel.isRoad(III)Z
set_option maxRecDepth 100000 in
noncomputable def z_k167 : List (Nat × List (Nat × z_E)) := [(1000000, [(0, .aload_n 0, 1, (0, 0, 0, 0), 0, 0), (1, .getfield 13, 3, (1, 2, 12, 0), 0, 0), (4, .bipush 10, 2, (0, 0, 0, 0), 10, 0), (6, .iload_n 1, 1, (1, 0, 0, 0), 0, 0), (7, .imul, 1, (0, 0, 0, 0), 0, 0), (8, .iload_n 2, 1, (2, 0, 0, 0), 0, 0), (9, .iadd, 1, (0, 0, 0, 0), 0, 0), (10, .iaload, 1, (0, 0, 0, 0), 0, 0), (11, .iload_n 3, 1, (3, 0, 0, 0), 0, 0), (12, .ishr, 1, (0, 0, 0, 0), 0, 0), (13, .iconst 1, 1, (0, 0, 0, 0), 1, 0), (14, .iand, 1, (0, 0, 0, 0), 0, 0), (15, .iconst 1, 1, (0, 0, 0, 0), 1, 0), (16, .if_icmp .ne 7, 3, (23, 0, 0, 0), 0, 0), (19, .iconst 1, 1, (0, 0, 0, 0), 1, 0), (20, .goto 4, 3, (24, 0, 0, 0), 0, 0), (23, .iconst 0, 1, (0, 0, 0, 0), 0, 0), (24, .ireturn, 1, (1, 0, 0, 0), 0, 0)])]
-- ShareNetsModel.setRoad(IIIZ)V
set_option maxRecDepth 100000 in
noncomputable def z_k168 : List (Nat × List (Nat × z_E)) := [(37, [(0, .aload_n 0, 1, (0, 0, 0, 0), 0, 0), (1, .getfield 13, 3, (1, 2, 12, 0), 0, 0), (4, .bipush 10, 2, (0, 0, 0, 0), 10, 0), (6, .iload_n 1, 1, (1, 0, 0, 0), 0, 0), (7, .imul, 1, (0, 0, 0, 0), 0, 0), (8, .iload_n 2, 1, (2, 0, 0, 0), 0, 0), (9, .iadd, 1, (0, 0, 0, 0), 0, 0), (10, .iload 4, 2, (4, 0, 0, 0), 0, 0), (12, .ifCond .eq 21, 3, (33, 0, 0, 0), 0, 0), (15, .aload_n 0, 1, (0, 0, 0, 0), 0, 0), (16, .getfield 13, 3, (1, 2, 12, 0), 0, 0), (19, .bipush 10, 2, (0, 0, 0, 0), 10, 0), (21, .iload_n 1, 1, (1, 0, 0, 0), 0, 0), (22, .imul, 1, (0, 0, 0, 0), 0, 0), (23, .iload_n 2, 1, (2, 0, 0, 0), 0, 0), (24, .iadd, 1, (0, 0, 0, 0), 0, 0), (25, .iaload, 1, (0, 0, 0, 0), 0, 0), (26, .iconst 1, 1, (0, 0, 0, 0), 1, 0), (27, .iload_n 3, 1, (3, 0, 0, 0), 0, 0), (28, .ishl, 1, (0, 0, 0, 0), 0, 0), (29, .ior, 1, (0, 0, 0, 0), 0, 0), (30, .goto 20, 3, (50, 0, 0, 0), 0, 0), (33, .aload_n 0, 1, (0, 0, 0, 0), 0, 0), (34, .getfield 13, 3, (1, 2, 12, 0), 0, 0)]),
  (70, [(37, .bipush 10, 2, (0, 0, 0, 0), 10, 0), (39, .iload_n 1, 1, (1, 0, 0, 0), 0, 0), (40, .imul, 1, (0, 0, 0, 0), 0, 0), (41, .iload_n 2, 1, (2, 0, 0, 0), 0, 0), (42, .iadd, 1, (0, 0, 0, 0), 0, 0), (43, .iaload, 1, (0, 0, 0, 0), 0, 0), (44, .iconst 1, 1, (0, 0, 0, 0), 1, 0), (45, .iload_n 3, 1, (3, 0, 0, 0), 0, 0), (46, .ishl, 1, (0, 0, 0, 0), 0, 0), (47, .iconst (-1), 1, (0, 0, 0, 0), (-1), 0), (48, .ixor, 1, (0, 0, 0, 0), 0, 0), (49, .iand, 1, (0, 0, 0, 0), 0, 0), (50, .iastore, 1, (0, 0, 0, 0), 0, 0), (51, .aload_n 0, 1, (0, 0, 0, 0), 0, 0), (52, .getfield 13, 3, (1, 2, 12, 0), 0, 0), (55, .bipush 10, 2, (0, 0, 0, 0), 10, 0), (57, .iload_n 1, 1, (1, 0, 0, 0), 0, 0), (58, .imul, 1, (0, 0, 0, 0), 0, 0), (59, .iload_n 3, 1, (3, 0, 0, 0), 0, 0), (60, .iadd, 1, (0, 0, 0, 0), 0, 0), (61, .iload 4, 2, (4, 0, 0, 0), 0, 0), (63, .ifCond .eq 21, 3, (84, 0, 0, 0), 0, 0), (66, .aload_n 0, 1, (0, 0, 0, 0), 0, 0), (67, .getfield 13, 3, (1, 2, 12, 0), 0, 0)]),
  (100, [(70, .bipush 10, 2, (0, 0, 0, 0), 10, 0), (72, .iload_n 1, 1, (1, 0, 0, 0), 0, 0), (73, .imul, 1, (0, 0, 0, 0), 0, 0), (74, .iload_n 3, 1, (3, 0, 0, 0), 0, 0), (75, .iadd, 1, (0, 0, 0, 0), 0, 0), (76, .iaload, 1, (0, 0, 0, 0), 0, 0), (77, .iconst 1, 1, (0, 0, 0, 0), 1, 0), (78, .iload_n 2, 1, (2, 0, 0, 0), 0, 0), (79, .ishl, 1, (0, 0, 0, 0), 0, 0), (80, .ior, 1, (0, 0, 0, 0), 0, 0), (81, .goto 20, 3, (101, 0, 0, 0), 0, 0), (84, .aload_n 0, 1, (0, 0, 0, 0), 0, 0), (85, .getfield 13, 3, (1, 2, 12, 0), 0, 0), (88, .bipush 10, 2, (0, 0, 0, 0), 10, 0), (90, .iload_n 1, 1, (1, 0, 0, 0), 0, 0), (91, .imul, 1, (0, 0, 0, 0), 0, 0), (92, .iload_n 3, 1, (3, 0, 0, 0), 0, 0), (93, .iadd, 1, (0, 0, 0, 0), 0, 0), (94, .iaload, 1, (0, 0, 0, 0), 0, 0), (95, .iconst 1, 1, (0, 0, 0, 0), 1, 0), (96, .iload_n 2, 1, (2, 0, 0, 0), 0, 0), (97, .ishl, 1, (0, 0, 0, 0), 0, 0), (98, .iconst (-1), 1, (0, 0, 0, 0), (-1), 0), (99, .ixor, 1, (0, 0, 0, 0), 0, 0)]),
  (1000000, [(100, .iand, 1, (0, 0, 0, 0), 0, 0), (101, .iastore, 1, (0, 0, 0, 0), 0, 0), (102, .return_, 1, (0, 0, 0, 0), 0, 0)])]
-- ShareNetsModel.clear(II)V
set_option maxRecDepth 100000 in
noncomputable def z_k169 : List (Nat × List (Nat × z_E)) := [(1000000, [(0, .aload_n 0, 1, (0, 0, 0, 0), 0, 0), (1, .getfield 7, 3, (0, 2, 12, 0), 0, 0), (4, .iload_n 1, 1, (1, 0, 0, 0), 0, 0), (5, .iload_n 2, 1, (2, 0, 0, 0), 0, 0), (6, .iastore, 1, (0, 0, 0, 0), 0, 0), (7, .iconst 0, 1, (0, 0, 0, 0), 0, 0), (8, .istore_n 3, 1, (3, 0, 0, 0), 0, 0), (9, .iload_n 3, 1, (3, 0, 0, 0), 0, 0), (10, .bipush 10, 2, (0, 0, 0, 0), 10, 0), (12, .if_icmp .ge 21, 3, (33, 0, 0, 0), 0, 0), (15, .aload_n 0, 1, (0, 0, 0, 0), 0, 0), (16, .getfield 13, 3, (1, 2, 12, 0), 0, 0), (19, .bipush 10, 2, (0, 0, 0, 0), 10, 0), (21, .iload_n 1, 1, (1, 0, 0, 0), 0, 0), (22, .imul, 1, (0, 0, 0, 0), 0, 0), (23, .iload_n 3, 1, (3, 0, 0, 0), 0, 0), (24, .iadd, 1, (0, 0, 0, 0), 0, 0), (25, .iconst 0, 1, (0, 0, 0, 0), 0, 0), (26, .iastore, 1, (0, 0, 0, 0), 0, 0), (27, .iinc 3 1, 3, (3, 0, 0, 0), 1, 0), (30, .goto (-21), 3, (9, 0, 0, 0), 0, 0), (33, .return_, 1, (0, 0, 0, 0), 0, 0)])]
-- ShareNetsModel.ones(I)I
set_option maxRecDepth 100000 in
noncomputable def z_k170 : List (Nat × List (Nat × z_E)) := [(1000000, [(0, .iconst 0, 1, (0, 0, 0, 0), 0, 0), (1, .istore_n 1, 1, (1, 0, 0, 0), 0, 0), (2, .iload_n 0, 1, (0, 0, 0, 0), 0, 0), (3, .istore_n 2, 1, (2, 0, 0, 0), 0, 0), (4, .iload_n 2, 1, (2, 0, 0, 0), 0, 0), (5, .ifCond .eq 15, 3, (20, 0, 0, 0), 0, 0), (8, .iinc 1 1, 3, (1, 0, 0, 0), 1, 0), (11, .iload_n 2, 1, (2, 0, 0, 0), 0, 0), (12, .iload_n 2, 1, (2, 0, 0, 0), 0, 0), (13, .iconst 1, 1, (0, 0, 0, 0), 1, 0), (14, .isub, 1, (0, 0, 0, 0), 0, 0), (15, .iand, 1, (0, 0, 0, 0), 0, 0), (16, .istore_n 2, 1, (2, 0, 0, 0), 0, 0), (17, .goto (-13), 3, (4, 0, 0, 0), 0, 0), (20, .iload_n 1, 1, (1, 0, 0, 0), 0, 0), (21, .ireturn, 1, (0, 0, 0, 0), 0, 0)])]
-- ShareNetsModel.roadsOf(I)I
set_option maxRecDepth 100000 in
noncomputable def z_k171 : List (Nat × List (Nat × z_E)) := [(37, [(0, .iconst 0, 1, (0, 0, 0, 0), 0, 0), (1, .istore_n 2, 1, (2, 0, 0, 0), 0, 0), (2, .iconst 0, 1, (0, 0, 0, 0), 0, 0), (3, .istore_n 3, 1, (3, 0, 0, 0), 0, 0), (4, .iload_n 3, 1, (3, 0, 0, 0), 0, 0), (5, .aload_n 0, 1, (0, 0, 0, 0), 0, 0), (6, .getfield 7, 3, (0, 2, 12, 0), 0, 0), (9, .iload_n 1, 1, (1, 0, 0, 0), 0, 0), (10, .iaload, 1, (0, 0, 0, 0), 0, 0), (11, .if_icmp .ge 26, 3, (37, 0, 0, 0), 0, 0), (14, .iload_n 2, 1, (2, 0, 0, 0), 0, 0), (15, .aload_n 0, 1, (0, 0, 0, 0), 0, 0), (16, .getfield 13, 3, (1, 2, 12, 0), 0, 0), (19, .bipush 10, 2, (0, 0, 0, 0), 10, 0), (21, .iload_n 1, 1, (1, 0, 0, 0), 0, 0), (22, .imul, 1, (0, 0, 0, 0), 0, 0), (23, .iload_n 3, 1, (3, 0, 0, 0), 0, 0), (24, .iadd, 1, (0, 0, 0, 0), 0, 0), (25, .iaload, 1, (0, 0, 0, 0), 0, 0), (26, .invokestatic 125, 3, (170, 0, 1, 0), 0, 0), (29, .iadd, 1, (0, 0, 0, 0), 0, 0), (30, .istore_n 2, 1, (2, 0, 0, 0), 0, 0), (31, .iinc 3 1, 3, (3, 0, 0, 0), 1, 0), (34, .goto (-30), 3, (4, 0, 0, 0), 0, 0)]),
  (1000000, [(37, .iload_n 2, 1, (2, 0, 0, 0), 0, 0), (38, .iconst 2, 1, (0, 0, 0, 0), 2, 0), (39, .idiv, 1, (0, 0, 0, 0), 0, 0), (40, .ireturn, 1, (0, 0, 0, 0), 0, 0)])]
-- ShareNetsModel.feed(JI)I
set_option maxRecDepth 100000 in
noncomputable def z_k172 : List (Nat × List (Nat × z_E)) := [(44, [(0, .iload_n 3, 1, (3, 0, 0, 0), 0, 0), (1, .iconst 1, 1, (0, 0, 0, 0), 1, 0), (2, .bipush 8, 2, (0, 0, 0, 0), 8, 0), (4, .invokestatic 117, 3, (158, 0, 3, 0), 0, 0), (7, .ifCond .ne 5, 3, (12, 0, 0, 0), 0, 0), (10, .iconst (-1), 1, (0, 0, 0, 0), (-1), 0), (11, .ireturn, 1, (0, 0, 0, 0), 0, 0), (12, .aload_n 0, 1, (0, 0, 0, 0), 0, 0), (13, .getfield 128, 3, (14, 0, 12, 0), 0, 0), (16, .iload_n 3, 1, (3, 0, 0, 0), 0, 0), (17, .iadd, 1, (0, 0, 0, 0), 0, 0), (18, .sipush 160, 3, (0, 0, 0, 0), 160, 0), (21, .if_icmp .le 6, 3, (27, 0, 0, 0), 0, 0), (24, .bipush (-2), 2, (0, 0, 0, 0), (-2), 0), (26, .ireturn, 1, (0, 0, 0, 0), 0, 0), (27, .iconst 0, 1, (0, 0, 0, 0), 0, 0), (28, .istore 4, 2, (4, 0, 0, 0), 0, 0), (30, .iload 4, 2, (4, 0, 0, 0), 0, 0), (32, .iload_n 3, 1, (3, 0, 0, 0), 0, 0), (33, .if_icmp .ge 40, 3, (73, 0, 0, 0), 0, 0), (36, .aload_n 0, 1, (0, 0, 0, 0), 0, 0), (37, .getfield 41, 3, (13, 2, 12, 0), 0, 0), (40, .aload_n 0, 1, (0, 0, 0, 0), 0, 0), (41, .getfield 128, 3, (14, 0, 12, 0), 0, 0)]),
  (1000000, [(44, .lload_n 1, 1, (1, 0, 0, 0), 0, 0), (45, .bipush 8, 2, (0, 0, 0, 0), 8, 0), (47, .iload 4, 2, (4, 0, 0, 0), 0, 0), (49, .imul, 1, (0, 0, 0, 0), 0, 0), (50, .lshr, 1, (0, 0, 0, 0), 0, 0), (51, .ldc2_w 131, 3, (0, 0, 0, 0), 0, 255), (54, .land, 1, (0, 0, 0, 0), 0, 0), (55, .l2i, 1, (0, 0, 0, 0), 0, 0), (56, .iastore, 1, (0, 0, 0, 0), 0, 0), (57, .aload_n 0, 1, (0, 0, 0, 0), 0, 0), (58, .dup, 1, (0, 0, 0, 0), 0, 0), (59, .getfield 128, 3, (14, 0, 12, 0), 0, 0), (62, .iconst 1, 1, (0, 0, 0, 0), 1, 0), (63, .iadd, 1, (0, 0, 0, 0), 0, 0), (64, .putfield 128, 3, (14, 0, 12, 0), 0, 0), (67, .iinc 4 1, 3, (4, 0, 0, 0), 1, 0), (70, .goto (-40), 3, (30, 0, 0, 0), 0, 0), (73, .aload_n 0, 1, (0, 0, 0, 0), 0, 0), (74, .getfield 128, 3, (14, 0, 12, 0), 0, 0), (77, .ireturn, 1, (0, 0, 0, 0), 0, 0)])]
-- ShareNetsModel.byteAt(I)I
set_option maxRecDepth 100000 in
noncomputable def z_k173 : List (Nat × List (Nat × z_E)) := [(1000000, [(0, .iload_n 1, 1, (1, 0, 0, 0), 0, 0), (1, .aload_n 0, 1, (0, 0, 0, 0), 0, 0), (2, .getfield 128, 3, (14, 0, 12, 0), 0, 0), (5, .if_icmp .ge 12, 3, (17, 0, 0, 0), 0, 0), (8, .aload_n 0, 1, (0, 0, 0, 0), 0, 0), (9, .getfield 41, 3, (13, 2, 12, 0), 0, 0), (12, .iload_n 1, 1, (1, 0, 0, 0), 0, 0), (13, .iaload, 1, (0, 0, 0, 0), 0, 0), (14, .goto 4, 3, (18, 0, 0, 0), 0, 0), (17, .iconst (-1), 1, (0, 0, 0, 0), (-1), 0), (18, .ireturn, 1, (0, 0, 0, 0), 0, 0)])]
-- ShareNetsModel.isLetter(I)Z
set_option maxRecDepth 100000 in
noncomputable def z_k174 : List (Nat × List (Nat × z_E)) := [(1000000, [(0, .iload_n 0, 1, (0, 0, 0, 0), 0, 0), (1, .bipush 97, 2, (0, 0, 0, 0), 97, 0), (3, .bipush 122, 2, (0, 0, 0, 0), 122, 0), (5, .invokestatic 117, 3, (158, 0, 3, 0), 0, 0), (8, .ireturn, 1, (1, 0, 0, 0), 0, 0)])]
-- ShareNetsModel.isDigit(I)Z
set_option maxRecDepth 100000 in
noncomputable def z_k175 : List (Nat × List (Nat × z_E)) := [(1000000, [(0, .iload_n 0, 1, (0, 0, 0, 0), 0, 0), (1, .bipush 48, 2, (0, 0, 0, 0), 48, 0), (3, .bipush 57, 2, (0, 0, 0, 0), 57, 0), (5, .invokestatic 117, 3, (158, 0, 3, 0), 0, 0), (8, .ireturn, 1, (1, 0, 0, 0), 0, 0)])]
-- ShareNetsModel.advance()V
set_option maxRecDepth 100000 in
noncomputable def z_k176 : List (Nat × List (Nat × z_E)) := [(47, [(0, .aload_n 0, 1, (0, 0, 0, 0), 0, 0), (1, .aload_n 0, 1, (0, 0, 0, 0), 0, 0), (2, .getfield 133, 3, (17, 0, 12, 0), 0, 0), (5, .putfield 136, 3, (16, 0, 12, 0), 0, 0), (8, .aload_n 0, 1, (0, 0, 0, 0), 0, 0), (9, .aload_n 0, 1, (0, 0, 0, 0), 0, 0), (10, .getfield 136, 3, (16, 0, 12, 0), 0, 0), (13, .invokevirtual 139, 3, (173, 4, 1, 0), 0, 0), (16, .bipush 32, 2, (0, 0, 0, 0), 32, 0), (18, .if_icmp .ne 16, 3, (34, 0, 0, 0), 0, 0), (21, .aload_n 0, 1, (0, 0, 0, 0), 0, 0), (22, .dup, 1, (0, 0, 0, 0), 0, 0), (23, .getfield 136, 3, (16, 0, 12, 0), 0, 0), (26, .iconst 1, 1, (0, 0, 0, 0), 1, 0), (27, .iadd, 1, (0, 0, 0, 0), 0, 0), (28, .putfield 136, 3, (16, 0, 12, 0), 0, 0), (31, .goto (-23), 3, (8, 0, 0, 0), 0, 0), (34, .aload_n 0, 1, (0, 0, 0, 0), 0, 0), (35, .aload_n 0, 1, (0, 0, 0, 0), 0, 0), (36, .getfield 136, 3, (16, 0, 12, 0), 0, 0), (39, .putfield 133, 3, (17, 0, 12, 0), 0, 0), (42, .aload_n 0, 1, (0, 0, 0, 0), 0, 0), (43, .aload_n 0, 1, (0, 0, 0, 0), 0, 0), (44, .getfield 136, 3, (16, 0, 12, 0), 0, 0)]),
  (93, [(47, .invokevirtual 139, 3, (173, 4, 1, 0), 0, 0), (50, .istore_n 1, 1, (1, 0, 0, 0), 0, 0), (51, .aload_n 0, 1, (0, 0, 0, 0), 0, 0), (52, .iload_n 1, 1, (1, 0, 0, 0), 0, 0), (53, .ifCond .ge 7, 3, (60, 0, 0, 0), 0, 0), (56, .iconst 0, 1, (0, 0, 0, 0), 0, 0), (57, .goto 26, 3, (83, 0, 0, 0), 0, 0), (60, .iload_n 1, 1, (1, 0, 0, 0), 0, 0), (61, .invokestatic 142, 3, (174, 0, 1, 0), 0, 0), (64, .ifCond .eq 7, 3, (71, 0, 0, 0), 0, 0), (67, .iconst 1, 1, (0, 0, 0, 0), 1, 0), (68, .goto 15, 3, (83, 0, 0, 0), 0, 0), (71, .iload_n 1, 1, (1, 0, 0, 0), 0, 0), (72, .invokestatic 146, 3, (175, 0, 1, 0), 0, 0), (75, .ifCond .eq 7, 3, (82, 0, 0, 0), 0, 0), (78, .iconst 2, 1, (0, 0, 0, 0), 2, 0), (79, .goto 4, 3, (83, 0, 0, 0), 0, 0), (82, .iconst 3, 1, (0, 0, 0, 0), 3, 0), (83, .putfield 149, 3, (15, 0, 12, 0), 0, 0), (86, .aload_n 0, 1, (0, 0, 0, 0), 0, 0), (87, .lconst 0, 1, (0, 0, 0, 0), 0, 0), (88, .putfield 152, 3, (18, 1, 12, 0), 0, 0), (91, .aload_n 0, 1, (0, 0, 0, 0), 0, 0), (92, .aload_n 0, 1, (0, 0, 0, 0), 0, 0)]),
  (139, [(93, .getfield 149, 3, (15, 0, 12, 0), 0, 0), (96, .iconst 2, 1, (0, 0, 0, 0), 2, 0), (97, .if_icmp .ne 7, 3, (104, 0, 0, 0), 0, 0), (100, .iconst 0, 1, (0, 0, 0, 0), 0, 0), (101, .goto 4, 3, (105, 0, 0, 0), 0, 0), (104, .iload_n 1, 1, (1, 0, 0, 0), 0, 0), (105, .putfield 156, 3, (19, 0, 12, 0), 0, 0), (108, .aload_n 0, 1, (0, 0, 0, 0), 0, 0), (109, .getfield 149, 3, (15, 0, 12, 0), 0, 0), (112, .iconst 3, 1, (0, 0, 0, 0), 3, 0), (113, .if_icmp .ne 13, 3, (126, 0, 0, 0), 0, 0), (116, .aload_n 0, 1, (0, 0, 0, 0), 0, 0), (117, .dup, 1, (0, 0, 0, 0), 0, 0), (118, .getfield 133, 3, (17, 0, 12, 0), 0, 0), (121, .iconst 1, 1, (0, 0, 0, 0), 1, 0), (122, .iadd, 1, (0, 0, 0, 0), 0, 0), (123, .putfield 133, 3, (17, 0, 12, 0), 0, 0), (126, .aload_n 0, 1, (0, 0, 0, 0), 0, 0), (127, .getfield 149, 3, (15, 0, 12, 0), 0, 0), (130, .iconst 1, 1, (0, 0, 0, 0), 1, 0), (131, .if_icmp .ne 76, 3, (207, 0, 0, 0), 0, 0), (134, .aload_n 0, 1, (0, 0, 0, 0), 0, 0), (135, .aload_n 0, 1, (0, 0, 0, 0), 0, 0), (136, .getfield 133, 3, (17, 0, 12, 0), 0, 0)]),
  (188, [(139, .invokevirtual 139, 3, (173, 4, 1, 0), 0, 0), (142, .invokestatic 142, 3, (174, 0, 1, 0), 0, 0), (145, .ifCond .eq 62, 3, (207, 0, 0, 0), 0, 0), (148, .aload_n 0, 1, (0, 0, 0, 0), 0, 0), (149, .aload_n 0, 1, (0, 0, 0, 0), 0, 0), (150, .getfield 133, 3, (17, 0, 12, 0), 0, 0), (153, .aload_n 0, 1, (0, 0, 0, 0), 0, 0), (154, .getfield 136, 3, (16, 0, 12, 0), 0, 0), (157, .isub, 1, (0, 0, 0, 0), 0, 0), (158, .bipush 8, 2, (0, 0, 0, 0), 8, 0), (160, .if_icmp .ge 28, 3, (188, 0, 0, 0), 0, 0), (163, .ldc2_w 159, 3, (0, 0, 0, 0), 0, 27), (166, .aload_n 0, 1, (0, 0, 0, 0), 0, 0), (167, .getfield 152, 3, (18, 1, 12, 0), 0, 0), (170, .lmul, 1, (0, 0, 0, 0), 0, 0), (171, .aload_n 0, 1, (0, 0, 0, 0), 0, 0), (172, .aload_n 0, 1, (0, 0, 0, 0), 0, 0), (173, .getfield 133, 3, (17, 0, 12, 0), 0, 0), (176, .invokevirtual 139, 3, (173, 4, 1, 0), 0, 0), (179, .i2l, 1, (0, 0, 0, 0), 0, 0), (180, .ladd, 1, (0, 0, 0, 0), 0, 0), (181, .ldc2_w 161, 3, (0, 0, 0, 0), 0, 96), (184, .lsub, 1, (0, 0, 0, 0), 0, 0), (185, .goto 6, 3, (191, 0, 0, 0), 0, 0)]),
  (238, [(188, .ldc2_w 163, 3, (0, 0, 0, 0), 0, (-1)), (191, .putfield 152, 3, (18, 1, 12, 0), 0, 0), (194, .aload_n 0, 1, (0, 0, 0, 0), 0, 0), (195, .dup, 1, (0, 0, 0, 0), 0, 0), (196, .getfield 133, 3, (17, 0, 12, 0), 0, 0), (199, .iconst 1, 1, (0, 0, 0, 0), 1, 0), (200, .iadd, 1, (0, 0, 0, 0), 0, 0), (201, .putfield 133, 3, (17, 0, 12, 0), 0, 0), (204, .goto (-78), 3, (126, 0, 0, 0), 0, 0), (207, .aload_n 0, 1, (0, 0, 0, 0), 0, 0), (208, .getfield 149, 3, (15, 0, 12, 0), 0, 0), (211, .iconst 2, 1, (0, 0, 0, 0), 2, 0), (212, .if_icmp .ne 70, 3, (282, 0, 0, 0), 0, 0), (215, .aload_n 0, 1, (0, 0, 0, 0), 0, 0), (216, .aload_n 0, 1, (0, 0, 0, 0), 0, 0), (217, .getfield 133, 3, (17, 0, 12, 0), 0, 0), (220, .invokevirtual 139, 3, (173, 4, 1, 0), 0, 0), (223, .invokestatic 146, 3, (175, 0, 1, 0), 0, 0), (226, .ifCond .eq 56, 3, (282, 0, 0, 0), 0, 0), (229, .aload_n 0, 1, (0, 0, 0, 0), 0, 0), (230, .aload_n 0, 1, (0, 0, 0, 0), 0, 0), (231, .getfield 133, 3, (17, 0, 12, 0), 0, 0), (234, .aload_n 0, 1, (0, 0, 0, 0), 0, 0), (235, .getfield 136, 3, (16, 0, 12, 0), 0, 0)]),
  (282, [(238, .isub, 1, (0, 0, 0, 0), 0, 0), (239, .iconst 2, 1, (0, 0, 0, 0), 2, 0), (240, .if_icmp .ge 25, 3, (265, 0, 0, 0), 0, 0), (243, .bipush 10, 2, (0, 0, 0, 0), 10, 0), (245, .aload_n 0, 1, (0, 0, 0, 0), 0, 0), (246, .getfield 156, 3, (19, 0, 12, 0), 0, 0), (249, .imul, 1, (0, 0, 0, 0), 0, 0), (250, .aload_n 0, 1, (0, 0, 0, 0), 0, 0), (251, .aload_n 0, 1, (0, 0, 0, 0), 0, 0), (252, .getfield 133, 3, (17, 0, 12, 0), 0, 0), (255, .invokevirtual 139, 3, (173, 4, 1, 0), 0, 0), (258, .iadd, 1, (0, 0, 0, 0), 0, 0), (259, .bipush 48, 2, (0, 0, 0, 0), 48, 0), (261, .isub, 1, (0, 0, 0, 0), 0, 0), (262, .goto 4, 3, (266, 0, 0, 0), 0, 0), (265, .iconst (-1), 1, (0, 0, 0, 0), (-1), 0), (266, .putfield 156, 3, (19, 0, 12, 0), 0, 0), (269, .aload_n 0, 1, (0, 0, 0, 0), 0, 0), (270, .dup, 1, (0, 0, 0, 0), 0, 0), (271, .getfield 133, 3, (17, 0, 12, 0), 0, 0), (274, .iconst 1, 1, (0, 0, 0, 0), 1, 0), (275, .iadd, 1, (0, 0, 0, 0), 0, 0), (276, .putfield 133, 3, (17, 0, 12, 0), 0, 0), (279, .goto (-72), 3, (207, 0, 0, 0), 0, 0)]),
  (1000000, [(282, .return_, 1, (0, 0, 0, 0), 0, 0)])]
-- ShareNetsModel.isWord(J)Z
set_option maxRecDepth 100000 in
noncomputable def z_k177 : List (Nat × List (Nat × z_E)) := [(1000000, [(0, .aload_n 0, 1, (0, 0, 0, 0), 0, 0), (1, .getfield 149, 3, (15, 0, 12, 0), 0, 0), (4, .iconst 1, 1, (0, 0, 0, 0), 1, 0), (5, .if_icmp .ne 16, 3, (21, 0, 0, 0), 0, 0), (8, .aload_n 0, 1, (0, 0, 0, 0), 0, 0), (9, .getfield 152, 3, (18, 1, 12, 0), 0, 0), (12, .lload_n 1, 1, (1, 0, 0, 0), 0, 0), (13, .lcmp, 1, (0, 0, 0, 0), 0, 0), (14, .ifCond .ne 7, 3, (21, 0, 0, 0), 0, 0), (17, .iconst 1, 1, (0, 0, 0, 0), 1, 0), (18, .goto 4, 3, (22, 0, 0, 0), 0, 0), (21, .iconst 0, 1, (0, 0, 0, 0), 0, 0), (22, .ireturn, 1, (1, 0, 0, 0), 0, 0)])]
-- ShareNetsModel.wantNumber(II)I
set_option maxRecDepth 100000 in
noncomputable def z_k178 : List (Nat × List (Nat × z_E)) := [(46, [(0, .aload_n 0, 1, (0, 0, 0, 0), 0, 0), (1, .getfield 156, 3, (19, 0, 12, 0), 0, 0), (4, .istore_n 3, 1, (3, 0, 0, 0), 0, 0), (5, .aload_n 0, 1, (0, 0, 0, 0), 0, 0), (6, .aload_n 0, 1, (0, 0, 0, 0), 0, 0), (7, .getfield 165, 3, (20, 3, 12, 0), 0, 0), (10, .ifCond .eq 24, 3, (34, 0, 0, 0), 0, 0), (13, .aload_n 0, 1, (0, 0, 0, 0), 0, 0), (14, .getfield 149, 3, (15, 0, 12, 0), 0, 0), (17, .iconst 2, 1, (0, 0, 0, 0), 2, 0), (18, .if_icmp .ne 16, 3, (34, 0, 0, 0), 0, 0), (21, .iload_n 3, 1, (3, 0, 0, 0), 0, 0), (22, .iload_n 1, 1, (1, 0, 0, 0), 0, 0), (23, .iload_n 2, 1, (2, 0, 0, 0), 0, 0), (24, .invokestatic 117, 3, (158, 0, 3, 0), 0, 0), (27, .ifCond .eq 7, 3, (34, 0, 0, 0), 0, 0), (30, .iconst 1, 1, (0, 0, 0, 0), 1, 0), (31, .goto 4, 3, (35, 0, 0, 0), 0, 0), (34, .iconst 0, 1, (0, 0, 0, 0), 0, 0), (35, .putfield 165, 3, (20, 3, 12, 0), 0, 0), (38, .aload_n 0, 1, (0, 0, 0, 0), 0, 0), (39, .getfield 165, 3, (20, 3, 12, 0), 0, 0), (42, .ifCond .eq 7, 3, (49, 0, 0, 0), 0, 0), (45, .aload_n 0, 1, (0, 0, 0, 0), 0, 0)]),
  (1000000, [(46, .invokevirtual 169, 3, (176, 4, 0, 0), 0, 0), (49, .iload_n 3, 1, (3, 0, 0, 0), 0, 0), (50, .ireturn, 1, (0, 0, 0, 0), 0, 0)])]
-- ShareNetsModel.wantEnd()V
set_option maxRecDepth 100000 in
noncomputable def z_k179 : List (Nat × List (Nat × z_E)) := [(1000000, [(0, .aload_n 0, 1, (0, 0, 0, 0), 0, 0), (1, .aload_n 0, 1, (0, 0, 0, 0), 0, 0), (2, .getfield 165, 3, (20, 3, 12, 0), 0, 0), (5, .ifCond .eq 24, 3, (29, 0, 0, 0), 0, 0), (8, .aload_n 0, 1, (0, 0, 0, 0), 0, 0), (9, .getfield 149, 3, (15, 0, 12, 0), 0, 0), (12, .iconst 3, 1, (0, 0, 0, 0), 3, 0), (13, .if_icmp .ne 16, 3, (29, 0, 0, 0), 0, 0), (16, .aload_n 0, 1, (0, 0, 0, 0), 0, 0), (17, .getfield 156, 3, (19, 0, 12, 0), 0, 0), (20, .bipush 59, 2, (0, 0, 0, 0), 59, 0), (22, .if_icmp .ne 7, 3, (29, 0, 0, 0), 0, 0), (25, .iconst 1, 1, (0, 0, 0, 0), 1, 0), (26, .goto 4, 3, (30, 0, 0, 0), 0, 0), (29, .iconst 0, 1, (0, 0, 0, 0), 0, 0), (30, .putfield 165, 3, (20, 3, 12, 0), 0, 0), (33, .aload_n 0, 1, (0, 0, 0, 0), 0, 0), (34, .getfield 165, 3, (20, 3, 12, 0), 0, 0), (37, .ifCond .eq 7, 3, (44, 0, 0, 0), 0, 0), (40, .aload_n 0, 1, (0, 0, 0, 0), 0, 0), (41, .invokevirtual 169, 3, (176, 4, 0, 0), 0, 0), (44, .return_, 1, (0, 0, 0, 0), 0, 0)])]
-- ShareNetsModel.freshRoad(II)V
set_option maxRecDepth 100000 in
noncomputable def z_k180 : List (Nat × List (Nat × z_E)) := [(1000000, [(0, .aload_n 0, 1, (0, 0, 0, 0), 0, 0), (1, .getfield 44, 3, (22, 2, 12, 0), 0, 0), (4, .iload_n 1, 1, (1, 0, 0, 0), 0, 0), (5, .dup2, 1, (0, 0, 0, 0), 0, 0), (6, .iaload, 1, (0, 0, 0, 0), 0, 0), (7, .iconst 1, 1, (0, 0, 0, 0), 1, 0), (8, .iload_n 2, 1, (2, 0, 0, 0), 0, 0), (9, .ishl, 1, (0, 0, 0, 0), 0, 0), (10, .ior, 1, (0, 0, 0, 0), 0, 0), (11, .iastore, 1, (0, 0, 0, 0), 0, 0), (12, .aload_n 0, 1, (0, 0, 0, 0), 0, 0), (13, .getfield 44, 3, (22, 2, 12, 0), 0, 0), (16, .iload_n 2, 1, (2, 0, 0, 0), 0, 0), (17, .dup2, 1, (0, 0, 0, 0), 0, 0), (18, .iaload, 1, (0, 0, 0, 0), 0, 0), (19, .iconst 1, 1, (0, 0, 0, 0), 1, 0), (20, .iload_n 1, 1, (1, 0, 0, 0), 0, 0), (21, .ishl, 1, (0, 0, 0, 0), 0, 0), (22, .ior, 1, (0, 0, 0, 0), 0, 0), (23, .iastore, 1, (0, 0, 0, 0), 0, 0), (24, .return_, 1, (0, 0, 0, 0), 0, 0)])]
-- ShareNetsModel.wantPost()V
set_option maxRecDepth 100000 in
noncomputable def z_k181 : List (Nat × List (Nat × z_E)) := [(42, [(0, .iconst 0, 1, (0, 0, 0, 0), 0, 0), (1, .istore_n 1, 1, (1, 0, 0, 0), 0, 0), (2, .iconst 0, 1, (0, 0, 0, 0), 0, 0), (3, .istore_n 2, 1, (2, 0, 0, 0), 0, 0), (4, .iload_n 2, 1, (2, 0, 0, 0), 0, 0), (5, .aload_n 0, 1, (0, 0, 0, 0), 0, 0), (6, .getfield 172, 3, (24, 0, 12, 0), 0, 0), (9, .if_icmp .ge 32, 3, (41, 0, 0, 0), 0, 0), (12, .iload_n 1, 1, (1, 0, 0, 0), 0, 0), (13, .ifCond .ne 16, 3, (29, 0, 0, 0), 0, 0), (16, .aload_n 0, 1, (0, 0, 0, 0), 0, 0), (17, .getfield 47, 3, (23, 2, 12, 0), 0, 0), (20, .iload_n 2, 1, (2, 0, 0, 0), 0, 0), (21, .iaload, 1, (0, 0, 0, 0), 0, 0), (22, .aload_n 0, 1, (0, 0, 0, 0), 0, 0), (23, .getfield 156, 3, (19, 0, 12, 0), 0, 0), (26, .if_icmp .ne 7, 3, (33, 0, 0, 0), 0, 0), (29, .iconst 1, 1, (0, 0, 0, 0), 1, 0), (30, .goto 4, 3, (34, 0, 0, 0), 0, 0), (33, .iconst 0, 1, (0, 0, 0, 0), 0, 0), (34, .istore_n 1, 1, (1, 0, 0, 0), 0, 0), (35, .iinc 2 1, 3, (2, 0, 0, 0), 1, 0), (38, .goto (-34), 3, (4, 0, 0, 0), 0, 0), (41, .aload_n 0, 1, (0, 0, 0, 0), 0, 0)]),
  (88, [(42, .aload_n 0, 1, (0, 0, 0, 0), 0, 0), (43, .getfield 165, 3, (20, 3, 12, 0), 0, 0), (46, .ifCond .eq 19, 3, (65, 0, 0, 0), 0, 0), (49, .aload_n 0, 1, (0, 0, 0, 0), 0, 0), (50, .getfield 149, 3, (15, 0, 12, 0), 0, 0), (53, .iconst 2, 1, (0, 0, 0, 0), 2, 0), (54, .if_icmp .ne 7, 3, (61, 0, 0, 0), 0, 0), (57, .iload_n 1, 1, (1, 0, 0, 0), 0, 0), (58, .ifCond .ne 7, 3, (65, 0, 0, 0), 0, 0), (61, .iconst 1, 1, (0, 0, 0, 0), 1, 0), (62, .goto 4, 3, (66, 0, 0, 0), 0, 0), (65, .iconst 0, 1, (0, 0, 0, 0), 0, 0), (66, .putfield 165, 3, (20, 3, 12, 0), 0, 0), (69, .aload_n 0, 1, (0, 0, 0, 0), 0, 0), (70, .iconst 0, 1, (0, 0, 0, 0), 0, 0), (71, .aload_n 0, 1, (0, 0, 0, 0), 0, 0), (72, .getfield 175, 3, (21, 0, 12, 0), 0, 0), (75, .iconst 1, 1, (0, 0, 0, 0), 1, 0), (76, .isub, 1, (0, 0, 0, 0), 0, 0), (77, .invokevirtual 178, 3, (178, 4, 2, 0), 0, 0), (80, .istore_n 2, 1, (2, 0, 0, 0), 0, 0), (81, .aload_n 0, 1, (0, 0, 0, 0), 0, 0), (82, .getfield 165, 3, (20, 3, 12, 0), 0, 0), (85, .ifCond .eq 23, 3, (108, 0, 0, 0), 0, 0)]),
  (1000000, [(88, .aload_n 0, 1, (0, 0, 0, 0), 0, 0), (89, .getfield 47, 3, (23, 2, 12, 0), 0, 0), (92, .aload_n 0, 1, (0, 0, 0, 0), 0, 0), (93, .getfield 172, 3, (24, 0, 12, 0), 0, 0), (96, .iload_n 2, 1, (2, 0, 0, 0), 0, 0), (97, .iastore, 1, (0, 0, 0, 0), 0, 0), (98, .aload_n 0, 1, (0, 0, 0, 0), 0, 0), (99, .dup, 1, (0, 0, 0, 0), 0, 0), (100, .getfield 172, 3, (24, 0, 12, 0), 0, 0), (103, .iconst 1, 1, (0, 0, 0, 0), 1, 0), (104, .iadd, 1, (0, 0, 0, 0), 0, 0), (105, .putfield 172, 3, (24, 0, 12, 0), 0, 0), (108, .return_, 1, (0, 0, 0, 0), 0, 0)])]
-- ShareNetsModel.wantClause(I)V
set_option maxRecDepth 100000 in
noncomputable def z_k182 : List (Nat × List (Nat × z_E)) := [(48, [(0, .aload_n 0, 1, (0, 0, 0, 0), 0, 0), (1, .ldc2_w 181, 3, (0, 0, 0, 0), 0, 1065), (4, .invokevirtual 183, 3, (177, 4, 1, 0), 0, 0), (7, .istore_n 2, 1, (2, 0, 0, 0), 0, 0), (8, .aload_n 0, 1, (0, 0, 0, 0), 0, 0), (9, .ldc2_w 187, 3, (0, 0, 0, 0), 0, 361240), (12, .invokevirtual 183, 3, (177, 4, 1, 0), 0, 0), (15, .istore_n 3, 1, (3, 0, 0, 0), 0, 0), (16, .aload_n 0, 1, (0, 0, 0, 0), 0, 0), (17, .invokevirtual 169, 3, (176, 4, 0, 0), 0, 0), (20, .aload_n 0, 1, (0, 0, 0, 0), 0, 0), (21, .iconst 0, 1, (0, 0, 0, 0), 0, 0), (22, .putfield 172, 3, (24, 0, 12, 0), 0, 0), (25, .aload_n 0, 1, (0, 0, 0, 0), 0, 0), (26, .getfield 165, 3, (20, 3, 12, 0), 0, 0), (29, .ifCond .eq 26, 3, (55, 0, 0, 0), 0, 0), (32, .aload_n 0, 1, (0, 0, 0, 0), 0, 0), (33, .getfield 172, 3, (24, 0, 12, 0), 0, 0), (36, .iload_n 1, 1, (1, 0, 0, 0), 0, 0), (37, .if_icmp .lt 11, 3, (48, 0, 0, 0), 0, 0), (40, .aload_n 0, 1, (0, 0, 0, 0), 0, 0), (41, .getfield 149, 3, (15, 0, 12, 0), 0, 0), (44, .iconst 2, 1, (0, 0, 0, 0), 2, 0), (45, .if_icmp .ne 10, 3, (55, 0, 0, 0), 0, 0)]),
  (96, [(48, .aload_n 0, 1, (0, 0, 0, 0), 0, 0), (49, .invokevirtual 189, 3, (181, 4, 0, 0), 0, 0), (52, .goto (-27), 3, (25, 0, 0, 0), 0, 0), (55, .aload_n 0, 1, (0, 0, 0, 0), 0, 0), (56, .invokevirtual 192, 3, (179, 4, 0, 0), 0, 0), (59, .iconst 1, 1, (0, 0, 0, 0), 1, 0), (60, .istore 4, 2, (4, 0, 0, 0), 0, 0), (62, .iload 4, 2, (4, 0, 0, 0), 0, 0), (64, .aload_n 0, 1, (0, 0, 0, 0), 0, 0), (65, .getfield 172, 3, (24, 0, 12, 0), 0, 0), (68, .if_icmp .ge 61, 3, (129, 0, 0, 0), 0, 0), (71, .aload_n 0, 1, (0, 0, 0, 0), 0, 0), (72, .getfield 165, 3, (20, 3, 12, 0), 0, 0), (75, .ifCond .eq 54, 3, (129, 0, 0, 0), 0, 0), (78, .iload_n 2, 1, (2, 0, 0, 0), 0, 0), (79, .ifCond .eq 7, 3, (86, 0, 0, 0), 0, 0), (82, .iconst 0, 1, (0, 0, 0, 0), 0, 0), (83, .goto 7, 3, (90, 0, 0, 0), 0, 0), (86, .iload 4, 2, (4, 0, 0, 0), 0, 0), (88, .iconst 1, 1, (0, 0, 0, 0), 1, 0), (89, .isub, 1, (0, 0, 0, 0), 0, 0), (90, .istore 5, 2, (5, 0, 0, 0), 0, 0), (92, .iload 5, 2, (5, 0, 0, 0), 0, 0), (94, .iload 4, 2, (4, 0, 0, 0), 0, 0)]),
  (146, [(96, .if_icmp .ge 27, 3, (123, 0, 0, 0), 0, 0), (99, .aload_n 0, 1, (0, 0, 0, 0), 0, 0), (100, .aload_n 0, 1, (0, 0, 0, 0), 0, 0), (101, .getfield 47, 3, (23, 2, 12, 0), 0, 0), (104, .iload 5, 2, (5, 0, 0, 0), 0, 0), (106, .iaload, 1, (0, 0, 0, 0), 0, 0), (107, .aload_n 0, 1, (0, 0, 0, 0), 0, 0), (108, .getfield 47, 3, (23, 2, 12, 0), 0, 0), (111, .iload 4, 2, (4, 0, 0, 0), 0, 0), (113, .iaload, 1, (0, 0, 0, 0), 0, 0), (114, .invokevirtual 195, 3, (180, 4, 2, 0), 0, 0), (117, .iinc 5 1, 3, (5, 0, 0, 0), 1, 0), (120, .goto (-28), 3, (92, 0, 0, 0), 0, 0), (123, .iinc 4 1, 3, (4, 0, 0, 0), 1, 0), (126, .goto (-64), 3, (62, 0, 0, 0), 0, 0), (129, .iload_n 3, 1, (3, 0, 0, 0), 0, 0), (130, .ifCond .eq 31, 3, (161, 0, 0, 0), 0, 0), (133, .aload_n 0, 1, (0, 0, 0, 0), 0, 0), (134, .getfield 165, 3, (20, 3, 12, 0), 0, 0), (137, .ifCond .eq 24, 3, (161, 0, 0, 0), 0, 0), (140, .aload_n 0, 1, (0, 0, 0, 0), 0, 0), (141, .aload_n 0, 1, (0, 0, 0, 0), 0, 0), (142, .getfield 47, 3, (23, 2, 12, 0), 0, 0), (145, .iconst 0, 1, (0, 0, 0, 0), 0, 0)]),
  (1000000, [(146, .iaload, 1, (0, 0, 0, 0), 0, 0), (147, .aload_n 0, 1, (0, 0, 0, 0), 0, 0), (148, .getfield 47, 3, (23, 2, 12, 0), 0, 0), (151, .aload_n 0, 1, (0, 0, 0, 0), 0, 0), (152, .getfield 172, 3, (24, 0, 12, 0), 0, 0), (155, .iconst 1, 1, (0, 0, 0, 0), 1, 0), (156, .isub, 1, (0, 0, 0, 0), 0, 0), (157, .iaload, 1, (0, 0, 0, 0), 0, 0), (158, .invokevirtual 195, 3, (180, 4, 2, 0), 0, 0), (161, .return_, 1, (0, 0, 0, 0), 0, 0)])]
-- ShareNetsModel.read(I)I
set_option maxRecDepth 100000 in
noncomputable def z_k183 : List (Nat × List (Nat × z_E)) := [(45, [(0, .iload_n 1, 1, (1, 0, 0, 0), 0, 0), (1, .invokestatic 199, 3, (162, 0, 1, 0), 0, 0), (4, .ifCond .ne 5, 3, (9, 0, 0, 0), 0, 0), (7, .iconst (-1), 1, (0, 0, 0, 0), (-1), 0), (8, .ireturn, 1, (0, 0, 0, 0), 0, 0), (9, .aload_n 0, 1, (0, 0, 0, 0), 0, 0), (10, .iconst 0, 1, (0, 0, 0, 0), 0, 0), (11, .putfield 133, 3, (17, 0, 12, 0), 0, 0), (14, .aload_n 0, 1, (0, 0, 0, 0), 0, 0), (15, .invokevirtual 169, 3, (176, 4, 0, 0), 0, 0), (18, .aload_n 0, 1, (0, 0, 0, 0), 0, 0), (19, .aload_n 0, 1, (0, 0, 0, 0), 0, 0), (20, .ldc2_w 202, 3, (0, 0, 0, 0), 0, 8812711), (23, .invokevirtual 183, 3, (177, 4, 1, 0), 0, 0), (26, .putfield 165, 3, (20, 3, 12, 0), 0, 0), (29, .aload_n 0, 1, (0, 0, 0, 0), 0, 0), (30, .getfield 165, 3, (20, 3, 12, 0), 0, 0), (33, .ifCond .eq 7, 3, (40, 0, 0, 0), 0, 0), (36, .aload_n 0, 1, (0, 0, 0, 0), 0, 0), (37, .invokevirtual 169, 3, (176, 4, 0, 0), 0, 0), (40, .aload_n 0, 1, (0, 0, 0, 0), 0, 0), (41, .aload_n 0, 1, (0, 0, 0, 0), 0, 0), (42, .iconst 1, 1, (0, 0, 0, 0), 1, 0), (43, .bipush 10, 2, (0, 0, 0, 0), 10, 0)]),
  (94, [(45, .invokevirtual 178, 3, (178, 4, 2, 0), 0, 0), (48, .putfield 175, 3, (21, 0, 12, 0), 0, 0), (51, .aload_n 0, 1, (0, 0, 0, 0), 0, 0), (52, .invokevirtual 192, 3, (179, 4, 0, 0), 0, 0), (55, .iconst 0, 1, (0, 0, 0, 0), 0, 0), (56, .istore_n 2, 1, (2, 0, 0, 0), 0, 0), (57, .iload_n 2, 1, (2, 0, 0, 0), 0, 0), (58, .bipush 10, 2, (0, 0, 0, 0), 10, 0), (60, .if_icmp .ge 16, 3, (76, 0, 0, 0), 0, 0), (63, .aload_n 0, 1, (0, 0, 0, 0), 0, 0), (64, .getfield 44, 3, (22, 2, 12, 0), 0, 0), (67, .iload_n 2, 1, (2, 0, 0, 0), 0, 0), (68, .iconst 0, 1, (0, 0, 0, 0), 0, 0), (69, .iastore, 1, (0, 0, 0, 0), 0, 0), (70, .iinc 2 1, 3, (2, 0, 0, 0), 1, 0), (73, .goto (-16), 3, (57, 0, 0, 0), 0, 0), (76, .aload_n 0, 1, (0, 0, 0, 0), 0, 0), (77, .getfield 165, 3, (20, 3, 12, 0), 0, 0), (80, .ifCond .eq 72, 3, (152, 0, 0, 0), 0, 0), (83, .aload_n 0, 1, (0, 0, 0, 0), 0, 0), (84, .getfield 149, 3, (15, 0, 12, 0), 0, 0), (87, .ifCond .eq 65, 3, (152, 0, 0, 0), 0, 0), (90, .aload_n 0, 1, (0, 0, 0, 0), 0, 0), (91, .ldc2_w 204, 3, (0, 0, 0, 0), 0, 365260)]),
  (146, [(94, .invokevirtual 183, 3, (177, 4, 1, 0), 0, 0), (97, .ifCond .eq 11, 3, (108, 0, 0, 0), 0, 0), (100, .aload_n 0, 1, (0, 0, 0, 0), 0, 0), (101, .iconst 2, 1, (0, 0, 0, 0), 2, 0), (102, .invokevirtual 206, 3, (182, 4, 1, 0), 0, 0), (105, .goto (-29), 3, (76, 0, 0, 0), 0, 0), (108, .aload_n 0, 1, (0, 0, 0, 0), 0, 0), (109, .ldc2_w 181, 3, (0, 0, 0, 0), 0, 1065), (112, .invokevirtual 183, 3, (177, 4, 1, 0), 0, 0), (115, .ifCond .eq 11, 3, (126, 0, 0, 0), 0, 0), (118, .aload_n 0, 1, (0, 0, 0, 0), 0, 0), (119, .iconst 1, 1, (0, 0, 0, 0), 1, 0), (120, .invokevirtual 206, 3, (182, 4, 1, 0), 0, 0), (123, .goto (-47), 3, (76, 0, 0, 0), 0, 0), (126, .aload_n 0, 1, (0, 0, 0, 0), 0, 0), (127, .ldc2_w 187, 3, (0, 0, 0, 0), 0, 361240), (130, .invokevirtual 183, 3, (177, 4, 1, 0), 0, 0), (133, .ifCond .eq 11, 3, (144, 0, 0, 0), 0, 0), (136, .aload_n 0, 1, (0, 0, 0, 0), 0, 0), (137, .iconst 3, 1, (0, 0, 0, 0), 3, 0), (138, .invokevirtual 206, 3, (182, 4, 1, 0), 0, 0), (141, .goto (-65), 3, (76, 0, 0, 0), 0, 0), (144, .aload_n 0, 1, (0, 0, 0, 0), 0, 0), (145, .iconst 0, 1, (0, 0, 0, 0), 0, 0)]),
  (190, [(146, .putfield 165, 3, (20, 3, 12, 0), 0, 0), (149, .goto (-73), 3, (76, 0, 0, 0), 0, 0), (152, .aload_n 0, 1, (0, 0, 0, 0), 0, 0), (153, .iconst 0, 1, (0, 0, 0, 0), 0, 0), (154, .putfield 128, 3, (14, 0, 12, 0), 0, 0), (157, .aload_n 0, 1, (0, 0, 0, 0), 0, 0), (158, .getfield 165, 3, (20, 3, 12, 0), 0, 0), (161, .ifCond .ne 11, 3, (172, 0, 0, 0), 0, 0), (164, .bipush (-100), 2, (0, 0, 0, 0), (-100), 0), (166, .aload_n 0, 1, (0, 0, 0, 0), 0, 0), (167, .getfield 136, 3, (16, 0, 12, 0), 0, 0), (170, .isub, 1, (0, 0, 0, 0), 0, 0), (171, .ireturn, 1, (0, 0, 0, 0), 0, 0), (172, .aload_n 0, 1, (0, 0, 0, 0), 0, 0), (173, .getfield 7, 3, (0, 2, 12, 0), 0, 0), (176, .iload_n 1, 1, (1, 0, 0, 0), 0, 0), (177, .aload_n 0, 1, (0, 0, 0, 0), 0, 0), (178, .getfield 175, 3, (21, 0, 12, 0), 0, 0), (181, .iastore, 1, (0, 0, 0, 0), 0, 0), (182, .iconst 0, 1, (0, 0, 0, 0), 0, 0), (183, .istore_n 2, 1, (2, 0, 0, 0), 0, 0), (184, .iload_n 2, 1, (2, 0, 0, 0), 0, 0), (185, .bipush 10, 2, (0, 0, 0, 0), 10, 0), (187, .if_icmp .ge 26, 3, (213, 0, 0, 0), 0, 0)]),
  (1000000, [(190, .aload_n 0, 1, (0, 0, 0, 0), 0, 0), (191, .getfield 13, 3, (1, 2, 12, 0), 0, 0), (194, .bipush 10, 2, (0, 0, 0, 0), 10, 0), (196, .iload_n 1, 1, (1, 0, 0, 0), 0, 0), (197, .imul, 1, (0, 0, 0, 0), 0, 0), (198, .iload_n 2, 1, (2, 0, 0, 0), 0, 0), (199, .iadd, 1, (0, 0, 0, 0), 0, 0), (200, .aload_n 0, 1, (0, 0, 0, 0), 0, 0), (201, .getfield 44, 3, (22, 2, 12, 0), 0, 0), (204, .iload_n 2, 1, (2, 0, 0, 0), 0, 0), (205, .iaload, 1, (0, 0, 0, 0), 0, 0), (206, .iastore, 1, (0, 0, 0, 0), 0, 0), (207, .iinc 2 1, 3, (2, 0, 0, 0), 1, 0), (210, .goto (-26), 3, (184, 0, 0, 0), 0, 0), (213, .aload_n 0, 1, (0, 0, 0, 0), 0, 0), (214, .iload_n 1, 1, (1, 0, 0, 0), 0, 0), (215, .invokevirtual 210, 3, (171, 4, 1, 0), 0, 0), (218, .ireturn, 1, (0, 0, 0, 0), 0, 0)])]
-- ShareNetsModel.posts(II)I
set_option maxRecDepth 100000 in
noncomputable def z_k184 : List (Nat × List (Nat × z_E)) := [(1000000, [(0, .iload_n 1, 1, (1, 0, 0, 0), 0, 0), (1, .invokestatic 199, 3, (162, 0, 1, 0), 0, 0), (4, .ifCond .eq 13, 3, (17, 0, 0, 0), 0, 0), (7, .iload_n 2, 1, (2, 0, 0, 0), 0, 0), (8, .iconst 1, 1, (0, 0, 0, 0), 1, 0), (9, .bipush 10, 2, (0, 0, 0, 0), 10, 0), (11, .invokestatic 117, 3, (158, 0, 3, 0), 0, 0), (14, .ifCond .ne 5, 3, (19, 0, 0, 0), 0, 0), (17, .iconst (-1), 1, (0, 0, 0, 0), (-1), 0), (18, .ireturn, 1, (0, 0, 0, 0), 0, 0), (19, .aload_n 0, 1, (0, 0, 0, 0), 0, 0), (20, .iload_n 1, 1, (1, 0, 0, 0), 0, 0), (21, .iload_n 2, 1, (2, 0, 0, 0), 0, 0), (22, .invokevirtual 213, 3, (169, 4, 2, 0), 0, 0), (25, .iload_n 2, 1, (2, 0, 0, 0), 0, 0), (26, .ireturn, 1, (0, 0, 0, 0), 0, 0)])]
-- ShareNetsModel.road(IIIZ)I
set_option maxRecDepth 100000 in
noncomputable def z_k185 : List (Nat × List (Nat × z_E)) := [(41, [(0, .iload_n 1, 1, (1, 0, 0, 0), 0, 0), (1, .invokestatic 199, 3, (162, 0, 1, 0), 0, 0), (4, .ifCond .eq 26, 3, (30, 0, 0, 0), 0, 0), (7, .aload_n 0, 1, (0, 0, 0, 0), 0, 0), (8, .iload_n 1, 1, (1, 0, 0, 0), 0, 0), (9, .iload_n 2, 1, (2, 0, 0, 0), 0, 0), (10, .invokevirtual 216, 3, (164, 4, 2, 0), 0, 0), (13, .ifCond .eq 17, 3, (30, 0, 0, 0), 0, 0), (16, .aload_n 0, 1, (0, 0, 0, 0), 0, 0), (17, .iload_n 1, 1, (1, 0, 0, 0), 0, 0), (18, .iload_n 3, 1, (3, 0, 0, 0), 0, 0), (19, .invokevirtual 216, 3, (164, 4, 2, 0), 0, 0), (22, .ifCond .eq 8, 3, (30, 0, 0, 0), 0, 0), (25, .iload_n 2, 1, (2, 0, 0, 0), 0, 0), (26, .iload_n 3, 1, (3, 0, 0, 0), 0, 0), (27, .if_icmp .ne 5, 3, (32, 0, 0, 0), 0, 0), (30, .iconst (-1), 1, (0, 0, 0, 0), (-1), 0), (31, .ireturn, 1, (0, 0, 0, 0), 0, 0), (32, .aload_n 0, 1, (0, 0, 0, 0), 0, 0), (33, .iload_n 1, 1, (1, 0, 0, 0), 0, 0), (34, .iload_n 2, 1, (2, 0, 0, 0), 0, 0), (35, .iload_n 3, 1, (3, 0, 0, 0), 0, 0), (36, .invokevirtual 219, 3, (167, 4, 3, 0), 0, 0), (39, .iload 4, 2, (4, 0, 0, 0), 0, 0)]),
  (1000000, [(41, .if_icmp .ne 7, 3, (48, 0, 0, 0), 0, 0), (44, .iconst 0, 1, (0, 0, 0, 0), 0, 0), (45, .goto 4, 3, (49, 0, 0, 0), 0, 0), (48, .iconst 1, 1, (0, 0, 0, 0), 1, 0), (49, .istore 5, 2, (5, 0, 0, 0), 0, 0), (51, .aload_n 0, 1, (0, 0, 0, 0), 0, 0), (52, .iload_n 1, 1, (1, 0, 0, 0), 0, 0), (53, .iload_n 2, 1, (2, 0, 0, 0), 0, 0), (54, .iload_n 3, 1, (3, 0, 0, 0), 0, 0), (55, .iload 4, 2, (4, 0, 0, 0), 0, 0), (57, .invokevirtual 222, 3, (168, 4, 4, 0), 0, 0), (60, .iload 5, 2, (5, 0, 0, 0), 0, 0), (62, .ireturn, 1, (0, 0, 0, 0), 0, 0)])]
-- ShareNetsModel.netOf(II)I
set_option maxRecDepth 100000 in
noncomputable def z_k186 : List (Nat × List (Nat × z_E)) := [(43, [(0, .iload_n 1, 1, (1, 0, 0, 0), 0, 0), (1, .invokestatic 199, 3, (162, 0, 1, 0), 0, 0), (4, .ifCond .eq 22, 3, (26, 0, 0, 0), 0, 0), (7, .iload_n 2, 1, (2, 0, 0, 0), 0, 0), (8, .invokestatic 226, 3, (163, 0, 1, 0), 0, 0), (11, .ifCond .ne 17, 3, (28, 0, 0, 0), 0, 0), (14, .aload_n 0, 1, (0, 0, 0, 0), 0, 0), (15, .iload_n 1, 1, (1, 0, 0, 0), 0, 0), (16, .iload_n 2, 1, (2, 0, 0, 0), 0, 0), (17, .bipush 10, 2, (0, 0, 0, 0), 10, 0), (19, .isub, 1, (0, 0, 0, 0), 0, 0), (20, .invokevirtual 216, 3, (164, 4, 2, 0), 0, 0), (23, .ifCond .ne 5, 3, (28, 0, 0, 0), 0, 0), (26, .iconst (-1), 1, (0, 0, 0, 0), (-1), 0), (27, .ireturn, 1, (0, 0, 0, 0), 0, 0), (28, .iload_n 2, 1, (2, 0, 0, 0), 0, 0), (29, .ifCond .ne 12, 3, (41, 0, 0, 0), 0, 0), (32, .aload_n 0, 1, (0, 0, 0, 0), 0, 0), (33, .getfield 7, 3, (0, 2, 12, 0), 0, 0), (36, .iload_n 1, 1, (1, 0, 0, 0), 0, 0), (37, .iaload, 1, (0, 0, 0, 0), 0, 0), (38, .goto 30, 3, (68, 0, 0, 0), 0, 0), (41, .iload_n 2, 1, (2, 0, 0, 0), 0, 0), (42, .iconst 1, 1, (0, 0, 0, 0), 1, 0)]),
  (1000000, [(43, .if_icmp .ne 11, 3, (54, 0, 0, 0), 0, 0), (46, .aload_n 0, 1, (0, 0, 0, 0), 0, 0), (47, .iload_n 1, 1, (1, 0, 0, 0), 0, 0), (48, .invokevirtual 210, 3, (171, 4, 1, 0), 0, 0), (51, .goto 17, 3, (68, 0, 0, 0), 0, 0), (54, .aload_n 0, 1, (0, 0, 0, 0), 0, 0), (55, .getfield 13, 3, (1, 2, 12, 0), 0, 0), (58, .bipush 10, 2, (0, 0, 0, 0), 10, 0), (60, .iload_n 1, 1, (1, 0, 0, 0), 0, 0), (61, .imul, 1, (0, 0, 0, 0), 0, 0), (62, .iload_n 2, 1, (2, 0, 0, 0), 0, 0), (63, .iadd, 1, (0, 0, 0, 0), 0, 0), (64, .bipush 10, 2, (0, 0, 0, 0), 10, 0), (66, .isub, 1, (0, 0, 0, 0), 0, 0), (67, .iaload, 1, (0, 0, 0, 0), 0, 0), (68, .ireturn, 1, (0, 0, 0, 0), 0, 0)])]
-- ShareNetsModel.rows(II)I
set_option maxRecDepth 100000 in
noncomputable def z_k187 : List (Nat × List (Nat × z_E)) := [(40, [(0, .iload_n 1, 1, (1, 0, 0, 0), 0, 0), (1, .invokestatic 199, 3, (162, 0, 1, 0), 0, 0), (4, .ifCond .eq 10, 3, (14, 0, 0, 0), 0, 0), (7, .iload_n 2, 1, (2, 0, 0, 0), 0, 0), (8, .invokestatic 229, 3, (249, 0, 1, 0), 0, 0), (11, .ifCond .ne 5, 3, (16, 0, 0, 0), 0, 0), (14, .iconst (-1), 1, (0, 0, 0, 0), (-1), 0), (15, .ireturn, 1, (0, 0, 0, 0), 0, 0), (16, .aload_n 0, 1, (0, 0, 0, 0), 0, 0), (17, .iload_n 2, 1, (2, 0, 0, 0), 0, 0), (18, .iconst 2, 1, (0, 0, 0, 0), 2, 0), (19, .invokevirtual 232, 3, (252, 4, 2, 0), 0, 0), (22, .istore_n 3, 1, (3, 0, 0, 0), 0, 0), (23, .iload_n 3, 1, (3, 0, 0, 0), 0, 0), (24, .ifCond .eq 5, 3, (29, 0, 0, 0), 0, 0), (27, .iload_n 3, 1, (3, 0, 0, 0), 0, 0), (28, .ireturn, 1, (0, 0, 0, 0), 0, 0), (29, .aload_n 0, 1, (0, 0, 0, 0), 0, 0), (30, .iload_n 1, 1, (1, 0, 0, 0), 0, 0), (31, .aload_n 0, 1, (0, 0, 0, 0), 0, 0), (32, .getfield 7, 3, (0, 2, 12, 0), 0, 0), (35, .iload_n 1, 1, (1, 0, 0, 0), 0, 0), (36, .iaload, 1, (0, 0, 0, 0), 0, 0), (37, .invokevirtual 213, 3, (169, 4, 2, 0), 0, 0)]),
  (82, [(40, .iconst 0, 1, (0, 0, 0, 0), 0, 0), (41, .istore 4, 2, (4, 0, 0, 0), 0, 0), (43, .iload 4, 2, (4, 0, 0, 0), 0, 0), (45, .aload_n 0, 1, (0, 0, 0, 0), 0, 0), (46, .getfield 7, 3, (0, 2, 12, 0), 0, 0), (49, .iload_n 1, 1, (1, 0, 0, 0), 0, 0), (50, .iaload, 1, (0, 0, 0, 0), 0, 0), (51, .if_icmp .ge 72, 3, (123, 0, 0, 0), 0, 0), (54, .iload 4, 2, (4, 0, 0, 0), 0, 0), (56, .aload_n 0, 1, (0, 0, 0, 0), 0, 0), (57, .getfield 80, 3, (41, 2, 12, 0), 0, 0), (60, .iload_n 2, 1, (2, 0, 0, 0), 0, 0), (61, .iaload, 1, (0, 0, 0, 0), 0, 0), (62, .if_icmp .ge 61, 3, (123, 0, 0, 0), 0, 0), (65, .iconst 0, 1, (0, 0, 0, 0), 0, 0), (66, .istore 5, 2, (5, 0, 0, 0), 0, 0), (68, .iload 5, 2, (5, 0, 0, 0), 0, 0), (70, .iload 4, 2, (4, 0, 0, 0), 0, 0), (72, .if_icmp .ge 45, 3, (117, 0, 0, 0), 0, 0), (75, .aload_n 0, 1, (0, 0, 0, 0), 0, 0), (76, .iload_n 1, 1, (1, 0, 0, 0), 0, 0), (77, .iload 4, 2, (4, 0, 0, 0), 0, 0), (79, .iload 5, 2, (5, 0, 0, 0), 0, 0), (81, .aload_n 0, 1, (0, 0, 0, 0), 0, 0)]),
  (125, [(82, .getfield 83, 3, (42, 2, 12, 0), 0, 0), (85, .bipush 40, 2, (0, 0, 0, 0), 40, 0), (87, .iload_n 2, 1, (2, 0, 0, 0), 0, 0), (88, .imul, 1, (0, 0, 0, 0), 0, 0), (89, .iload 4, 2, (4, 0, 0, 0), 0, 0), (91, .iadd, 1, (0, 0, 0, 0), 0, 0), (92, .laload, 1, (0, 0, 0, 0), 0, 0), (93, .iload 5, 2, (5, 0, 0, 0), 0, 0), (95, .lshr, 1, (0, 0, 0, 0), 0, 0), (96, .lconst 1, 1, (0, 0, 0, 0), 0, 1), (97, .land, 1, (0, 0, 0, 0), 0, 0), (98, .lconst 1, 1, (0, 0, 0, 0), 0, 1), (99, .lcmp, 1, (0, 0, 0, 0), 0, 0), (100, .ifCond .ne 7, 3, (107, 0, 0, 0), 0, 0), (103, .iconst 1, 1, (0, 0, 0, 0), 1, 0), (104, .goto 4, 3, (108, 0, 0, 0), 0, 0), (107, .iconst 0, 1, (0, 0, 0, 0), 0, 0), (108, .invokevirtual 222, 3, (168, 4, 4, 0), 0, 0), (111, .iinc 5 1, 3, (5, 0, 0, 0), 1, 0), (114, .goto (-46), 3, (68, 0, 0, 0), 0, 0), (117, .iinc 4 1, 3, (4, 0, 0, 0), 1, 0), (120, .goto (-77), 3, (43, 0, 0, 0), 0, 0), (123, .aload_n 0, 1, (0, 0, 0, 0), 0, 0), (124, .iload_n 1, 1, (1, 0, 0, 0), 0, 0)]),
  (1000000, [(125, .invokevirtual 210, 3, (171, 4, 1, 0), 0, 0), (128, .ireturn, 1, (0, 0, 0, 0), 0, 0)])]
-- ShareNetsModel.turn(I)I
set_option maxRecDepth 100000 in
noncomputable def z_k188 : List (Nat × List (Nat × z_E)) := [(38, [(0, .iload_n 1, 1, (1, 0, 0, 0), 0, 0), (1, .invokestatic 199, 3, (162, 0, 1, 0), 0, 0), (4, .ifCond .ne 5, 3, (9, 0, 0, 0), 0, 0), (7, .iconst (-1), 1, (0, 0, 0, 0), (-1), 0), (8, .ireturn, 1, (0, 0, 0, 0), 0, 0), (9, .iconst 0, 1, (0, 0, 0, 0), 0, 0), (10, .istore_n 2, 1, (2, 0, 0, 0), 0, 0), (11, .iload_n 2, 1, (2, 0, 0, 0), 0, 0), (12, .aload_n 0, 1, (0, 0, 0, 0), 0, 0), (13, .getfield 7, 3, (0, 2, 12, 0), 0, 0), (16, .iload_n 1, 1, (1, 0, 0, 0), 0, 0), (17, .iaload, 1, (0, 0, 0, 0), 0, 0), (18, .if_icmp .ge 50, 3, (68, 0, 0, 0), 0, 0), (21, .aload_n 0, 1, (0, 0, 0, 0), 0, 0), (22, .getfield 13, 3, (1, 2, 12, 0), 0, 0), (25, .bipush 10, 2, (0, 0, 0, 0), 10, 0), (27, .iload_n 1, 1, (1, 0, 0, 0), 0, 0), (28, .imul, 1, (0, 0, 0, 0), 0, 0), (29, .iload_n 2, 1, (2, 0, 0, 0), 0, 0), (30, .iadd, 1, (0, 0, 0, 0), 0, 0), (31, .aload_n 0, 1, (0, 0, 0, 0), 0, 0), (32, .getfield 13, 3, (1, 2, 12, 0), 0, 0), (35, .bipush 10, 2, (0, 0, 0, 0), 10, 0), (37, .iload_n 1, 1, (1, 0, 0, 0), 0, 0)]),
  (68, [(38, .imul, 1, (0, 0, 0, 0), 0, 0), (39, .iload_n 2, 1, (2, 0, 0, 0), 0, 0), (40, .iadd, 1, (0, 0, 0, 0), 0, 0), (41, .iaload, 1, (0, 0, 0, 0), 0, 0), (42, .iconst (-1), 1, (0, 0, 0, 0), (-1), 0), (43, .ixor, 1, (0, 0, 0, 0), 0, 0), (44, .iconst 1, 1, (0, 0, 0, 0), 1, 0), (45, .aload_n 0, 1, (0, 0, 0, 0), 0, 0), (46, .getfield 7, 3, (0, 2, 12, 0), 0, 0), (49, .iload_n 1, 1, (1, 0, 0, 0), 0, 0), (50, .iaload, 1, (0, 0, 0, 0), 0, 0), (51, .ishl, 1, (0, 0, 0, 0), 0, 0), (52, .iconst 1, 1, (0, 0, 0, 0), 1, 0), (53, .isub, 1, (0, 0, 0, 0), 0, 0), (54, .iand, 1, (0, 0, 0, 0), 0, 0), (55, .iconst 1, 1, (0, 0, 0, 0), 1, 0), (56, .iload_n 2, 1, (2, 0, 0, 0), 0, 0), (57, .ishl, 1, (0, 0, 0, 0), 0, 0), (58, .iconst (-1), 1, (0, 0, 0, 0), (-1), 0), (59, .ixor, 1, (0, 0, 0, 0), 0, 0), (60, .iand, 1, (0, 0, 0, 0), 0, 0), (61, .iastore, 1, (0, 0, 0, 0), 0, 0), (62, .iinc 2 1, 3, (2, 0, 0, 0), 1, 0), (65, .goto (-54), 3, (11, 0, 0, 0), 0, 0)]),
  (1000000, [(68, .aload_n 0, 1, (0, 0, 0, 0), 0, 0), (69, .iload_n 1, 1, (1, 0, 0, 0), 0, 0), (70, .invokevirtual 210, 3, (171, 4, 1, 0), 0, 0), (73, .ireturn, 1, (0, 0, 0, 0), 0, 0)])]
-- ShareNetsModel.mayBe(III)Z
set_option maxRecDepth 100000 in
noncomputable def z_k189 : List (Nat × List (Nat × z_E)) := [(38, [(0, .aload_n 0, 1, (0, 0, 0, 0), 0, 0), (1, .getfield 13, 3, (1, 2, 12, 0), 0, 0), (4, .bipush 10, 2, (0, 0, 0, 0), 10, 0), (6, .iload_n 1, 1, (1, 0, 0, 0), 0, 0), (7, .imul, 1, (0, 0, 0, 0), 0, 0), (8, .iload_n 3, 1, (3, 0, 0, 0), 0, 0), (9, .iadd, 1, (0, 0, 0, 0), 0, 0), (10, .iaload, 1, (0, 0, 0, 0), 0, 0), (11, .invokestatic 125, 3, (170, 0, 1, 0), 0, 0), (14, .aload_n 0, 1, (0, 0, 0, 0), 0, 0), (15, .getfield 13, 3, (1, 2, 12, 0), 0, 0), (18, .bipush 10, 2, (0, 0, 0, 0), 10, 0), (20, .iload_n 2, 1, (2, 0, 0, 0), 0, 0), (21, .imul, 1, (0, 0, 0, 0), 0, 0), (22, .aload_n 0, 1, (0, 0, 0, 0), 0, 0), (23, .getfield 50, 3, (25, 2, 12, 0), 0, 0), (26, .iload_n 3, 1, (3, 0, 0, 0), 0, 0), (27, .iaload, 1, (0, 0, 0, 0), 0, 0), (28, .iadd, 1, (0, 0, 0, 0), 0, 0), (29, .iaload, 1, (0, 0, 0, 0), 0, 0), (30, .invokestatic 125, 3, (170, 0, 1, 0), 0, 0), (33, .if_icmp .eq 5, 3, (38, 0, 0, 0), 0, 0), (36, .iconst 0, 1, (0, 0, 0, 0), 0, 0), (37, .ireturn, 1, (1, 0, 0, 0), 0, 0)]),
  (79, [(38, .iconst 0, 1, (0, 0, 0, 0), 0, 0), (39, .istore 4, 2, (4, 0, 0, 0), 0, 0), (41, .iload 4, 2, (4, 0, 0, 0), 0, 0), (43, .iload_n 3, 1, (3, 0, 0, 0), 0, 0), (44, .if_icmp .ge 56, 3, (100, 0, 0, 0), 0, 0), (47, .aload_n 0, 1, (0, 0, 0, 0), 0, 0), (48, .getfield 50, 3, (25, 2, 12, 0), 0, 0), (51, .iload 4, 2, (4, 0, 0, 0), 0, 0), (53, .iaload, 1, (0, 0, 0, 0), 0, 0), (54, .aload_n 0, 1, (0, 0, 0, 0), 0, 0), (55, .getfield 50, 3, (25, 2, 12, 0), 0, 0), (58, .iload_n 3, 1, (3, 0, 0, 0), 0, 0), (59, .iaload, 1, (0, 0, 0, 0), 0, 0), (60, .if_icmp .eq 32, 3, (92, 0, 0, 0), 0, 0), (63, .aload_n 0, 1, (0, 0, 0, 0), 0, 0), (64, .iload_n 1, 1, (1, 0, 0, 0), 0, 0), (65, .iload 4, 2, (4, 0, 0, 0), 0, 0), (67, .iload_n 3, 1, (3, 0, 0, 0), 0, 0), (68, .invokevirtual 219, 3, (167, 4, 3, 0), 0, 0), (71, .aload_n 0, 1, (0, 0, 0, 0), 0, 0), (72, .iload_n 2, 1, (2, 0, 0, 0), 0, 0), (73, .aload_n 0, 1, (0, 0, 0, 0), 0, 0), (74, .getfield 50, 3, (25, 2, 12, 0), 0, 0), (77, .iload 4, 2, (4, 0, 0, 0), 0, 0)]),
  (1000000, [(79, .iaload, 1, (0, 0, 0, 0), 0, 0), (80, .aload_n 0, 1, (0, 0, 0, 0), 0, 0), (81, .getfield 50, 3, (25, 2, 12, 0), 0, 0), (84, .iload_n 3, 1, (3, 0, 0, 0), 0, 0), (85, .iaload, 1, (0, 0, 0, 0), 0, 0), (86, .invokevirtual 219, 3, (167, 4, 3, 0), 0, 0), (89, .if_icmp .eq 5, 3, (94, 0, 0, 0), 0, 0), (92, .iconst 0, 1, (0, 0, 0, 0), 0, 0), (93, .ireturn, 1, (1, 0, 0, 0), 0, 0), (94, .iinc 4 1, 3, (4, 0, 0, 0), 1, 0), (97, .goto (-56), 3, (41, 0, 0, 0), 0, 0), (100, .iconst 1, 1, (0, 0, 0, 0), 1, 0), (101, .ireturn, 1, (1, 0, 0, 0), 0, 0)])]
-- ShareNetsModel.same(II)I
set_option maxRecDepth 100000 in
noncomputable def z_k190 : List (Nat × List (Nat × z_E)) := [(39, [(0, .iload_n 1, 1, (1, 0, 0, 0), 0, 0), (1, .invokestatic 199, 3, (162, 0, 1, 0), 0, 0), (4, .ifCond .eq 10, 3, (14, 0, 0, 0), 0, 0), (7, .iload_n 2, 1, (2, 0, 0, 0), 0, 0), (8, .invokestatic 199, 3, (162, 0, 1, 0), 0, 0), (11, .ifCond .ne 5, 3, (16, 0, 0, 0), 0, 0), (14, .iconst (-1), 1, (0, 0, 0, 0), (-1), 0), (15, .ireturn, 1, (0, 0, 0, 0), 0, 0), (16, .aload_n 0, 1, (0, 0, 0, 0), 0, 0), (17, .getfield 7, 3, (0, 2, 12, 0), 0, 0), (20, .iload_n 1, 1, (1, 0, 0, 0), 0, 0), (21, .iaload, 1, (0, 0, 0, 0), 0, 0), (22, .istore_n 3, 1, (3, 0, 0, 0), 0, 0), (23, .iload_n 3, 1, (3, 0, 0, 0), 0, 0), (24, .aload_n 0, 1, (0, 0, 0, 0), 0, 0), (25, .getfield 7, 3, (0, 2, 12, 0), 0, 0), (28, .iload_n 2, 1, (2, 0, 0, 0), 0, 0), (29, .iaload, 1, (0, 0, 0, 0), 0, 0), (30, .if_icmp .eq 5, 3, (35, 0, 0, 0), 0, 0), (33, .iconst 0, 1, (0, 0, 0, 0), 0, 0), (34, .ireturn, 1, (0, 0, 0, 0), 0, 0), (35, .iconst 0, 1, (0, 0, 0, 0), 0, 0), (36, .istore 4, 2, (4, 0, 0, 0), 0, 0), (38, .aload_n 0, 1, (0, 0, 0, 0), 0, 0)]),
  (80, [(39, .getfield 50, 3, (25, 2, 12, 0), 0, 0), (42, .iconst 0, 1, (0, 0, 0, 0), 0, 0), (43, .iconst (-1), 1, (0, 0, 0, 0), (-1), 0), (44, .iastore, 1, (0, 0, 0, 0), 0, 0), (45, .iload 4, 2, (4, 0, 0, 0), 0, 0), (47, .ifCond .lt 66, 3, (113, 0, 0, 0), 0, 0), (50, .aload_n 0, 1, (0, 0, 0, 0), 0, 0), (51, .getfield 50, 3, (25, 2, 12, 0), 0, 0), (54, .iload 4, 2, (4, 0, 0, 0), 0, 0), (56, .dup2, 1, (0, 0, 0, 0), 0, 0), (57, .iaload, 1, (0, 0, 0, 0), 0, 0), (58, .iconst 1, 1, (0, 0, 0, 0), 1, 0), (59, .iadd, 1, (0, 0, 0, 0), 0, 0), (60, .iastore, 1, (0, 0, 0, 0), 0, 0), (61, .aload_n 0, 1, (0, 0, 0, 0), 0, 0), (62, .getfield 50, 3, (25, 2, 12, 0), 0, 0), (65, .iload 4, 2, (4, 0, 0, 0), 0, 0), (67, .iaload, 1, (0, 0, 0, 0), 0, 0), (68, .iload_n 3, 1, (3, 0, 0, 0), 0, 0), (69, .if_icmp .ne 9, 3, (78, 0, 0, 0), 0, 0), (72, .iinc 4 (-1), 3, (4, 0, 0, 0), (-1), 0), (75, .goto (-30), 3, (45, 0, 0, 0), 0, 0), (78, .aload_n 0, 1, (0, 0, 0, 0), 0, 0), (79, .iload_n 1, 1, (1, 0, 0, 0), 0, 0)]),
  (1000000, [(80, .iload_n 2, 1, (2, 0, 0, 0), 0, 0), (81, .iload 4, 2, (4, 0, 0, 0), 0, 0), (83, .invokevirtual 235, 3, (189, 4, 3, 0), 0, 0), (86, .ifCond .eq (-41), 3, (45, 0, 0, 0), 0, 0), (89, .iload 4, 2, (4, 0, 0, 0), 0, 0), (91, .iload_n 3, 1, (3, 0, 0, 0), 0, 0), (92, .iconst 1, 1, (0, 0, 0, 0), 1, 0), (93, .isub, 1, (0, 0, 0, 0), 0, 0), (94, .if_icmp .ne 5, 3, (99, 0, 0, 0), 0, 0), (97, .iconst 1, 1, (0, 0, 0, 0), 1, 0), (98, .ireturn, 1, (0, 0, 0, 0), 0, 0), (99, .iinc 4 1, 3, (4, 0, 0, 0), 1, 0), (102, .aload_n 0, 1, (0, 0, 0, 0), 0, 0), (103, .getfield 50, 3, (25, 2, 12, 0), 0, 0), (106, .iload 4, 2, (4, 0, 0, 0), 0, 0), (108, .iconst (-1), 1, (0, 0, 0, 0), (-1), 0), (109, .iastore, 1, (0, 0, 0, 0), 0, 0), (110, .goto (-65), 3, (45, 0, 0, 0), 0, 0), (113, .iconst 0, 1, (0, 0, 0, 0), 0, 0), (114, .ireturn, 1, (0, 0, 0, 0), 0, 0)])]
-- ShareNetsModel.form(II)I
set_option maxRecDepth 100000 in
noncomputable def z_k191 : List (Nat × List (Nat × z_E)) := [(1000000, [(0, .iload_n 1, 1, (1, 0, 0, 0), 0, 0), (1, .iload_n 2, 1, (2, 0, 0, 0), 0, 0), (2, .invokestatic 121, 3, (165, 0, 2, 0), 0, 0), (5, .ifCond .eq 17, 3, (22, 0, 0, 0), 0, 0), (8, .aload_n 0, 1, (0, 0, 0, 0), 0, 0), (9, .getfield 32, 3, (10, 2, 12, 0), 0, 0), (12, .bipush 64, 2, (0, 0, 0, 0), 64, 0), (14, .iload_n 1, 1, (1, 0, 0, 0), 0, 0), (15, .imul, 1, (0, 0, 0, 0), 0, 0), (16, .iload_n 2, 1, (2, 0, 0, 0), 0, 0), (17, .iadd, 1, (0, 0, 0, 0), 0, 0), (18, .iaload, 1, (0, 0, 0, 0), 0, 0), (19, .goto 4, 3, (23, 0, 0, 0), 0, 0), (22, .iconst (-1), 1, (0, 0, 0, 0), (-1), 0), (23, .ireturn, 1, (0, 0, 0, 0), 0, 0)])]
-- ShareNetsModel.formAt(II)I
set_option maxRecDepth 100000 in
noncomputable def z_k192 : List (Nat × List (Nat × z_E)) := [(39, [(0, .iload_n 1, 1, (1, 0, 0, 0), 0, 0), (1, .iconst 1, 1, (0, 0, 0, 0), 1, 0), (2, .iconst 4, 1, (0, 0, 0, 0), 4, 0), (3, .invokestatic 117, 3, (158, 0, 3, 0), 0, 0), (6, .ifCond .eq 7, 3, (13, 0, 0, 0), 0, 0), (9, .iload_n 2, 1, (2, 0, 0, 0), 0, 0), (10, .ifCond .ge 5, 3, (15, 0, 0, 0), 0, 0), (13, .iconst (-1), 1, (0, 0, 0, 0), (-1), 0), (14, .ireturn, 1, (0, 0, 0, 0), 0, 0), (15, .iload_n 2, 1, (2, 0, 0, 0), 0, 0), (16, .aload_n 0, 1, (0, 0, 0, 0), 0, 0), (17, .getfield 38, 3, (12, 2, 12, 0), 0, 0), (20, .iload_n 1, 1, (1, 0, 0, 0), 0, 0), (21, .iaload, 1, (0, 0, 0, 0), 0, 0), (22, .if_icmp .ge 17, 3, (39, 0, 0, 0), 0, 0), (25, .aload_n 0, 1, (0, 0, 0, 0), 0, 0), (26, .getfield 35, 3, (11, 2, 12, 0), 0, 0), (29, .bipush 11, 2, (0, 0, 0, 0), 11, 0), (31, .iload_n 1, 1, (1, 0, 0, 0), 0, 0), (32, .imul, 1, (0, 0, 0, 0), 0, 0), (33, .iload_n 2, 1, (2, 0, 0, 0), 0, 0), (34, .iadd, 1, (0, 0, 0, 0), 0, 0), (35, .iaload, 1, (0, 0, 0, 0), 0, 0), (36, .goto 5, 3, (41, 0, 0, 0), 0, 0)]),
  (1000000, [(39, .bipush (-3), 2, (0, 0, 0, 0), (-3), 0), (41, .ireturn, 1, (0, 0, 0, 0), 0, 0)])]
-- ShareNetsModel.formIn([III)I
set_option maxRecDepth 100000 in
noncomputable def z_k193 : List (Nat × List (Nat × z_E)) := [(42, [(0, .iconst 0, 1, (0, 0, 0, 0), 0, 0), (1, .istore 4, 2, (4, 0, 0, 0), 0, 0), (3, .iconst 0, 1, (0, 0, 0, 0), 0, 0), (4, .istore 5, 2, (5, 0, 0, 0), 0, 0), (6, .iconst 0, 1, (0, 0, 0, 0), 0, 0), (7, .istore 6, 2, (6, 0, 0, 0), 0, 0), (9, .iload 6, 2, (6, 0, 0, 0), 0, 0), (11, .bipush 10, 2, (0, 0, 0, 0), 10, 0), (13, .if_icmp .ge 80, 3, (93, 0, 0, 0), 0, 0), (16, .iload_n 3, 1, (3, 0, 0, 0), 0, 0), (17, .iload 6, 2, (6, 0, 0, 0), 0, 0), (19, .ishr, 1, (0, 0, 0, 0), 0, 0), (20, .iconst 1, 1, (0, 0, 0, 0), 1, 0), (21, .iand, 1, (0, 0, 0, 0), 0, 0), (22, .ifCond .ne 6, 3, (28, 0, 0, 0), 0, 0), (25, .goto 62, 3, (87, 0, 0, 0), 0, 0), (28, .iconst 0, 1, (0, 0, 0, 0), 0, 0), (29, .istore 7, 2, (7, 0, 0, 0), 0, 0), (31, .iconst 0, 1, (0, 0, 0, 0), 0, 0), (32, .istore 8, 2, (8, 0, 0, 0), 0, 0), (34, .iload 8, 2, (8, 0, 0, 0), 0, 0), (36, .iload 6, 2, (6, 0, 0, 0), 0, 0), (38, .if_icmp .ge 46, 3, (84, 0, 0, 0), 0, 0), (41, .iload_n 3, 1, (3, 0, 0, 0), 0, 0)]),
  (81, [(42, .iload 8, 2, (8, 0, 0, 0), 0, 0), (44, .ishr, 1, (0, 0, 0, 0), 0, 0), (45, .iconst 1, 1, (0, 0, 0, 0), 1, 0), (46, .iand, 1, (0, 0, 0, 0), 0, 0), (47, .iconst 1, 1, (0, 0, 0, 0), 1, 0), (48, .if_icmp .ne 30, 3, (78, 0, 0, 0), 0, 0), (51, .iload 4, 2, (4, 0, 0, 0), 0, 0), (53, .aload_n 1, 1, (1, 0, 0, 0), 0, 0), (54, .iload_n 2, 1, (2, 0, 0, 0), 0, 0), (55, .iload 6, 2, (6, 0, 0, 0), 0, 0), (57, .iadd, 1, (0, 0, 0, 0), 0, 0), (58, .iaload, 1, (0, 0, 0, 0), 0, 0), (59, .iload 8, 2, (8, 0, 0, 0), 0, 0), (61, .ishr, 1, (0, 0, 0, 0), 0, 0), (62, .iconst 1, 1, (0, 0, 0, 0), 1, 0), (63, .iand, 1, (0, 0, 0, 0), 0, 0), (64, .iload 7, 2, (7, 0, 0, 0), 0, 0), (66, .iload 5, 2, (5, 0, 0, 0), 0, 0), (68, .invokestatic 113, 3, (160, 0, 2, 0), 0, 0), (71, .ishl, 1, (0, 0, 0, 0), 0, 0), (72, .ior, 1, (0, 0, 0, 0), 0, 0), (73, .istore 4, 2, (4, 0, 0, 0), 0, 0), (75, .iinc 7 1, 3, (7, 0, 0, 0), 1, 0), (78, .iinc 8 1, 3, (8, 0, 0, 0), 1, 0)]),
  (1000000, [(81, .goto (-47), 3, (34, 0, 0, 0), 0, 0), (84, .iinc 5 1, 3, (5, 0, 0, 0), 1, 0), (87, .iinc 6 1, 3, (6, 0, 0, 0), 1, 0), (90, .goto (-81), 3, (9, 0, 0, 0), 0, 0), (93, .aload_n 0, 1, (0, 0, 0, 0), 0, 0), (94, .getfield 32, 3, (10, 2, 12, 0), 0, 0), (97, .bipush 64, 2, (0, 0, 0, 0), 64, 0), (99, .iload 5, 2, (5, 0, 0, 0), 0, 0), (101, .imul, 1, (0, 0, 0, 0), 0, 0), (102, .iload 4, 2, (4, 0, 0, 0), 0, 0), (104, .iadd, 1, (0, 0, 0, 0), 0, 0), (105, .iaload, 1, (0, 0, 0, 0), 0, 0), (106, .ireturn, 1, (0, 0, 0, 0), 0, 0)])]
-- ShareNetsModel.countIn([IIIII)I
set_option maxRecDepth 100000 in
noncomputable def z_k194 : List (Nat × List (Nat × z_E)) := [(44, [(0, .iconst 0, 1, (0, 0, 0, 0), 0, 0), (1, .istore 6, 2, (6, 0, 0, 0), 0, 0), (3, .iconst 0, 1, (0, 0, 0, 0), 0, 0), (4, .istore 7, 2, (7, 0, 0, 0), 0, 0), (6, .iload 7, 2, (7, 0, 0, 0), 0, 0), (8, .iconst 1, 1, (0, 0, 0, 0), 1, 0), (9, .iload_n 3, 1, (3, 0, 0, 0), 0, 0), (10, .ishl, 1, (0, 0, 0, 0), 0, 0), (11, .if_icmp .ge 42, 3, (53, 0, 0, 0), 0, 0), (14, .iload 6, 2, (6, 0, 0, 0), 0, 0), (16, .iload 7, 2, (7, 0, 0, 0), 0, 0), (18, .invokestatic 125, 3, (170, 0, 1, 0), 0, 0), (21, .iload 4, 2, (4, 0, 0, 0), 0, 0), (23, .if_icmp .ne 20, 3, (43, 0, 0, 0), 0, 0), (26, .aload_n 0, 1, (0, 0, 0, 0), 0, 0), (27, .aload_n 1, 1, (1, 0, 0, 0), 0, 0), (28, .iload_n 2, 1, (2, 0, 0, 0), 0, 0), (29, .iload 7, 2, (7, 0, 0, 0), 0, 0), (31, .invokevirtual 238, 3, (193, 4, 3, 0), 0, 0), (34, .iload 5, 2, (5, 0, 0, 0), 0, 0), (36, .if_icmp .ne 7, 3, (43, 0, 0, 0), 0, 0), (39, .iconst 1, 1, (0, 0, 0, 0), 1, 0), (40, .goto 4, 3, (44, 0, 0, 0), 0, 0), (43, .iconst 0, 1, (0, 0, 0, 0), 0, 0)]),
  (1000000, [(44, .iadd, 1, (0, 0, 0, 0), 0, 0), (45, .istore 6, 2, (6, 0, 0, 0), 0, 0), (47, .iinc 7 1, 3, (7, 0, 0, 0), 1, 0), (50, .goto (-44), 3, (6, 0, 0, 0), 0, 0), (53, .iload 6, 2, (6, 0, 0, 0), 0, 0), (55, .ireturn, 1, (0, 0, 0, 0), 0, 0)])]
-- ShareNetsModel.waysOf(II)I
set_option maxRecDepth 100000 in
noncomputable def z_k195 : List (Nat × List (Nat × z_E)) := [(1000000, [(0, .iconst 1, 1, (0, 0, 0, 0), 1, 0), (1, .istore_n 2, 1, (2, 0, 0, 0), 0, 0), (2, .iconst 0, 1, (0, 0, 0, 0), 0, 0), (3, .istore_n 3, 1, (3, 0, 0, 0), 0, 0), (4, .iload_n 3, 1, (3, 0, 0, 0), 0, 0), (5, .iload_n 1, 1, (1, 0, 0, 0), 0, 0), (6, .if_icmp .ge 19, 3, (25, 0, 0, 0), 0, 0), (9, .iload_n 2, 1, (2, 0, 0, 0), 0, 0), (10, .iload_n 0, 1, (0, 0, 0, 0), 0, 0), (11, .iload_n 3, 1, (3, 0, 0, 0), 0, 0), (12, .isub, 1, (0, 0, 0, 0), 0, 0), (13, .imul, 1, (0, 0, 0, 0), 0, 0), (14, .iload_n 3, 1, (3, 0, 0, 0), 0, 0), (15, .iconst 1, 1, (0, 0, 0, 0), 1, 0), (16, .iadd, 1, (0, 0, 0, 0), 0, 0), (17, .idiv, 1, (0, 0, 0, 0), 0, 0), (18, .istore_n 2, 1, (2, 0, 0, 0), 0, 0), (19, .iinc 3 1, 3, (3, 0, 0, 0), 1, 0), (22, .goto (-18), 3, (4, 0, 0, 0), 0, 0), (25, .iload_n 2, 1, (2, 0, 0, 0), 0, 0), (26, .ireturn, 1, (0, 0, 0, 0), 0, 0)])]
-- ShareNetsModel.countOf(III)I
set_option maxRecDepth 100000 in
noncomputable def z_k196 : List (Nat × List (Nat × z_E)) := [(1000000, [(0, .aload_n 0, 1, (0, 0, 0, 0), 0, 0), (1, .aload_n 0, 1, (0, 0, 0, 0), 0, 0), (2, .getfield 13, 3, (1, 2, 12, 0), 0, 0), (5, .bipush 10, 2, (0, 0, 0, 0), 10, 0), (7, .iload_n 1, 1, (1, 0, 0, 0), 0, 0), (8, .imul, 1, (0, 0, 0, 0), 0, 0), (9, .aload_n 0, 1, (0, 0, 0, 0), 0, 0), (10, .getfield 7, 3, (0, 2, 12, 0), 0, 0), (13, .iload_n 1, 1, (1, 0, 0, 0), 0, 0), (14, .iaload, 1, (0, 0, 0, 0), 0, 0), (15, .iload_n 2, 1, (2, 0, 0, 0), 0, 0), (16, .iload_n 3, 1, (3, 0, 0, 0), 0, 0), (17, .invokevirtual 242, 3, (194, 4, 5, 0), 0, 0), (20, .ireturn, 1, (0, 0, 0, 0), 0, 0)])]
-- ShareNetsModel.count(III)I
set_option maxRecDepth 100000 in
noncomputable def z_k197 : List (Nat × List (Nat × z_E)) := [(1000000, [(0, .iload_n 1, 1, (1, 0, 0, 0), 0, 0), (1, .invokestatic 199, 3, (162, 0, 1, 0), 0, 0), (4, .ifCond .eq 22, 3, (26, 0, 0, 0), 0, 0), (7, .aload_n 0, 1, (0, 0, 0, 0), 0, 0), (8, .iload_n 2, 1, (2, 0, 0, 0), 0, 0), (9, .iload_n 3, 1, (3, 0, 0, 0), 0, 0), (10, .invokevirtual 246, 3, (166, 4, 2, 0), 0, 0), (13, .ifCond .eq 13, 3, (26, 0, 0, 0), 0, 0), (16, .aload_n 0, 1, (0, 0, 0, 0), 0, 0), (17, .iload_n 1, 1, (1, 0, 0, 0), 0, 0), (18, .iload_n 2, 1, (2, 0, 0, 0), 0, 0), (19, .iload_n 3, 1, (3, 0, 0, 0), 0, 0), (20, .invokevirtual 249, 3, (196, 4, 3, 0), 0, 0), (23, .goto 4, 3, (27, 0, 0, 0), 0, 0), (26, .iconst (-1), 1, (0, 0, 0, 0), (-1), 0), (27, .ireturn, 1, (0, 0, 0, 0), 0, 0)])]
-- ShareNetsModel.lowest(JJ)V
set_option maxRecDepth 100000 in
noncomputable def z_k198 : List (Nat × List (Nat × z_E)) := [(42, [(0, .lload_n 1, 1, (1, 0, 0, 0), 0, 0), (1, .lconst 0, 1, (0, 0, 0, 0), 0, 0), (2, .lcmp, 1, (0, 0, 0, 0), 0, 0), (3, .ifCond .ge 8, 3, (11, 0, 0, 0), 0, 0), (6, .lload_n 1, 1, (1, 0, 0, 0), 0, 0), (7, .lneg, 1, (0, 0, 0, 0), 0, 0), (8, .goto 4, 3, (12, 0, 0, 0), 0, 0), (11, .lload_n 1, 1, (1, 0, 0, 0), 0, 0), (12, .lstore 5, 2, (5, 0, 0, 0), 0, 0), (14, .lload_n 3, 1, (3, 0, 0, 0), 0, 0), (15, .lstore 7, 2, (7, 0, 0, 0), 0, 0), (17, .lload 7, 2, (7, 0, 0, 0), 0, 0), (19, .lconst 0, 1, (0, 0, 0, 0), 0, 0), (20, .lcmp, 1, (0, 0, 0, 0), 0, 0), (21, .ifCond .eq 21, 3, (42, 0, 0, 0), 0, 0), (24, .lload 5, 2, (5, 0, 0, 0), 0, 0), (26, .lload 7, 2, (7, 0, 0, 0), 0, 0), (28, .lrem, 1, (0, 0, 0, 0), 0, 0), (29, .lstore 9, 2, (9, 0, 0, 0), 0, 0), (31, .lload 7, 2, (7, 0, 0, 0), 0, 0), (33, .lstore 5, 2, (5, 0, 0, 0), 0, 0), (35, .lload 9, 2, (9, 0, 0, 0), 0, 0), (37, .lstore 7, 2, (7, 0, 0, 0), 0, 0), (39, .goto (-22), 3, (17, 0, 0, 0), 0, 0)]),
  (1000000, [(42, .aload_n 0, 1, (0, 0, 0, 0), 0, 0), (43, .lload_n 1, 1, (1, 0, 0, 0), 0, 0), (44, .lload 5, 2, (5, 0, 0, 0), 0, 0), (46, .ldiv, 1, (0, 0, 0, 0), 0, 0), (47, .putfield 252, 3, (26, 1, 12, 0), 0, 0), (50, .aload_n 0, 1, (0, 0, 0, 0), 0, 0), (51, .lload_n 3, 1, (3, 0, 0, 0), 0, 0), (52, .lload 5, 2, (5, 0, 0, 0), 0, 0), (54, .ldiv, 1, (0, 0, 0, 0), 0, 0), (55, .putfield 255, 3, (27, 1, 12, 0), 0, 0), (58, .return_, 1, (0, 0, 0, 0), 0, 0)])]
-- ShareNetsModel.told(I)J
set_option maxRecDepth 100000 in
noncomputable def z_k199 : List (Nat × List (Nat × z_E)) := [(1000000, [(0, .iload_n 1, 1, (1, 0, 0, 0), 0, 0), (1, .ifCond .ne 10, 3, (11, 0, 0, 0), 0, 0), (4, .aload_n 0, 1, (0, 0, 0, 0), 0, 0), (5, .getfield 252, 3, (26, 1, 12, 0), 0, 0), (8, .goto 7, 3, (15, 0, 0, 0), 0, 0), (11, .aload_n 0, 1, (0, 0, 0, 0), 0, 0), (12, .getfield 255, 3, (27, 1, 12, 0), 0, 0), (15, .lreturn, 1, (0, 0, 0, 0), 0, 0)])]
-- ShareNetsModel.share(IIII)I
set_option maxRecDepth 100000 in
noncomputable def z_k200 : List (Nat × List (Nat × z_E)) := [(42, [(0, .iload_n 1, 1, (1, 0, 0, 0), 0, 0), (1, .invokestatic 199, 3, (162, 0, 1, 0), 0, 0), (4, .ifCond .eq 20, 3, (24, 0, 0, 0), 0, 0), (7, .aload_n 0, 1, (0, 0, 0, 0), 0, 0), (8, .iload_n 2, 1, (2, 0, 0, 0), 0, 0), (9, .iload_n 3, 1, (3, 0, 0, 0), 0, 0), (10, .invokevirtual 246, 3, (166, 4, 2, 0), 0, 0), (13, .ifCond .eq 11, 3, (24, 0, 0, 0), 0, 0), (16, .iload 4, 2, (4, 0, 0, 0), 0, 0), (18, .invokestatic 226, 3, (163, 0, 1, 0), 0, 0), (21, .ifCond .ne 5, 3, (26, 0, 0, 0), 0, 0), (24, .iconst (-1), 1, (0, 0, 0, 0), (-1), 0), (25, .ireturn, 1, (0, 0, 0, 0), 0, 0), (26, .aload_n 0, 1, (0, 0, 0, 0), 0, 0), (27, .getfield 7, 3, (0, 2, 12, 0), 0, 0), (30, .iload_n 1, 1, (1, 0, 0, 0), 0, 0), (31, .iaload, 1, (0, 0, 0, 0), 0, 0), (32, .iload_n 2, 1, (2, 0, 0, 0), 0, 0), (33, .if_icmp .ge 6, 3, (39, 0, 0, 0), 0, 0), (36, .bipush (-3), 2, (0, 0, 0, 0), (-3), 0), (38, .ireturn, 1, (0, 0, 0, 0), 0, 0), (39, .aload_n 0, 1, (0, 0, 0, 0), 0, 0), (40, .aload_n 0, 1, (0, 0, 0, 0), 0, 0), (41, .iload_n 1, 1, (1, 0, 0, 0), 0, 0)]),
  (1000000, [(42, .iload_n 2, 1, (2, 0, 0, 0), 0, 0), (43, .iload_n 3, 1, (3, 0, 0, 0), 0, 0), (44, .invokevirtual 249, 3, (196, 4, 3, 0), 0, 0), (47, .i2l, 1, (0, 0, 0, 0), 0, 0), (48, .aload_n 0, 1, (0, 0, 0, 0), 0, 0), (49, .getfield 7, 3, (0, 2, 12, 0), 0, 0), (52, .iload_n 1, 1, (1, 0, 0, 0), 0, 0), (53, .iaload, 1, (0, 0, 0, 0), 0, 0), (54, .iload_n 2, 1, (2, 0, 0, 0), 0, 0), (55, .invokestatic 258, 3, (195, 0, 2, 0), 0, 0), (58, .i2l, 1, (0, 0, 0, 0), 0, 0), (59, .invokevirtual 261, 3, (198, 4, 2, 0), 0, 0), (62, .aload_n 0, 1, (0, 0, 0, 0), 0, 0), (63, .iload 4, 2, (4, 0, 0, 0), 0, 0), (65, .invokevirtual 265, 3, (199, 4, 1, 0), 0, 0), (68, .l2i, 1, (0, 0, 0, 0), 0, 0), (69, .ireturn, 1, (0, 0, 0, 0), 0, 0)])]
-- ShareNetsModel.layLittle(II)V
set_option maxRecDepth 100000 in
noncomputable def z_k201 : List (Nat × List (Nat × z_E)) := [(39, [(0, .iconst 0, 1, (0, 0, 0, 0), 0, 0), (1, .istore_n 3, 1, (3, 0, 0, 0), 0, 0), (2, .iload_n 3, 1, (3, 0, 0, 0), 0, 0), (3, .iconst 5, 1, (0, 0, 0, 0), 5, 0), (4, .if_icmp .ge 16, 3, (20, 0, 0, 0), 0, 0), (7, .aload_n 0, 1, (0, 0, 0, 0), 0, 0), (8, .getfield 53, 3, (28, 2, 12, 0), 0, 0), (11, .iload_n 3, 1, (3, 0, 0, 0), 0, 0), (12, .iconst 0, 1, (0, 0, 0, 0), 0, 0), (13, .iastore, 1, (0, 0, 0, 0), 0, 0), (14, .iinc 3 1, 3, (3, 0, 0, 0), 1, 0), (17, .goto (-15), 3, (2, 0, 0, 0), 0, 0), (20, .iconst 1, 1, (0, 0, 0, 0), 1, 0), (21, .istore_n 3, 1, (3, 0, 0, 0), 0, 0), (22, .iload_n 3, 1, (3, 0, 0, 0), 0, 0), (23, .iload_n 1, 1, (1, 0, 0, 0), 0, 0), (24, .if_icmp .ge 64, 3, (88, 0, 0, 0), 0, 0), (27, .iconst 0, 1, (0, 0, 0, 0), 0, 0), (28, .istore 4, 2, (4, 0, 0, 0), 0, 0), (30, .iload 4, 2, (4, 0, 0, 0), 0, 0), (32, .iload_n 3, 1, (3, 0, 0, 0), 0, 0), (33, .if_icmp .ge 49, 3, (82, 0, 0, 0), 0, 0), (36, .iload_n 2, 1, (2, 0, 0, 0), 0, 0), (37, .iload 4, 2, (4, 0, 0, 0), 0, 0)]),
  (73, [(39, .iload_n 3, 1, (3, 0, 0, 0), 0, 0), (40, .invokestatic 113, 3, (160, 0, 2, 0), 0, 0), (43, .ishr, 1, (0, 0, 0, 0), 0, 0), (44, .iconst 1, 1, (0, 0, 0, 0), 1, 0), (45, .iand, 1, (0, 0, 0, 0), 0, 0), (46, .iconst 1, 1, (0, 0, 0, 0), 1, 0), (47, .if_icmp .ne 29, 3, (76, 0, 0, 0), 0, 0), (50, .aload_n 0, 1, (0, 0, 0, 0), 0, 0), (51, .getfield 53, 3, (28, 2, 12, 0), 0, 0), (54, .iload 4, 2, (4, 0, 0, 0), 0, 0), (56, .dup2, 1, (0, 0, 0, 0), 0, 0), (57, .iaload, 1, (0, 0, 0, 0), 0, 0), (58, .iconst 1, 1, (0, 0, 0, 0), 1, 0), (59, .iload_n 3, 1, (3, 0, 0, 0), 0, 0), (60, .ishl, 1, (0, 0, 0, 0), 0, 0), (61, .ior, 1, (0, 0, 0, 0), 0, 0), (62, .iastore, 1, (0, 0, 0, 0), 0, 0), (63, .aload_n 0, 1, (0, 0, 0, 0), 0, 0), (64, .getfield 53, 3, (28, 2, 12, 0), 0, 0), (67, .iload_n 3, 1, (3, 0, 0, 0), 0, 0), (68, .dup2, 1, (0, 0, 0, 0), 0, 0), (69, .iaload, 1, (0, 0, 0, 0), 0, 0), (70, .iconst 1, 1, (0, 0, 0, 0), 1, 0), (71, .iload 4, 2, (4, 0, 0, 0), 0, 0)]),
  (1000000, [(73, .ishl, 1, (0, 0, 0, 0), 0, 0), (74, .ior, 1, (0, 0, 0, 0), 0, 0), (75, .iastore, 1, (0, 0, 0, 0), 0, 0), (76, .iinc 4 1, 3, (4, 0, 0, 0), 1, 0), (79, .goto (-49), 3, (30, 0, 0, 0), 0, 0), (82, .iinc 3 1, 3, (3, 0, 0, 0), 1, 0), (85, .goto (-63), 3, (22, 0, 0, 0), 0, 0), (88, .return_, 1, (0, 0, 0, 0), 0, 0)])]
-- ShareNetsModel.countLittle(IIII)I
set_option maxRecDepth 100000 in
noncomputable def z_k202 : List (Nat × List (Nat × z_E)) := [(1000000, [(0, .aload_n 0, 1, (0, 0, 0, 0), 0, 0), (1, .iload_n 1, 1, (1, 0, 0, 0), 0, 0), (2, .iload_n 2, 1, (2, 0, 0, 0), 0, 0), (3, .invokevirtual 268, 3, (201, 4, 2, 0), 0, 0), (6, .aload_n 0, 1, (0, 0, 0, 0), 0, 0), (7, .aload_n 0, 1, (0, 0, 0, 0), 0, 0), (8, .getfield 53, 3, (28, 2, 12, 0), 0, 0), (11, .iconst 0, 1, (0, 0, 0, 0), 0, 0), (12, .iload_n 1, 1, (1, 0, 0, 0), 0, 0), (13, .iload_n 3, 1, (3, 0, 0, 0), 0, 0), (14, .iload 4, 2, (4, 0, 0, 0), 0, 0), (16, .invokevirtual 242, 3, (194, 4, 5, 0), 0, 0), (19, .ireturn, 1, (0, 0, 0, 0), 0, 0)])]
-- ShareNetsModel.lift(IIIII)I
set_option maxRecDepth 100000 in
noncomputable def z_k203 : List (Nat × List (Nat × z_E)) := [(43, [(0, .aload_n 0, 1, (0, 0, 0, 0), 0, 0), (1, .iload_n 1, 1, (1, 0, 0, 0), 0, 0), (2, .iload_n 2, 1, (2, 0, 0, 0), 0, 0), (3, .invokevirtual 246, 3, (166, 4, 2, 0), 0, 0), (6, .ifCond .eq 30, 3, (36, 0, 0, 0), 0, 0), (9, .iload_n 3, 1, (3, 0, 0, 0), 0, 0), (10, .iload_n 1, 1, (1, 0, 0, 0), 0, 0), (11, .iconst 4, 1, (0, 0, 0, 0), 4, 0), (12, .invokestatic 117, 3, (158, 0, 3, 0), 0, 0), (15, .ifCond .eq 21, 3, (36, 0, 0, 0), 0, 0), (18, .aload_n 0, 1, (0, 0, 0, 0), 0, 0), (19, .iload_n 3, 1, (3, 0, 0, 0), 0, 0), (20, .iload 4, 2, (4, 0, 0, 0), 0, 0), (22, .invokevirtual 246, 3, (166, 4, 2, 0), 0, 0), (25, .ifCond .eq 11, 3, (36, 0, 0, 0), 0, 0), (28, .iload 5, 2, (5, 0, 0, 0), 0, 0), (30, .invokestatic 226, 3, (163, 0, 1, 0), 0, 0), (33, .ifCond .ne 5, 3, (38, 0, 0, 0), 0, 0), (36, .iconst (-1), 1, (0, 0, 0, 0), (-1), 0), (37, .ireturn, 1, (0, 0, 0, 0), 0, 0), (38, .aload_n 0, 1, (0, 0, 0, 0), 0, 0), (39, .aload_n 0, 1, (0, 0, 0, 0), 0, 0), (40, .iload_n 3, 1, (3, 0, 0, 0), 0, 0), (41, .iload 4, 2, (4, 0, 0, 0), 0, 0)]),
  (1000000, [(43, .iload_n 1, 1, (1, 0, 0, 0), 0, 0), (44, .iload_n 2, 1, (2, 0, 0, 0), 0, 0), (45, .invokevirtual 271, 3, (202, 4, 4, 0), 0, 0), (48, .i2l, 1, (0, 0, 0, 0), 0, 0), (49, .iload_n 3, 1, (3, 0, 0, 0), 0, 0), (50, .iload_n 1, 1, (1, 0, 0, 0), 0, 0), (51, .invokestatic 258, 3, (195, 0, 2, 0), 0, 0), (54, .i2l, 1, (0, 0, 0, 0), 0, 0), (55, .invokevirtual 261, 3, (198, 4, 2, 0), 0, 0), (58, .aload_n 0, 1, (0, 0, 0, 0), 0, 0), (59, .iload 5, 2, (5, 0, 0, 0), 0, 0), (61, .invokevirtual 265, 3, (199, 4, 1, 0), 0, 0), (64, .l2i, 1, (0, 0, 0, 0), 0, 0), (65, .ireturn, 1, (0, 0, 0, 0), 0, 0)])]
-- ShareNetsModel.outAt(II)I
set_option maxRecDepth 100000 in
noncomputable def z_k204 : List (Nat × List (Nat × z_E)) := [(36, [(0, .iconst 0, 1, (0, 0, 0, 0), 0, 0), (1, .istore_n 3, 1, (3, 0, 0, 0), 0, 0), (2, .iload_n 3, 1, (3, 0, 0, 0), 0, 0), (3, .aload_n 0, 1, (0, 0, 0, 0), 0, 0), (4, .getfield 275, 3, (2, 0, 12, 0), 0, 0), (7, .if_icmp .ge 37, 3, (44, 0, 0, 0), 0, 0), (10, .aload_n 0, 1, (0, 0, 0, 0), 0, 0), (11, .getfield 16, 3, (3, 2, 12, 0), 0, 0), (14, .iconst 2, 1, (0, 0, 0, 0), 2, 0), (15, .iload_n 3, 1, (3, 0, 0, 0), 0, 0), (16, .imul, 1, (0, 0, 0, 0), 0, 0), (17, .iaload, 1, (0, 0, 0, 0), 0, 0), (18, .iload_n 1, 1, (1, 0, 0, 0), 0, 0), (19, .if_icmp .ne 19, 3, (38, 0, 0, 0), 0, 0), (22, .aload_n 0, 1, (0, 0, 0, 0), 0, 0), (23, .getfield 16, 3, (3, 2, 12, 0), 0, 0), (26, .iconst 2, 1, (0, 0, 0, 0), 2, 0), (27, .iload_n 3, 1, (3, 0, 0, 0), 0, 0), (28, .imul, 1, (0, 0, 0, 0), 0, 0), (29, .iconst 1, 1, (0, 0, 0, 0), 1, 0), (30, .iadd, 1, (0, 0, 0, 0), 0, 0), (31, .iaload, 1, (0, 0, 0, 0), 0, 0), (32, .iload_n 2, 1, (2, 0, 0, 0), 0, 0), (33, .if_icmp .ne 5, 3, (38, 0, 0, 0), 0, 0)]),
  (1000000, [(36, .iload_n 3, 1, (3, 0, 0, 0), 0, 0), (37, .ireturn, 1, (0, 0, 0, 0), 0, 0), (38, .iinc 3 1, 3, (3, 0, 0, 0), 1, 0), (41, .goto (-39), 3, (2, 0, 0, 0), 0, 0), (44, .iconst (-1), 1, (0, 0, 0, 0), (-1), 0), (45, .ireturn, 1, (0, 0, 0, 0), 0, 0)])]
-- ShareNetsModel.out(IIZ)I
set_option maxRecDepth 100000 in
noncomputable def z_k205 : List (Nat × List (Nat × z_E)) := [(42, [(0, .iload_n 1, 1, (1, 0, 0, 0), 0, 0), (1, .iconst 2, 1, (0, 0, 0, 0), 2, 0), (2, .iconst 4, 1, (0, 0, 0, 0), 4, 0), (3, .invokestatic 117, 3, (158, 0, 3, 0), 0, 0), (6, .ifCond .eq 12, 3, (18, 0, 0, 0), 0, 0), (9, .aload_n 0, 1, (0, 0, 0, 0), 0, 0), (10, .iload_n 1, 1, (1, 0, 0, 0), 0, 0), (11, .iload_n 2, 1, (2, 0, 0, 0), 0, 0), (12, .invokevirtual 246, 3, (166, 4, 2, 0), 0, 0), (15, .ifCond .ne 5, 3, (20, 0, 0, 0), 0, 0), (18, .iconst (-1), 1, (0, 0, 0, 0), (-1), 0), (19, .ireturn, 1, (0, 0, 0, 0), 0, 0), (20, .aload_n 0, 1, (0, 0, 0, 0), 0, 0), (21, .iload_n 1, 1, (1, 0, 0, 0), 0, 0), (22, .iload_n 2, 1, (2, 0, 0, 0), 0, 0), (23, .invokevirtual 278, 3, (204, 4, 2, 0), 0, 0), (26, .istore 4, 2, (4, 0, 0, 0), 0, 0), (28, .iload 4, 2, (4, 0, 0, 0), 0, 0), (30, .ifCond .lt 7, 3, (37, 0, 0, 0), 0, 0), (33, .iconst 1, 1, (0, 0, 0, 0), 1, 0), (34, .goto 4, 3, (38, 0, 0, 0), 0, 0), (37, .iconst 0, 1, (0, 0, 0, 0), 0, 0), (38, .iload_n 3, 1, (3, 0, 0, 0), 0, 0), (39, .if_icmp .ne 5, 3, (44, 0, 0, 0), 0, 0)]),
  (81, [(42, .iconst 0, 1, (0, 0, 0, 0), 0, 0), (43, .ireturn, 1, (0, 0, 0, 0), 0, 0), (44, .iload_n 3, 1, (3, 0, 0, 0), 0, 0), (45, .ifCond .eq 14, 3, (59, 0, 0, 0), 0, 0), (48, .aload_n 0, 1, (0, 0, 0, 0), 0, 0), (49, .getfield 275, 3, (2, 0, 12, 0), 0, 0), (52, .iconst 4, 1, (0, 0, 0, 0), 4, 0), (53, .if_icmp .ne 6, 3, (59, 0, 0, 0), 0, 0), (56, .bipush (-2), 2, (0, 0, 0, 0), (-2), 0), (58, .ireturn, 1, (0, 0, 0, 0), 0, 0), (59, .iload_n 3, 1, (3, 0, 0, 0), 0, 0), (60, .ifCond .eq 42, 3, (102, 0, 0, 0), 0, 0), (63, .aload_n 0, 1, (0, 0, 0, 0), 0, 0), (64, .getfield 16, 3, (3, 2, 12, 0), 0, 0), (67, .iconst 2, 1, (0, 0, 0, 0), 2, 0), (68, .aload_n 0, 1, (0, 0, 0, 0), 0, 0), (69, .getfield 275, 3, (2, 0, 12, 0), 0, 0), (72, .imul, 1, (0, 0, 0, 0), 0, 0), (73, .iload_n 1, 1, (1, 0, 0, 0), 0, 0), (74, .iastore, 1, (0, 0, 0, 0), 0, 0), (75, .aload_n 0, 1, (0, 0, 0, 0), 0, 0), (76, .getfield 16, 3, (3, 2, 12, 0), 0, 0), (79, .iconst 2, 1, (0, 0, 0, 0), 2, 0), (80, .aload_n 0, 1, (0, 0, 0, 0), 0, 0)]),
  (120, [(81, .getfield 275, 3, (2, 0, 12, 0), 0, 0), (84, .imul, 1, (0, 0, 0, 0), 0, 0), (85, .iconst 1, 1, (0, 0, 0, 0), 1, 0), (86, .iadd, 1, (0, 0, 0, 0), 0, 0), (87, .iload_n 2, 1, (2, 0, 0, 0), 0, 0), (88, .iastore, 1, (0, 0, 0, 0), 0, 0), (89, .aload_n 0, 1, (0, 0, 0, 0), 0, 0), (90, .dup, 1, (0, 0, 0, 0), 0, 0), (91, .getfield 275, 3, (2, 0, 12, 0), 0, 0), (94, .iconst 1, 1, (0, 0, 0, 0), 1, 0), (95, .iadd, 1, (0, 0, 0, 0), 0, 0), (96, .putfield 275, 3, (2, 0, 12, 0), 0, 0), (99, .goto 57, 3, (156, 0, 0, 0), 0, 0), (102, .aload_n 0, 1, (0, 0, 0, 0), 0, 0), (103, .dup, 1, (0, 0, 0, 0), 0, 0), (104, .getfield 275, 3, (2, 0, 12, 0), 0, 0), (107, .iconst 1, 1, (0, 0, 0, 0), 1, 0), (108, .isub, 1, (0, 0, 0, 0), 0, 0), (109, .putfield 275, 3, (2, 0, 12, 0), 0, 0), (112, .aload_n 0, 1, (0, 0, 0, 0), 0, 0), (113, .getfield 16, 3, (3, 2, 12, 0), 0, 0), (116, .iconst 2, 1, (0, 0, 0, 0), 2, 0), (117, .iload 4, 2, (4, 0, 0, 0), 0, 0), (119, .imul, 1, (0, 0, 0, 0), 0, 0)]),
  (155, [(120, .aload_n 0, 1, (0, 0, 0, 0), 0, 0), (121, .getfield 16, 3, (3, 2, 12, 0), 0, 0), (124, .iconst 2, 1, (0, 0, 0, 0), 2, 0), (125, .aload_n 0, 1, (0, 0, 0, 0), 0, 0), (126, .getfield 275, 3, (2, 0, 12, 0), 0, 0), (129, .imul, 1, (0, 0, 0, 0), 0, 0), (130, .iaload, 1, (0, 0, 0, 0), 0, 0), (131, .iastore, 1, (0, 0, 0, 0), 0, 0), (132, .aload_n 0, 1, (0, 0, 0, 0), 0, 0), (133, .getfield 16, 3, (3, 2, 12, 0), 0, 0), (136, .iconst 2, 1, (0, 0, 0, 0), 2, 0), (137, .iload 4, 2, (4, 0, 0, 0), 0, 0), (139, .imul, 1, (0, 0, 0, 0), 0, 0), (140, .iconst 1, 1, (0, 0, 0, 0), 1, 0), (141, .iadd, 1, (0, 0, 0, 0), 0, 0), (142, .aload_n 0, 1, (0, 0, 0, 0), 0, 0), (143, .getfield 16, 3, (3, 2, 12, 0), 0, 0), (146, .iconst 2, 1, (0, 0, 0, 0), 2, 0), (147, .aload_n 0, 1, (0, 0, 0, 0), 0, 0), (148, .getfield 275, 3, (2, 0, 12, 0), 0, 0), (151, .imul, 1, (0, 0, 0, 0), 0, 0), (152, .iconst 1, 1, (0, 0, 0, 0), 1, 0), (153, .iadd, 1, (0, 0, 0, 0), 0, 0), (154, .iaload, 1, (0, 0, 0, 0), 0, 0)]),
  (1000000, [(155, .iastore, 1, (0, 0, 0, 0), 0, 0), (156, .iconst 1, 1, (0, 0, 0, 0), 1, 0), (157, .ireturn, 1, (0, 0, 0, 0), 0, 0)])]
-- ShareNetsModel.isFreeIn([III)Z
set_option maxRecDepth 100000 in
noncomputable def z_k206 : List (Nat × List (Nat × z_E)) := [(36, [(0, .iconst 0, 1, (0, 0, 0, 0), 0, 0), (1, .istore 4, 2, (4, 0, 0, 0), 0, 0), (3, .iload 4, 2, (4, 0, 0, 0), 0, 0), (5, .aload_n 0, 1, (0, 0, 0, 0), 0, 0), (6, .getfield 275, 3, (2, 0, 12, 0), 0, 0), (9, .if_icmp .ge 41, 3, (50, 0, 0, 0), 0, 0), (12, .aload_n 0, 1, (0, 0, 0, 0), 0, 0), (13, .aload_n 1, 1, (1, 0, 0, 0), 0, 0), (14, .iload_n 2, 1, (2, 0, 0, 0), 0, 0), (15, .iload_n 3, 1, (3, 0, 0, 0), 0, 0), (16, .aload_n 0, 1, (0, 0, 0, 0), 0, 0), (17, .getfield 16, 3, (3, 2, 12, 0), 0, 0), (20, .iconst 2, 1, (0, 0, 0, 0), 2, 0), (21, .iload 4, 2, (4, 0, 0, 0), 0, 0), (23, .imul, 1, (0, 0, 0, 0), 0, 0), (24, .iaload, 1, (0, 0, 0, 0), 0, 0), (25, .aload_n 0, 1, (0, 0, 0, 0), 0, 0), (26, .getfield 16, 3, (3, 2, 12, 0), 0, 0), (29, .iconst 2, 1, (0, 0, 0, 0), 2, 0), (30, .iload 4, 2, (4, 0, 0, 0), 0, 0), (32, .imul, 1, (0, 0, 0, 0), 0, 0), (33, .iconst 1, 1, (0, 0, 0, 0), 1, 0), (34, .iadd, 1, (0, 0, 0, 0), 0, 0), (35, .iaload, 1, (0, 0, 0, 0), 0, 0)]),
  (1000000, [(36, .invokevirtual 242, 3, (194, 4, 5, 0), 0, 0), (39, .ifCond .le 5, 3, (44, 0, 0, 0), 0, 0), (42, .iconst 0, 1, (0, 0, 0, 0), 0, 0), (43, .ireturn, 1, (1, 0, 0, 0), 0, 0), (44, .iinc 4 1, 3, (4, 0, 0, 0), 1, 0), (47, .goto (-44), 3, (3, 0, 0, 0), 0, 0), (50, .iconst 1, 1, (0, 0, 0, 0), 1, 0), (51, .ireturn, 1, (1, 0, 0, 0), 0, 0)])]
-- ShareNetsModel.free(I)I
set_option maxRecDepth 100000 in
noncomputable def z_k207 : List (Nat × List (Nat × z_E)) := [(1000000, [(0, .iload_n 1, 1, (1, 0, 0, 0), 0, 0), (1, .invokestatic 199, 3, (162, 0, 1, 0), 0, 0), (4, .ifCond .ne 5, 3, (9, 0, 0, 0), 0, 0), (7, .iconst (-1), 1, (0, 0, 0, 0), (-1), 0), (8, .ireturn, 1, (0, 0, 0, 0), 0, 0), (9, .aload_n 0, 1, (0, 0, 0, 0), 0, 0), (10, .aload_n 0, 1, (0, 0, 0, 0), 0, 0), (11, .getfield 13, 3, (1, 2, 12, 0), 0, 0), (14, .bipush 10, 2, (0, 0, 0, 0), 10, 0), (16, .iload_n 1, 1, (1, 0, 0, 0), 0, 0), (17, .imul, 1, (0, 0, 0, 0), 0, 0), (18, .aload_n 0, 1, (0, 0, 0, 0), 0, 0), (19, .getfield 7, 3, (0, 2, 12, 0), 0, 0), (22, .iload_n 1, 1, (1, 0, 0, 0), 0, 0), (23, .iaload, 1, (0, 0, 0, 0), 0, 0), (24, .invokevirtual 281, 3, (206, 4, 3, 0), 0, 0), (27, .ifCond .eq 7, 3, (34, 0, 0, 0), 0, 0), (30, .iconst 1, 1, (0, 0, 0, 0), 1, 0), (31, .goto 4, 3, (35, 0, 0, 0), 0, 0), (34, .iconst 0, 1, (0, 0, 0, 0), 0, 0), (35, .ireturn, 1, (0, 0, 0, 0), 0, 0)])]
-- ShareNetsModel.heapOf(I)I
set_option maxRecDepth 100000 in
noncomputable def z_k208 : List (Nat × List (Nat × z_E)) := [(33, [(0, .iconst 0, 1, (0, 0, 0, 0), 0, 0), (1, .istore_n 2, 1, (2, 0, 0, 0), 0, 0), (2, .iconst 0, 1, (0, 0, 0, 0), 0, 0), (3, .istore_n 3, 1, (3, 0, 0, 0), 0, 0), (4, .iload_n 3, 1, (3, 0, 0, 0), 0, 0), (5, .aload_n 0, 1, (0, 0, 0, 0), 0, 0), (6, .getfield 38, 3, (12, 2, 12, 0), 0, 0), (9, .iload_n 1, 1, (1, 0, 0, 0), 0, 0), (10, .iaload, 1, (0, 0, 0, 0), 0, 0), (11, .if_icmp .ge 48, 3, (59, 0, 0, 0), 0, 0), (14, .aload_n 0, 1, (0, 0, 0, 0), 0, 0), (15, .iload_n 1, 1, (1, 0, 0, 0), 0, 0), (16, .aload_n 0, 1, (0, 0, 0, 0), 0, 0), (17, .getfield 35, 3, (11, 2, 12, 0), 0, 0), (20, .bipush 11, 2, (0, 0, 0, 0), 11, 0), (22, .iload_n 1, 1, (1, 0, 0, 0), 0, 0), (23, .imul, 1, (0, 0, 0, 0), 0, 0), (24, .iload_n 3, 1, (3, 0, 0, 0), 0, 0), (25, .iadd, 1, (0, 0, 0, 0), 0, 0), (26, .iaload, 1, (0, 0, 0, 0), 0, 0), (27, .invokevirtual 268, 3, (201, 4, 2, 0), 0, 0), (30, .iload_n 2, 1, (2, 0, 0, 0), 0, 0), (31, .aload_n 0, 1, (0, 0, 0, 0), 0, 0), (32, .aload_n 0, 1, (0, 0, 0, 0), 0, 0)]),
  (1000000, [(33, .getfield 53, 3, (28, 2, 12, 0), 0, 0), (36, .iconst 0, 1, (0, 0, 0, 0), 0, 0), (37, .iload_n 1, 1, (1, 0, 0, 0), 0, 0), (38, .invokevirtual 281, 3, (206, 4, 3, 0), 0, 0), (41, .ifCond .eq 9, 3, (50, 0, 0, 0), 0, 0), (44, .iconst 1, 1, (0, 0, 0, 0), 1, 0), (45, .iload_n 3, 1, (3, 0, 0, 0), 0, 0), (46, .ishl, 1, (0, 0, 0, 0), 0, 0), (47, .goto 4, 3, (51, 0, 0, 0), 0, 0), (50, .iconst 0, 1, (0, 0, 0, 0), 0, 0), (51, .ior, 1, (0, 0, 0, 0), 0, 0), (52, .istore_n 2, 1, (2, 0, 0, 0), 0, 0), (53, .iinc 3 1, 3, (3, 0, 0, 0), 1, 0), (56, .goto (-52), 3, (4, 0, 0, 0), 0, 0), (59, .iload_n 2, 1, (2, 0, 0, 0), 0, 0), (60, .ireturn, 1, (0, 0, 0, 0), 0, 0)])]
-- ShareNetsModel.heap(I)I
set_option maxRecDepth 100000 in
noncomputable def z_k209 : List (Nat × List (Nat × z_E)) := [(1000000, [(0, .iload_n 1, 1, (1, 0, 0, 0), 0, 0), (1, .iconst 2, 1, (0, 0, 0, 0), 2, 0), (2, .iconst 4, 1, (0, 0, 0, 0), 4, 0), (3, .invokestatic 117, 3, (158, 0, 3, 0), 0, 0), (6, .ifCond .eq 11, 3, (17, 0, 0, 0), 0, 0), (9, .aload_n 0, 1, (0, 0, 0, 0), 0, 0), (10, .iload_n 1, 1, (1, 0, 0, 0), 0, 0), (11, .invokevirtual 285, 3, (208, 4, 1, 0), 0, 0), (14, .goto 4, 3, (18, 0, 0, 0), 0, 0), (17, .iconst (-1), 1, (0, 0, 0, 0), (-1), 0), (18, .ireturn, 1, (0, 0, 0, 0), 0, 0)])]
-- ShareNetsModel.most(III)I
set_option maxRecDepth 100000 in
noncomputable def z_k210 : List (Nat × List (Nat × z_E)) := [(40, [(0, .iload_n 1, 1, (1, 0, 0, 0), 0, 0), (1, .iconst 1, 1, (0, 0, 0, 0), 1, 0), (2, .iconst 5, 1, (0, 0, 0, 0), 5, 0), (3, .invokestatic 117, 3, (158, 0, 3, 0), 0, 0), (6, .ifCond .eq 12, 3, (18, 0, 0, 0), 0, 0), (9, .aload_n 0, 1, (0, 0, 0, 0), 0, 0), (10, .iload_n 2, 1, (2, 0, 0, 0), 0, 0), (11, .iload_n 3, 1, (3, 0, 0, 0), 0, 0), (12, .invokevirtual 246, 3, (166, 4, 2, 0), 0, 0), (15, .ifCond .ne 5, 3, (20, 0, 0, 0), 0, 0), (18, .iconst (-1), 1, (0, 0, 0, 0), (-1), 0), (19, .ireturn, 1, (0, 0, 0, 0), 0, 0), (20, .bipush (-3), 2, (0, 0, 0, 0), (-3), 0), (22, .istore 4, 2, (4, 0, 0, 0), 0, 0), (24, .iconst 0, 1, (0, 0, 0, 0), 0, 0), (25, .istore 5, 2, (5, 0, 0, 0), 0, 0), (27, .iload 5, 2, (5, 0, 0, 0), 0, 0), (29, .iconst 1, 1, (0, 0, 0, 0), 1, 0), (30, .iload_n 1, 1, (1, 0, 0, 0), 0, 0), (31, .invokestatic 105, 3, (159, 0, 1, 0), 0, 0), (34, .ishl, 1, (0, 0, 0, 0), 0, 0), (35, .if_icmp .ge 64, 3, (99, 0, 0, 0), 0, 0), (38, .aload_n 0, 1, (0, 0, 0, 0), 0, 0), (39, .iload_n 1, 1, (1, 0, 0, 0), 0, 0)]),
  (86, [(40, .iload 5, 2, (5, 0, 0, 0), 0, 0), (42, .invokevirtual 268, 3, (201, 4, 2, 0), 0, 0), (45, .aload_n 0, 1, (0, 0, 0, 0), 0, 0), (46, .aload_n 0, 1, (0, 0, 0, 0), 0, 0), (47, .getfield 53, 3, (28, 2, 12, 0), 0, 0), (50, .iconst 0, 1, (0, 0, 0, 0), 0, 0), (51, .iload_n 1, 1, (1, 0, 0, 0), 0, 0), (52, .invokevirtual 281, 3, (206, 4, 3, 0), 0, 0), (55, .ifCond .eq 18, 3, (73, 0, 0, 0), 0, 0), (58, .aload_n 0, 1, (0, 0, 0, 0), 0, 0), (59, .aload_n 0, 1, (0, 0, 0, 0), 0, 0), (60, .getfield 53, 3, (28, 2, 12, 0), 0, 0), (63, .iconst 0, 1, (0, 0, 0, 0), 0, 0), (64, .iload_n 1, 1, (1, 0, 0, 0), 0, 0), (65, .iload_n 2, 1, (2, 0, 0, 0), 0, 0), (66, .iload_n 3, 1, (3, 0, 0, 0), 0, 0), (67, .invokevirtual 242, 3, (194, 4, 5, 0), 0, 0), (70, .goto 5, 3, (75, 0, 0, 0), 0, 0), (73, .bipush (-3), 2, (0, 0, 0, 0), (-3), 0), (75, .istore 6, 2, (6, 0, 0, 0), 0, 0), (77, .iload 6, 2, (6, 0, 0, 0), 0, 0), (79, .iload 4, 2, (4, 0, 0, 0), 0, 0), (81, .if_icmp .le 8, 3, (89, 0, 0, 0), 0, 0), (84, .iload 6, 2, (6, 0, 0, 0), 0, 0)]),
  (1000000, [(86, .goto 5, 3, (91, 0, 0, 0), 0, 0), (89, .iload 4, 2, (4, 0, 0, 0), 0, 0), (91, .istore 4, 2, (4, 0, 0, 0), 0, 0), (93, .iinc 5 1, 3, (5, 0, 0, 0), 1, 0), (96, .goto (-69), 3, (27, 0, 0, 0), 0, 0), (99, .iload 4, 2, (4, 0, 0, 0), 0, 0), (101, .ireturn, 1, (0, 0, 0, 0), 0, 0)])]
-- ShareNetsModel.part(I)I
set_option maxRecDepth 100000 in
noncomputable def z_k211 : List (Nat × List (Nat × z_E)) := [(40, [(0, .iload_n 1, 1, (1, 0, 0, 0), 0, 0), (1, .iconst 1, 1, (0, 0, 0, 0), 1, 0), (2, .bipush 9, 2, (0, 0, 0, 0), 9, 0), (4, .invokestatic 117, 3, (158, 0, 3, 0), 0, 0), (7, .ifCond .ne 5, 3, (12, 0, 0, 0), 0, 0), (10, .iconst (-1), 1, (0, 0, 0, 0), (-1), 0), (11, .ireturn, 1, (0, 0, 0, 0), 0, 0), (12, .aload_n 0, 1, (0, 0, 0, 0), 0, 0), (13, .getfield 288, 3, (4, 0, 12, 0), 0, 0), (16, .iconst 5, 1, (0, 0, 0, 0), 5, 0), (17, .if_icmp .ne 6, 3, (23, 0, 0, 0), 0, 0), (20, .bipush (-2), 2, (0, 0, 0, 0), (-2), 0), (22, .ireturn, 1, (0, 0, 0, 0), 0, 0), (23, .aload_n 0, 1, (0, 0, 0, 0), 0, 0), (24, .getfield 19, 3, (5, 2, 12, 0), 0, 0), (27, .aload_n 0, 1, (0, 0, 0, 0), 0, 0), (28, .getfield 288, 3, (4, 0, 12, 0), 0, 0), (31, .iload_n 1, 1, (1, 0, 0, 0), 0, 0), (32, .iastore, 1, (0, 0, 0, 0), 0, 0), (33, .iconst 0, 1, (0, 0, 0, 0), 0, 0), (34, .istore_n 2, 1, (2, 0, 0, 0), 0, 0), (35, .iload_n 2, 1, (2, 0, 0, 0), 0, 0), (36, .aload_n 0, 1, (0, 0, 0, 0), 0, 0), (37, .getfield 288, 3, (4, 0, 12, 0), 0, 0)]),
  (78, [(40, .if_icmp .gt 37, 3, (77, 0, 0, 0), 0, 0), (43, .aload_n 0, 1, (0, 0, 0, 0), 0, 0), (44, .getfield 22, 3, (6, 2, 12, 0), 0, 0), (47, .iconst 5, 1, (0, 0, 0, 0), 5, 0), (48, .iload_n 2, 1, (2, 0, 0, 0), 0, 0), (49, .imul, 1, (0, 0, 0, 0), 0, 0), (50, .aload_n 0, 1, (0, 0, 0, 0), 0, 0), (51, .getfield 288, 3, (4, 0, 12, 0), 0, 0), (54, .iadd, 1, (0, 0, 0, 0), 0, 0), (55, .iconst 0, 1, (0, 0, 0, 0), 0, 0), (56, .iastore, 1, (0, 0, 0, 0), 0, 0), (57, .aload_n 0, 1, (0, 0, 0, 0), 0, 0), (58, .getfield 22, 3, (6, 2, 12, 0), 0, 0), (61, .iconst 5, 1, (0, 0, 0, 0), 5, 0), (62, .aload_n 0, 1, (0, 0, 0, 0), 0, 0), (63, .getfield 288, 3, (4, 0, 12, 0), 0, 0), (66, .imul, 1, (0, 0, 0, 0), 0, 0), (67, .iload_n 2, 1, (2, 0, 0, 0), 0, 0), (68, .iadd, 1, (0, 0, 0, 0), 0, 0), (69, .iconst 0, 1, (0, 0, 0, 0), 0, 0), (70, .iastore, 1, (0, 0, 0, 0), 0, 0), (71, .iinc 2 1, 3, (2, 0, 0, 0), 1, 0), (74, .goto (-39), 3, (35, 0, 0, 0), 0, 0), (77, .aload_n 0, 1, (0, 0, 0, 0), 0, 0)]),
  (1000000, [(78, .dup, 1, (0, 0, 0, 0), 0, 0), (79, .getfield 288, 3, (4, 0, 12, 0), 0, 0), (82, .iconst 1, 1, (0, 0, 0, 0), 1, 0), (83, .iadd, 1, (0, 0, 0, 0), 0, 0), (84, .putfield 288, 3, (4, 0, 12, 0), 0, 0), (87, .aload_n 0, 1, (0, 0, 0, 0), 0, 0), (88, .getfield 288, 3, (4, 0, 12, 0), 0, 0), (91, .iconst 1, 1, (0, 0, 0, 0), 1, 0), (92, .isub, 1, (0, 0, 0, 0), 0, 0), (93, .ireturn, 1, (0, 0, 0, 0), 0, 0)])]
-- ShareNetsModel.chance(III)I
set_option maxRecDepth 100000 in
noncomputable def z_k212 : List (Nat × List (Nat × z_E)) := [(40, [(0, .iload_n 1, 1, (1, 0, 0, 0), 0, 0), (1, .iconst 0, 1, (0, 0, 0, 0), 0, 0), (2, .aload_n 0, 1, (0, 0, 0, 0), 0, 0), (3, .getfield 288, 3, (4, 0, 12, 0), 0, 0), (6, .iconst 1, 1, (0, 0, 0, 0), 1, 0), (7, .isub, 1, (0, 0, 0, 0), 0, 0), (8, .invokestatic 117, 3, (158, 0, 3, 0), 0, 0), (11, .ifCond .eq 26, 3, (37, 0, 0, 0), 0, 0), (14, .iload_n 2, 1, (2, 0, 0, 0), 0, 0), (15, .iconst 0, 1, (0, 0, 0, 0), 0, 0), (16, .aload_n 0, 1, (0, 0, 0, 0), 0, 0), (17, .getfield 288, 3, (4, 0, 12, 0), 0, 0), (20, .iconst 1, 1, (0, 0, 0, 0), 1, 0), (21, .isub, 1, (0, 0, 0, 0), 0, 0), (22, .invokestatic 117, 3, (158, 0, 3, 0), 0, 0), (25, .ifCond .eq 12, 3, (37, 0, 0, 0), 0, 0), (28, .iload_n 3, 1, (3, 0, 0, 0), 0, 0), (29, .iconst 0, 1, (0, 0, 0, 0), 0, 0), (30, .iconst 4, 1, (0, 0, 0, 0), 4, 0), (31, .invokestatic 117, 3, (158, 0, 3, 0), 0, 0), (34, .ifCond .ne 5, 3, (39, 0, 0, 0), 0, 0), (37, .iconst (-1), 1, (0, 0, 0, 0), (-1), 0), (38, .ireturn, 1, (0, 0, 0, 0), 0, 0), (39, .aload_n 0, 1, (0, 0, 0, 0), 0, 0)]),
  (71, [(40, .getfield 22, 3, (6, 2, 12, 0), 0, 0), (43, .iconst 5, 1, (0, 0, 0, 0), 5, 0), (44, .iload_n 1, 1, (1, 0, 0, 0), 0, 0), (45, .imul, 1, (0, 0, 0, 0), 0, 0), (46, .iload_n 2, 1, (2, 0, 0, 0), 0, 0), (47, .iadd, 1, (0, 0, 0, 0), 0, 0), (48, .iaload, 1, (0, 0, 0, 0), 0, 0), (49, .istore 4, 2, (4, 0, 0, 0), 0, 0), (51, .aload_n 0, 1, (0, 0, 0, 0), 0, 0), (52, .getfield 22, 3, (6, 2, 12, 0), 0, 0), (55, .iconst 5, 1, (0, 0, 0, 0), 5, 0), (56, .iload_n 1, 1, (1, 0, 0, 0), 0, 0), (57, .imul, 1, (0, 0, 0, 0), 0, 0), (58, .iload_n 2, 1, (2, 0, 0, 0), 0, 0), (59, .iadd, 1, (0, 0, 0, 0), 0, 0), (60, .iload_n 3, 1, (3, 0, 0, 0), 0, 0), (61, .iastore, 1, (0, 0, 0, 0), 0, 0), (62, .aload_n 0, 1, (0, 0, 0, 0), 0, 0), (63, .getfield 22, 3, (6, 2, 12, 0), 0, 0), (66, .iconst 5, 1, (0, 0, 0, 0), 5, 0), (67, .iload_n 2, 1, (2, 0, 0, 0), 0, 0), (68, .imul, 1, (0, 0, 0, 0), 0, 0), (69, .iload_n 1, 1, (1, 0, 0, 0), 0, 0), (70, .iadd, 1, (0, 0, 0, 0), 0, 0)]),
  (1000000, [(71, .iload_n 3, 1, (3, 0, 0, 0), 0, 0), (72, .iastore, 1, (0, 0, 0, 0), 0, 0), (73, .iload 4, 2, (4, 0, 0, 0), 0, 0), (75, .ireturn, 1, (0, 0, 0, 0), 0, 0)])]
-- ShareNetsModel.bare()I
set_option maxRecDepth 100000 in
noncomputable def z_k213 : List (Nat × List (Nat × z_E)) := [(1000000, [(0, .aload_n 0, 1, (0, 0, 0, 0), 0, 0), (1, .getfield 288, 3, (4, 0, 12, 0), 0, 0), (4, .istore_n 1, 1, (1, 0, 0, 0), 0, 0), (5, .aload_n 0, 1, (0, 0, 0, 0), 0, 0), (6, .iconst 0, 1, (0, 0, 0, 0), 0, 0), (7, .putfield 288, 3, (4, 0, 12, 0), 0, 0), (10, .iload_n 1, 1, (1, 0, 0, 0), 0, 0), (11, .ireturn, 1, (0, 0, 0, 0), 0, 0)])]
-- ShareNetsModel.weightsInAll()I
set_option maxRecDepth 100000 in
noncomputable def z_k214 : List (Nat × List (Nat × z_E)) := [(1000000, [(0, .iconst 0, 1, (0, 0, 0, 0), 0, 0), (1, .istore_n 1, 1, (1, 0, 0, 0), 0, 0), (2, .iconst 0, 1, (0, 0, 0, 0), 0, 0), (3, .istore_n 2, 1, (2, 0, 0, 0), 0, 0), (4, .iload_n 2, 1, (2, 0, 0, 0), 0, 0), (5, .aload_n 0, 1, (0, 0, 0, 0), 0, 0), (6, .getfield 288, 3, (4, 0, 12, 0), 0, 0), (9, .if_icmp .ge 18, 3, (27, 0, 0, 0), 0, 0), (12, .iload_n 1, 1, (1, 0, 0, 0), 0, 0), (13, .aload_n 0, 1, (0, 0, 0, 0), 0, 0), (14, .getfield 19, 3, (5, 2, 12, 0), 0, 0), (17, .iload_n 2, 1, (2, 0, 0, 0), 0, 0), (18, .iaload, 1, (0, 0, 0, 0), 0, 0), (19, .iadd, 1, (0, 0, 0, 0), 0, 0), (20, .istore_n 1, 1, (1, 0, 0, 0), 0, 0), (21, .iinc 2 1, 3, (2, 0, 0, 0), 1, 0), (24, .goto (-20), 3, (4, 0, 0, 0), 0, 0), (27, .iload_n 1, 1, (1, 0, 0, 0), 0, 0), (28, .ireturn, 1, (0, 0, 0, 0), 0, 0)])]
-- ShareNetsModel.oftenOf(II)J
set_option maxRecDepth 100000 in
noncomputable def z_k215 : List (Nat × List (Nat × z_E)) := [(41, [(0, .lconst 1, 1, (0, 0, 0, 0), 0, 1), (1, .lstore_n 3, 1, (3, 0, 0, 0), 0, 0), (2, .iconst 1, 1, (0, 0, 0, 0), 1, 0), (3, .istore 5, 2, (5, 0, 0, 0), 0, 0), (5, .iload 5, 2, (5, 0, 0, 0), 0, 0), (7, .iload_n 1, 1, (1, 0, 0, 0), 0, 0), (8, .if_icmp .ge 78, 3, (86, 0, 0, 0), 0, 0), (11, .iconst 0, 1, (0, 0, 0, 0), 0, 0), (12, .istore 6, 2, (6, 0, 0, 0), 0, 0), (14, .iload 6, 2, (6, 0, 0, 0), 0, 0), (16, .iload 5, 2, (5, 0, 0, 0), 0, 0), (18, .if_icmp .ge 62, 3, (80, 0, 0, 0), 0, 0), (21, .aload_n 0, 1, (0, 0, 0, 0), 0, 0), (22, .getfield 22, 3, (6, 2, 12, 0), 0, 0), (25, .iconst 5, 1, (0, 0, 0, 0), 5, 0), (26, .aload_n 0, 1, (0, 0, 0, 0), 0, 0), (27, .getfield 56, 3, (29, 2, 12, 0), 0, 0), (30, .iload 6, 2, (6, 0, 0, 0), 0, 0), (32, .iaload, 1, (0, 0, 0, 0), 0, 0), (33, .imul, 1, (0, 0, 0, 0), 0, 0), (34, .aload_n 0, 1, (0, 0, 0, 0), 0, 0), (35, .getfield 56, 3, (29, 2, 12, 0), 0, 0), (38, .iload 5, 2, (5, 0, 0, 0), 0, 0), (40, .iaload, 1, (0, 0, 0, 0), 0, 0)]),
  (80, [(41, .iadd, 1, (0, 0, 0, 0), 0, 0), (42, .iaload, 1, (0, 0, 0, 0), 0, 0), (43, .istore 7, 2, (7, 0, 0, 0), 0, 0), (45, .lload_n 3, 1, (3, 0, 0, 0), 0, 0), (46, .iload_n 2, 1, (2, 0, 0, 0), 0, 0), (47, .iload 6, 2, (6, 0, 0, 0), 0, 0), (49, .iload 5, 2, (5, 0, 0, 0), 0, 0), (51, .invokestatic 113, 3, (160, 0, 2, 0), 0, 0), (54, .ishr, 1, (0, 0, 0, 0), 0, 0), (55, .iconst 1, 1, (0, 0, 0, 0), 1, 0), (56, .iand, 1, (0, 0, 0, 0), 0, 0), (57, .iconst 1, 1, (0, 0, 0, 0), 1, 0), (58, .if_icmp .ne 9, 3, (67, 0, 0, 0), 0, 0), (61, .iload 7, 2, (7, 0, 0, 0), 0, 0), (63, .i2l, 1, (0, 0, 0, 0), 0, 0), (64, .goto 8, 3, (72, 0, 0, 0), 0, 0), (67, .iconst 4, 1, (0, 0, 0, 0), 4, 0), (68, .iload 7, 2, (7, 0, 0, 0), 0, 0), (70, .isub, 1, (0, 0, 0, 0), 0, 0), (71, .i2l, 1, (0, 0, 0, 0), 0, 0), (72, .lmul, 1, (0, 0, 0, 0), 0, 0), (73, .lstore_n 3, 1, (3, 0, 0, 0), 0, 0), (74, .iinc 6 1, 3, (6, 0, 0, 0), 1, 0), (77, .goto (-63), 3, (14, 0, 0, 0), 0, 0)]),
  (1000000, [(80, .iinc 5 1, 3, (5, 0, 0, 0), 1, 0), (83, .goto (-78), 3, (5, 0, 0, 0), 0, 0), (86, .lload_n 3, 1, (3, 0, 0, 0), 0, 0), (87, .lreturn, 1, (0, 0, 0, 0), 0, 0)])]
-- ShareNetsModel.atOf(II)J
set_option maxRecDepth 100000 in
noncomputable def z_k216 : List (Nat × List (Nat × z_E)) := [(44, [(0, .lconst 0, 1, (0, 0, 0, 0), 0, 0), (1, .lstore_n 3, 1, (3, 0, 0, 0), 0, 0), (2, .iconst 1, 1, (0, 0, 0, 0), 1, 0), (3, .istore 5, 2, (5, 0, 0, 0), 0, 0), (5, .iconst 0, 1, (0, 0, 0, 0), 0, 0), (6, .istore 6, 2, (6, 0, 0, 0), 0, 0), (8, .iload 6, 2, (6, 0, 0, 0), 0, 0), (10, .iload_n 1, 1, (1, 0, 0, 0), 0, 0), (11, .if_icmp .ge 18, 3, (29, 0, 0, 0), 0, 0), (14, .iload 5, 2, (5, 0, 0, 0), 0, 0), (16, .aload_n 0, 1, (0, 0, 0, 0), 0, 0), (17, .getfield 288, 3, (4, 0, 12, 0), 0, 0), (20, .imul, 1, (0, 0, 0, 0), 0, 0), (21, .istore 5, 2, (5, 0, 0, 0), 0, 0), (23, .iinc 6 1, 3, (6, 0, 0, 0), 1, 0), (26, .goto (-18), 3, (8, 0, 0, 0), 0, 0), (29, .iconst 0, 1, (0, 0, 0, 0), 0, 0), (30, .istore 6, 2, (6, 0, 0, 0), 0, 0), (32, .iload 6, 2, (6, 0, 0, 0), 0, 0), (34, .iload 5, 2, (5, 0, 0, 0), 0, 0), (36, .if_icmp .ge 125, 3, (161, 0, 0, 0), 0, 0), (39, .iload 6, 2, (6, 0, 0, 0), 0, 0), (41, .istore 7, 2, (7, 0, 0, 0), 0, 0), (43, .lconst 1, 1, (0, 0, 0, 0), 0, 1)]),
  (85, [(44, .lstore 8, 2, (8, 0, 0, 0), 0, 0), (46, .iconst 0, 1, (0, 0, 0, 0), 0, 0), (47, .istore 10, 2, (10, 0, 0, 0), 0, 0), (49, .iload 10, 2, (10, 0, 0, 0), 0, 0), (51, .iload_n 1, 1, (1, 0, 0, 0), 0, 0), (52, .if_icmp .ge 50, 3, (102, 0, 0, 0), 0, 0), (55, .aload_n 0, 1, (0, 0, 0, 0), 0, 0), (56, .getfield 56, 3, (29, 2, 12, 0), 0, 0), (59, .iload 10, 2, (10, 0, 0, 0), 0, 0), (61, .iload 7, 2, (7, 0, 0, 0), 0, 0), (63, .aload_n 0, 1, (0, 0, 0, 0), 0, 0), (64, .getfield 288, 3, (4, 0, 12, 0), 0, 0), (67, .irem, 1, (0, 0, 0, 0), 0, 0), (68, .iastore, 1, (0, 0, 0, 0), 0, 0), (69, .lload 8, 2, (8, 0, 0, 0), 0, 0), (71, .aload_n 0, 1, (0, 0, 0, 0), 0, 0), (72, .getfield 19, 3, (5, 2, 12, 0), 0, 0), (75, .aload_n 0, 1, (0, 0, 0, 0), 0, 0), (76, .getfield 56, 3, (29, 2, 12, 0), 0, 0), (79, .iload 10, 2, (10, 0, 0, 0), 0, 0), (81, .iaload, 1, (0, 0, 0, 0), 0, 0), (82, .iaload, 1, (0, 0, 0, 0), 0, 0), (83, .i2l, 1, (0, 0, 0, 0), 0, 0), (84, .lmul, 1, (0, 0, 0, 0), 0, 0)]),
  (128, [(85, .lstore 8, 2, (8, 0, 0, 0), 0, 0), (87, .iload 7, 2, (7, 0, 0, 0), 0, 0), (89, .aload_n 0, 1, (0, 0, 0, 0), 0, 0), (90, .getfield 288, 3, (4, 0, 12, 0), 0, 0), (93, .idiv, 1, (0, 0, 0, 0), 0, 0), (94, .istore 7, 2, (7, 0, 0, 0), 0, 0), (96, .iinc 10 1, 3, (10, 0, 0, 0), 1, 0), (99, .goto (-50), 3, (49, 0, 0, 0), 0, 0), (102, .iconst 0, 1, (0, 0, 0, 0), 0, 0), (103, .istore 10, 2, (10, 0, 0, 0), 0, 0), (105, .iload 10, 2, (10, 0, 0, 0), 0, 0), (107, .iconst 1, 1, (0, 0, 0, 0), 1, 0), (108, .iload_n 1, 1, (1, 0, 0, 0), 0, 0), (109, .invokestatic 105, 3, (159, 0, 1, 0), 0, 0), (112, .ishl, 1, (0, 0, 0, 0), 0, 0), (113, .if_icmp .ge 42, 3, (155, 0, 0, 0), 0, 0), (116, .lload_n 3, 1, (3, 0, 0, 0), 0, 0), (117, .aload_n 0, 1, (0, 0, 0, 0), 0, 0), (118, .getfield 32, 3, (10, 2, 12, 0), 0, 0), (121, .bipush 64, 2, (0, 0, 0, 0), 64, 0), (123, .iload_n 1, 1, (1, 0, 0, 0), 0, 0), (124, .imul, 1, (0, 0, 0, 0), 0, 0), (125, .iload 10, 2, (10, 0, 0, 0), 0, 0), (127, .iadd, 1, (0, 0, 0, 0), 0, 0)]),
  (1000000, [(128, .iaload, 1, (0, 0, 0, 0), 0, 0), (129, .iload_n 2, 1, (2, 0, 0, 0), 0, 0), (130, .if_icmp .ne 16, 3, (146, 0, 0, 0), 0, 0), (133, .lload 8, 2, (8, 0, 0, 0), 0, 0), (135, .aload_n 0, 1, (0, 0, 0, 0), 0, 0), (136, .iload_n 1, 1, (1, 0, 0, 0), 0, 0), (137, .iload 10, 2, (10, 0, 0, 0), 0, 0), (139, .invokevirtual 291, 3, (215, 4, 2, 0), 0, 0), (142, .lmul, 1, (0, 0, 0, 0), 0, 0), (143, .goto 4, 3, (147, 0, 0, 0), 0, 0), (146, .lconst 0, 1, (0, 0, 0, 0), 0, 0), (147, .ladd, 1, (0, 0, 0, 0), 0, 0), (148, .lstore_n 3, 1, (3, 0, 0, 0), 0, 0), (149, .iinc 10 1, 3, (10, 0, 0, 0), 1, 0), (152, .goto (-47), 3, (105, 0, 0, 0), 0, 0), (155, .iinc 6 1, 3, (6, 0, 0, 0), 1, 0), (158, .goto (-126), 3, (32, 0, 0, 0), 0, 0), (161, .lload_n 3, 1, (3, 0, 0, 0), 0, 0), (162, .lreturn, 1, (0, 0, 0, 0), 0, 0)])]
-- ShareNetsModel.allOf(I)J
set_option maxRecDepth 100000 in
noncomputable def z_k217 : List (Nat × List (Nat × z_E)) := [(1000000, [(0, .lconst 1, 1, (0, 0, 0, 0), 0, 1), (1, .iconst 2, 1, (0, 0, 0, 0), 2, 0), (2, .iload_n 1, 1, (1, 0, 0, 0), 0, 0), (3, .invokestatic 105, 3, (159, 0, 1, 0), 0, 0), (6, .imul, 1, (0, 0, 0, 0), 0, 0), (7, .lshl, 1, (0, 0, 0, 0), 0, 0), (8, .lstore_n 2, 1, (2, 0, 0, 0), 0, 0), (9, .iconst 0, 1, (0, 0, 0, 0), 0, 0), (10, .istore 4, 2, (4, 0, 0, 0), 0, 0), (12, .iload 4, 2, (4, 0, 0, 0), 0, 0), (14, .iload_n 1, 1, (1, 0, 0, 0), 0, 0), (15, .if_icmp .ge 17, 3, (32, 0, 0, 0), 0, 0), (18, .lload_n 2, 1, (2, 0, 0, 0), 0, 0), (19, .aload_n 0, 1, (0, 0, 0, 0), 0, 0), (20, .invokevirtual 295, 3, (214, 4, 0, 0), 0, 0), (23, .i2l, 1, (0, 0, 0, 0), 0, 0), (24, .lmul, 1, (0, 0, 0, 0), 0, 0), (25, .lstore_n 2, 1, (2, 0, 0, 0), 0, 0), (26, .iinc 4 1, 3, (4, 0, 0, 0), 1, 0), (29, .goto (-17), 3, (12, 0, 0, 0), 0, 0), (32, .lload_n 2, 1, (2, 0, 0, 0), 0, 0), (33, .lreturn, 1, (0, 0, 0, 0), 0, 0)])]
-- ShareNetsModel.at(III)J
set_option maxRecDepth 100000 in
noncomputable def z_k218 : List (Nat × List (Nat × z_E)) := [(46, [(0, .aload_n 0, 1, (0, 0, 0, 0), 0, 0), (1, .iload_n 1, 1, (1, 0, 0, 0), 0, 0), (2, .iload_n 2, 1, (2, 0, 0, 0), 0, 0), (3, .invokevirtual 246, 3, (166, 4, 2, 0), 0, 0), (6, .ifCond .eq 10, 3, (16, 0, 0, 0), 0, 0), (9, .iload_n 3, 1, (3, 0, 0, 0), 0, 0), (10, .invokestatic 226, 3, (163, 0, 1, 0), 0, 0), (13, .ifCond .ne 7, 3, (20, 0, 0, 0), 0, 0), (16, .ldc2_w 163, 3, (0, 0, 0, 0), 0, (-1)), (19, .lreturn, 1, (0, 0, 0, 0), 0, 0), (20, .aload_n 0, 1, (0, 0, 0, 0), 0, 0), (21, .getfield 288, 3, (4, 0, 12, 0), 0, 0), (24, .ifCond .ne 7, 3, (31, 0, 0, 0), 0, 0), (27, .ldc2_w 299, 3, (0, 0, 0, 0), 0, (-3)), (30, .lreturn, 1, (0, 0, 0, 0), 0, 0), (31, .aload_n 0, 1, (0, 0, 0, 0), 0, 0), (32, .aload_n 0, 1, (0, 0, 0, 0), 0, 0), (33, .iload_n 1, 1, (1, 0, 0, 0), 0, 0), (34, .iload_n 2, 1, (2, 0, 0, 0), 0, 0), (35, .invokevirtual 301, 3, (216, 4, 2, 0), 0, 0), (38, .aload_n 0, 1, (0, 0, 0, 0), 0, 0), (39, .iload_n 1, 1, (1, 0, 0, 0), 0, 0), (40, .invokevirtual 304, 3, (217, 4, 1, 0), 0, 0), (43, .invokevirtual 261, 3, (198, 4, 2, 0), 0, 0)]),
  (1000000, [(46, .aload_n 0, 1, (0, 0, 0, 0), 0, 0), (47, .iload_n 3, 1, (3, 0, 0, 0), 0, 0), (48, .invokevirtual 265, 3, (199, 4, 1, 0), 0, 0), (51, .lreturn, 1, (0, 0, 0, 0), 0, 0)])]
-- ShareNetsModel.isFreeLimit()Z
set_option maxRecDepth 100000 in
noncomputable def z_k219 : List (Nat × List (Nat × z_E)) := [(34, [(0, .iconst 0, 1, (0, 0, 0, 0), 0, 0), (1, .istore_n 1, 1, (1, 0, 0, 0), 0, 0), (2, .iload_n 1, 1, (1, 0, 0, 0), 0, 0), (3, .aload_n 0, 1, (0, 0, 0, 0), 0, 0), (4, .getfield 275, 3, (2, 0, 12, 0), 0, 0), (7, .if_icmp .ge 38, 3, (45, 0, 0, 0), 0, 0), (10, .aload_n 0, 1, (0, 0, 0, 0), 0, 0), (11, .aload_n 0, 1, (0, 0, 0, 0), 0, 0), (12, .getfield 16, 3, (3, 2, 12, 0), 0, 0), (15, .iconst 2, 1, (0, 0, 0, 0), 2, 0), (16, .iload_n 1, 1, (1, 0, 0, 0), 0, 0), (17, .imul, 1, (0, 0, 0, 0), 0, 0), (18, .iaload, 1, (0, 0, 0, 0), 0, 0), (19, .aload_n 0, 1, (0, 0, 0, 0), 0, 0), (20, .getfield 16, 3, (3, 2, 12, 0), 0, 0), (23, .iconst 2, 1, (0, 0, 0, 0), 2, 0), (24, .iload_n 1, 1, (1, 0, 0, 0), 0, 0), (25, .imul, 1, (0, 0, 0, 0), 0, 0), (26, .iconst 1, 1, (0, 0, 0, 0), 1, 0), (27, .iadd, 1, (0, 0, 0, 0), 0, 0), (28, .iaload, 1, (0, 0, 0, 0), 0, 0), (29, .invokevirtual 301, 3, (216, 4, 2, 0), 0, 0), (32, .lconst 0, 1, (0, 0, 0, 0), 0, 0), (33, .lcmp, 1, (0, 0, 0, 0), 0, 0)]),
  (1000000, [(34, .ifCond .le 5, 3, (39, 0, 0, 0), 0, 0), (37, .iconst 0, 1, (0, 0, 0, 0), 0, 0), (38, .ireturn, 1, (1, 0, 0, 0), 0, 0), (39, .iinc 1 1, 3, (1, 0, 0, 0), 1, 0), (42, .goto (-40), 3, (2, 0, 0, 0), 0, 0), (45, .iconst 1, 1, (0, 0, 0, 0), 1, 0), (46, .ireturn, 1, (1, 0, 0, 0), 0, 0)])]
-- ShareNetsModel.freeAt()I
set_option maxRecDepth 100000 in
noncomputable def z_k220 : List (Nat × List (Nat × z_E)) := [(1000000, [(0, .aload_n 0, 1, (0, 0, 0, 0), 0, 0), (1, .getfield 288, 3, (4, 0, 12, 0), 0, 0), (4, .ifCond .ne 8, 3, (12, 0, 0, 0), 0, 0), (7, .bipush (-3), 2, (0, 0, 0, 0), (-3), 0), (9, .goto 15, 3, (24, 0, 0, 0), 0, 0), (12, .aload_n 0, 1, (0, 0, 0, 0), 0, 0), (13, .invokevirtual 307, 3, (219, 4, 0, 0), 0, 0), (16, .ifCond .eq 7, 3, (23, 0, 0, 0), 0, 0), (19, .iconst 1, 1, (0, 0, 0, 0), 1, 0), (20, .goto 4, 3, (24, 0, 0, 0), 0, 0), (23, .iconst 0, 1, (0, 0, 0, 0), 0, 0), (24, .ireturn, 1, (0, 0, 0, 0), 0, 0)])]
-- ShareNetsModel.blow(I)I
set_option maxRecDepth 100000 in
noncomputable def z_k221 : List (Nat × List (Nat × z_E)) := [(39, [(0, .iload_n 1, 1, (1, 0, 0, 0), 0, 0), (1, .invokestatic 199, 3, (162, 0, 1, 0), 0, 0), (4, .ifCond .ne 5, 3, (9, 0, 0, 0), 0, 0), (7, .iconst (-1), 1, (0, 0, 0, 0), (-1), 0), (8, .ireturn, 1, (0, 0, 0, 0), 0, 0), (9, .aload_n 0, 1, (0, 0, 0, 0), 0, 0), (10, .getfield 7, 3, (0, 2, 12, 0), 0, 0), (13, .iload_n 1, 1, (1, 0, 0, 0), 0, 0), (14, .iaload, 1, (0, 0, 0, 0), 0, 0), (15, .iconst 5, 1, (0, 0, 0, 0), 5, 0), (16, .if_icmp .le 6, 3, (22, 0, 0, 0), 0, 0), (19, .bipush (-4), 2, (0, 0, 0, 0), (-4), 0), (21, .ireturn, 1, (0, 0, 0, 0), 0, 0), (22, .aload_n 0, 1, (0, 0, 0, 0), 0, 0), (23, .aload_n 0, 1, (0, 0, 0, 0), 0, 0), (24, .getfield 7, 3, (0, 2, 12, 0), 0, 0), (27, .iload_n 1, 1, (1, 0, 0, 0), 0, 0), (28, .iaload, 1, (0, 0, 0, 0), 0, 0), (29, .putfield 288, 3, (4, 0, 12, 0), 0, 0), (32, .iconst 0, 1, (0, 0, 0, 0), 0, 0), (33, .istore_n 2, 1, (2, 0, 0, 0), 0, 0), (34, .iload_n 2, 1, (2, 0, 0, 0), 0, 0), (35, .aload_n 0, 1, (0, 0, 0, 0), 0, 0), (36, .getfield 288, 3, (4, 0, 12, 0), 0, 0)]),
  (75, [(39, .if_icmp .ge 57, 3, (96, 0, 0, 0), 0, 0), (42, .aload_n 0, 1, (0, 0, 0, 0), 0, 0), (43, .getfield 19, 3, (5, 2, 12, 0), 0, 0), (46, .iload_n 2, 1, (2, 0, 0, 0), 0, 0), (47, .iconst 1, 1, (0, 0, 0, 0), 1, 0), (48, .iastore, 1, (0, 0, 0, 0), 0, 0), (49, .iconst 0, 1, (0, 0, 0, 0), 0, 0), (50, .istore_n 3, 1, (3, 0, 0, 0), 0, 0), (51, .iload_n 3, 1, (3, 0, 0, 0), 0, 0), (52, .aload_n 0, 1, (0, 0, 0, 0), 0, 0), (53, .getfield 288, 3, (4, 0, 12, 0), 0, 0), (56, .if_icmp .ge 34, 3, (90, 0, 0, 0), 0, 0), (59, .aload_n 0, 1, (0, 0, 0, 0), 0, 0), (60, .getfield 22, 3, (6, 2, 12, 0), 0, 0), (63, .iconst 5, 1, (0, 0, 0, 0), 5, 0), (64, .iload_n 2, 1, (2, 0, 0, 0), 0, 0), (65, .imul, 1, (0, 0, 0, 0), 0, 0), (66, .iload_n 3, 1, (3, 0, 0, 0), 0, 0), (67, .iadd, 1, (0, 0, 0, 0), 0, 0), (68, .aload_n 0, 1, (0, 0, 0, 0), 0, 0), (69, .iload_n 1, 1, (1, 0, 0, 0), 0, 0), (70, .iload_n 2, 1, (2, 0, 0, 0), 0, 0), (71, .iload_n 3, 1, (3, 0, 0, 0), 0, 0), (72, .invokevirtual 219, 3, (167, 4, 3, 0), 0, 0)]),
  (1000000, [(75, .ifCond .eq 7, 3, (82, 0, 0, 0), 0, 0), (78, .iconst 4, 1, (0, 0, 0, 0), 4, 0), (79, .goto 4, 3, (83, 0, 0, 0), 0, 0), (82, .iconst 0, 1, (0, 0, 0, 0), 0, 0), (83, .iastore, 1, (0, 0, 0, 0), 0, 0), (84, .iinc 3 1, 3, (3, 0, 0, 0), 1, 0), (87, .goto (-36), 3, (51, 0, 0, 0), 0, 0), (90, .iinc 2 1, 3, (2, 0, 0, 0), 1, 0), (93, .goto (-59), 3, (34, 0, 0, 0), 0, 0), (96, .aload_n 0, 1, (0, 0, 0, 0), 0, 0), (97, .getfield 288, 3, (4, 0, 12, 0), 0, 0), (100, .ireturn, 1, (0, 0, 0, 0), 0, 0)])]
-- ShareNetsModel.lot()I
set_option maxRecDepth 100000 in
noncomputable def z_k222 : List (Nat × List (Nat × z_E)) := [(1000000, [(0, .aload_n 0, 1, (0, 0, 0, 0), 0, 0), (1, .aload_n 0, 1, (0, 0, 0, 0), 0, 0), (2, .getfield 25, 3, (7, 0, 12, 0), 0, 0), (5, .ldc_w 311, 3, (0, 0, 0, 0), 1103515245, 0), (8, .imul, 1, (0, 0, 0, 0), 0, 0), (9, .sipush 12345, 3, (0, 0, 0, 0), 12345, 0), (12, .iadd, 1, (0, 0, 0, 0), 0, 0), (13, .putfield 25, 3, (7, 0, 12, 0), 0, 0), (16, .aload_n 0, 1, (0, 0, 0, 0), 0, 0), (17, .getfield 25, 3, (7, 0, 12, 0), 0, 0), (20, .bipush 16, 2, (0, 0, 0, 0), 16, 0), (22, .iushr, 1, (0, 0, 0, 0), 0, 0), (23, .ireturn, 1, (0, 0, 0, 0), 0, 0)])]
-- ShareNetsModel.shareOut(I)V
set_option maxRecDepth 100000 in
noncomputable def z_k223 : List (Nat × List (Nat × z_E)) := [(38, [(0, .aload_n 0, 1, (0, 0, 0, 0), 0, 0), (1, .invokevirtual 295, 3, (214, 4, 0, 0), 0, 0), (4, .istore_n 2, 1, (2, 0, 0, 0), 0, 0), (5, .iload_n 1, 1, (1, 0, 0, 0), 0, 0), (6, .istore_n 3, 1, (3, 0, 0, 0), 0, 0), (7, .iconst 0, 1, (0, 0, 0, 0), 0, 0), (8, .istore 4, 2, (4, 0, 0, 0), 0, 0), (10, .iload 4, 2, (4, 0, 0, 0), 0, 0), (12, .aload_n 0, 1, (0, 0, 0, 0), 0, 0), (13, .getfield 288, 3, (4, 0, 12, 0), 0, 0), (16, .if_icmp .ge 55, 3, (71, 0, 0, 0), 0, 0), (19, .aload_n 0, 1, (0, 0, 0, 0), 0, 0), (20, .getfield 59, 3, (30, 2, 12, 0), 0, 0), (23, .iload 4, 2, (4, 0, 0, 0), 0, 0), (25, .iload_n 1, 1, (1, 0, 0, 0), 0, 0), (26, .aload_n 0, 1, (0, 0, 0, 0), 0, 0), (27, .getfield 19, 3, (5, 2, 12, 0), 0, 0), (30, .iload 4, 2, (4, 0, 0, 0), 0, 0), (32, .iaload, 1, (0, 0, 0, 0), 0, 0), (33, .imul, 1, (0, 0, 0, 0), 0, 0), (34, .iload_n 2, 1, (2, 0, 0, 0), 0, 0), (35, .idiv, 1, (0, 0, 0, 0), 0, 0), (36, .iastore, 1, (0, 0, 0, 0), 0, 0), (37, .aload_n 0, 1, (0, 0, 0, 0), 0, 0)]),
  (78, [(38, .getfield 62, 3, (31, 2, 12, 0), 0, 0), (41, .iload 4, 2, (4, 0, 0, 0), 0, 0), (43, .iload_n 1, 1, (1, 0, 0, 0), 0, 0), (44, .aload_n 0, 1, (0, 0, 0, 0), 0, 0), (45, .getfield 19, 3, (5, 2, 12, 0), 0, 0), (48, .iload 4, 2, (4, 0, 0, 0), 0, 0), (50, .iaload, 1, (0, 0, 0, 0), 0, 0), (51, .imul, 1, (0, 0, 0, 0), 0, 0), (52, .iload_n 2, 1, (2, 0, 0, 0), 0, 0), (53, .irem, 1, (0, 0, 0, 0), 0, 0), (54, .iastore, 1, (0, 0, 0, 0), 0, 0), (55, .iload_n 3, 1, (3, 0, 0, 0), 0, 0), (56, .aload_n 0, 1, (0, 0, 0, 0), 0, 0), (57, .getfield 59, 3, (30, 2, 12, 0), 0, 0), (60, .iload 4, 2, (4, 0, 0, 0), 0, 0), (62, .iaload, 1, (0, 0, 0, 0), 0, 0), (63, .isub, 1, (0, 0, 0, 0), 0, 0), (64, .istore_n 3, 1, (3, 0, 0, 0), 0, 0), (65, .iinc 4 1, 3, (4, 0, 0, 0), 1, 0), (68, .goto (-58), 3, (10, 0, 0, 0), 0, 0), (71, .iload_n 3, 1, (3, 0, 0, 0), 0, 0), (72, .ifCond .le 75, 3, (147, 0, 0, 0), 0, 0), (75, .iconst 0, 1, (0, 0, 0, 0), 0, 0), (76, .istore 4, 2, (4, 0, 0, 0), 0, 0)]),
  (128, [(78, .iconst 1, 1, (0, 0, 0, 0), 1, 0), (79, .istore 5, 2, (5, 0, 0, 0), 0, 0), (81, .iload 5, 2, (5, 0, 0, 0), 0, 0), (83, .aload_n 0, 1, (0, 0, 0, 0), 0, 0), (84, .getfield 288, 3, (4, 0, 12, 0), 0, 0), (87, .if_icmp .ge 35, 3, (122, 0, 0, 0), 0, 0), (90, .aload_n 0, 1, (0, 0, 0, 0), 0, 0), (91, .getfield 62, 3, (31, 2, 12, 0), 0, 0), (94, .iload 5, 2, (5, 0, 0, 0), 0, 0), (96, .iaload, 1, (0, 0, 0, 0), 0, 0), (97, .aload_n 0, 1, (0, 0, 0, 0), 0, 0), (98, .getfield 62, 3, (31, 2, 12, 0), 0, 0), (101, .iload 4, 2, (4, 0, 0, 0), 0, 0), (103, .iaload, 1, (0, 0, 0, 0), 0, 0), (104, .if_icmp .le 8, 3, (112, 0, 0, 0), 0, 0), (107, .iload 5, 2, (5, 0, 0, 0), 0, 0), (109, .goto 5, 3, (114, 0, 0, 0), 0, 0), (112, .iload 4, 2, (4, 0, 0, 0), 0, 0), (114, .istore 4, 2, (4, 0, 0, 0), 0, 0), (116, .iinc 5 1, 3, (5, 0, 0, 0), 1, 0), (119, .goto (-38), 3, (81, 0, 0, 0), 0, 0), (122, .aload_n 0, 1, (0, 0, 0, 0), 0, 0), (123, .getfield 59, 3, (30, 2, 12, 0), 0, 0), (126, .iload 4, 2, (4, 0, 0, 0), 0, 0)]),
  (1000000, [(128, .dup2, 1, (0, 0, 0, 0), 0, 0), (129, .iaload, 1, (0, 0, 0, 0), 0, 0), (130, .iconst 1, 1, (0, 0, 0, 0), 1, 0), (131, .iadd, 1, (0, 0, 0, 0), 0, 0), (132, .iastore, 1, (0, 0, 0, 0), 0, 0), (133, .aload_n 0, 1, (0, 0, 0, 0), 0, 0), (134, .getfield 62, 3, (31, 2, 12, 0), 0, 0), (137, .iload 4, 2, (4, 0, 0, 0), 0, 0), (139, .iconst (-1), 1, (0, 0, 0, 0), (-1), 0), (140, .iastore, 1, (0, 0, 0, 0), 0, 0), (141, .iinc 3 (-1), 3, (3, 0, 0, 0), (-1), 0), (144, .goto (-73), 3, (71, 0, 0, 0), 0, 0), (147, .return_, 1, (0, 0, 0, 0), 0, 0)])]
-- ShareNetsModel.near(II)I
set_option maxRecDepth 100000 in
noncomputable def z_k224 : List (Nat × List (Nat × z_E)) := [(42, [(0, .iload_n 1, 1, (1, 0, 0, 0), 0, 0), (1, .invokestatic 199, 3, (162, 0, 1, 0), 0, 0), (4, .ifCond .eq 13, 3, (17, 0, 0, 0), 0, 0), (7, .iload_n 2, 1, (2, 0, 0, 0), 0, 0), (8, .iconst 1, 1, (0, 0, 0, 0), 1, 0), (9, .bipush 10, 2, (0, 0, 0, 0), 10, 0), (11, .invokestatic 117, 3, (158, 0, 3, 0), 0, 0), (14, .ifCond .ne 5, 3, (19, 0, 0, 0), 0, 0), (17, .iconst (-1), 1, (0, 0, 0, 0), (-1), 0), (18, .ireturn, 1, (0, 0, 0, 0), 0, 0), (19, .aload_n 0, 1, (0, 0, 0, 0), 0, 0), (20, .getfield 288, 3, (4, 0, 12, 0), 0, 0), (23, .ifCond .ne 6, 3, (29, 0, 0, 0), 0, 0), (26, .bipush (-3), 2, (0, 0, 0, 0), (-3), 0), (28, .ireturn, 1, (0, 0, 0, 0), 0, 0), (29, .aload_n 0, 1, (0, 0, 0, 0), 0, 0), (30, .iload_n 2, 1, (2, 0, 0, 0), 0, 0), (31, .invokevirtual 312, 3, (223, 4, 1, 0), 0, 0), (34, .aload_n 0, 1, (0, 0, 0, 0), 0, 0), (35, .iload_n 1, 1, (1, 0, 0, 0), 0, 0), (36, .iload_n 2, 1, (2, 0, 0, 0), 0, 0), (37, .invokevirtual 213, 3, (169, 4, 2, 0), 0, 0), (40, .iconst 0, 1, (0, 0, 0, 0), 0, 0), (41, .istore_n 3, 1, (3, 0, 0, 0), 0, 0)]),
  (92, [(42, .iconst 0, 1, (0, 0, 0, 0), 0, 0), (43, .istore 4, 2, (4, 0, 0, 0), 0, 0), (45, .iload 4, 2, (4, 0, 0, 0), 0, 0), (47, .aload_n 0, 1, (0, 0, 0, 0), 0, 0), (48, .getfield 288, 3, (4, 0, 12, 0), 0, 0), (51, .if_icmp .ge 41, 3, (92, 0, 0, 0), 0, 0), (54, .iconst 0, 1, (0, 0, 0, 0), 0, 0), (55, .istore 5, 2, (5, 0, 0, 0), 0, 0), (57, .iload 5, 2, (5, 0, 0, 0), 0, 0), (59, .aload_n 0, 1, (0, 0, 0, 0), 0, 0), (60, .getfield 59, 3, (30, 2, 12, 0), 0, 0), (63, .iload 4, 2, (4, 0, 0, 0), 0, 0), (65, .iaload, 1, (0, 0, 0, 0), 0, 0), (66, .if_icmp .ge 20, 3, (86, 0, 0, 0), 0, 0), (69, .aload_n 0, 1, (0, 0, 0, 0), 0, 0), (70, .getfield 65, 3, (32, 2, 12, 0), 0, 0), (73, .iload_n 3, 1, (3, 0, 0, 0), 0, 0), (74, .iload 4, 2, (4, 0, 0, 0), 0, 0), (76, .iastore, 1, (0, 0, 0, 0), 0, 0), (77, .iinc 3 1, 3, (3, 0, 0, 0), 1, 0), (80, .iinc 5 1, 3, (5, 0, 0, 0), 1, 0), (83, .goto (-26), 3, (57, 0, 0, 0), 0, 0), (86, .iinc 4 1, 3, (4, 0, 0, 0), 1, 0), (89, .goto (-44), 3, (45, 0, 0, 0), 0, 0)]),
  (133, [(92, .iconst 1, 1, (0, 0, 0, 0), 1, 0), (93, .istore 4, 2, (4, 0, 0, 0), 0, 0), (95, .iload 4, 2, (4, 0, 0, 0), 0, 0), (97, .iload_n 2, 1, (2, 0, 0, 0), 0, 0), (98, .if_icmp .ge 89, 3, (187, 0, 0, 0), 0, 0), (101, .iconst 0, 1, (0, 0, 0, 0), 0, 0), (102, .istore 5, 2, (5, 0, 0, 0), 0, 0), (104, .iload 5, 2, (5, 0, 0, 0), 0, 0), (106, .iload 4, 2, (4, 0, 0, 0), 0, 0), (108, .if_icmp .ge 73, 3, (181, 0, 0, 0), 0, 0), (111, .aload_n 0, 1, (0, 0, 0, 0), 0, 0), (112, .getfield 22, 3, (6, 2, 12, 0), 0, 0), (115, .iconst 5, 1, (0, 0, 0, 0), 5, 0), (116, .aload_n 0, 1, (0, 0, 0, 0), 0, 0), (117, .getfield 65, 3, (32, 2, 12, 0), 0, 0), (120, .iload 5, 2, (5, 0, 0, 0), 0, 0), (122, .iaload, 1, (0, 0, 0, 0), 0, 0), (123, .imul, 1, (0, 0, 0, 0), 0, 0), (124, .aload_n 0, 1, (0, 0, 0, 0), 0, 0), (125, .getfield 65, 3, (32, 2, 12, 0), 0, 0), (128, .iload 4, 2, (4, 0, 0, 0), 0, 0), (130, .iaload, 1, (0, 0, 0, 0), 0, 0), (131, .iadd, 1, (0, 0, 0, 0), 0, 0), (132, .iaload, 1, (0, 0, 0, 0), 0, 0)]),
  (181, [(133, .istore 6, 2, (6, 0, 0, 0), 0, 0), (135, .iload 6, 2, (6, 0, 0, 0), 0, 0), (137, .iconst 4, 1, (0, 0, 0, 0), 4, 0), (138, .if_icmp .eq 19, 3, (157, 0, 0, 0), 0, 0), (141, .iload 6, 2, (6, 0, 0, 0), 0, 0), (143, .ifCond .le 18, 3, (161, 0, 0, 0), 0, 0), (146, .aload_n 0, 1, (0, 0, 0, 0), 0, 0), (147, .invokevirtual 315, 3, (222, 4, 0, 0), 0, 0), (150, .iconst 4, 1, (0, 0, 0, 0), 4, 0), (151, .irem, 1, (0, 0, 0, 0), 0, 0), (152, .iload 6, 2, (6, 0, 0, 0), 0, 0), (154, .if_icmp .ge 7, 3, (161, 0, 0, 0), 0, 0), (157, .iconst 1, 1, (0, 0, 0, 0), 1, 0), (158, .goto 4, 3, (162, 0, 0, 0), 0, 0), (161, .iconst 0, 1, (0, 0, 0, 0), 0, 0), (162, .istore 7, 2, (7, 0, 0, 0), 0, 0), (164, .aload_n 0, 1, (0, 0, 0, 0), 0, 0), (165, .iload_n 1, 1, (1, 0, 0, 0), 0, 0), (166, .iload 5, 2, (5, 0, 0, 0), 0, 0), (168, .iload 4, 2, (4, 0, 0, 0), 0, 0), (170, .iload 7, 2, (7, 0, 0, 0), 0, 0), (172, .invokevirtual 222, 3, (168, 4, 4, 0), 0, 0), (175, .iinc 5 1, 3, (5, 0, 0, 0), 1, 0), (178, .goto (-74), 3, (104, 0, 0, 0), 0, 0)]),
  (1000000, [(181, .iinc 4 1, 3, (4, 0, 0, 0), 1, 0), (184, .goto (-89), 3, (95, 0, 0, 0), 0, 0), (187, .aload_n 0, 1, (0, 0, 0, 0), 0, 0), (188, .iload_n 1, 1, (1, 0, 0, 0), 0, 0), (189, .invokevirtual 210, 3, (171, 4, 1, 0), 0, 0), (192, .ireturn, 1, (0, 0, 0, 0), 0, 0)])]
-- ShareNetsModel.mixed(II)I
set_option maxRecDepth 100000 in
noncomputable def z_k225 : List (Nat × List (Nat × z_E)) := [(40, [(0, .iload_n 1, 1, (1, 0, 0, 0), 0, 0), (1, .invokestatic 199, 3, (162, 0, 1, 0), 0, 0), (4, .ifCond .eq 12, 3, (16, 0, 0, 0), 0, 0), (7, .iload_n 2, 1, (2, 0, 0, 0), 0, 0), (8, .iconst 0, 1, (0, 0, 0, 0), 0, 0), (9, .iconst 4, 1, (0, 0, 0, 0), 4, 0), (10, .invokestatic 117, 3, (158, 0, 3, 0), 0, 0), (13, .ifCond .ne 5, 3, (18, 0, 0, 0), 0, 0), (16, .iconst (-1), 1, (0, 0, 0, 0), (-1), 0), (17, .ireturn, 1, (0, 0, 0, 0), 0, 0), (18, .iconst 1, 1, (0, 0, 0, 0), 1, 0), (19, .istore_n 3, 1, (3, 0, 0, 0), 0, 0), (20, .iload_n 3, 1, (3, 0, 0, 0), 0, 0), (21, .aload_n 0, 1, (0, 0, 0, 0), 0, 0), (22, .getfield 7, 3, (0, 2, 12, 0), 0, 0), (25, .iload_n 1, 1, (1, 0, 0, 0), 0, 0), (26, .iaload, 1, (0, 0, 0, 0), 0, 0), (27, .if_icmp .ge 47, 3, (74, 0, 0, 0), 0, 0), (30, .iconst 0, 1, (0, 0, 0, 0), 0, 0), (31, .istore 4, 2, (4, 0, 0, 0), 0, 0), (33, .iload 4, 2, (4, 0, 0, 0), 0, 0), (35, .iload_n 3, 1, (3, 0, 0, 0), 0, 0), (36, .if_icmp .ge 32, 3, (68, 0, 0, 0), 0, 0), (39, .aload_n 0, 1, (0, 0, 0, 0), 0, 0)]),
  (1000000, [(40, .iload_n 1, 1, (1, 0, 0, 0), 0, 0), (41, .iload 4, 2, (4, 0, 0, 0), 0, 0), (43, .iload_n 3, 1, (3, 0, 0, 0), 0, 0), (44, .aload_n 0, 1, (0, 0, 0, 0), 0, 0), (45, .invokevirtual 315, 3, (222, 4, 0, 0), 0, 0), (48, .iconst 4, 1, (0, 0, 0, 0), 4, 0), (49, .irem, 1, (0, 0, 0, 0), 0, 0), (50, .iload_n 2, 1, (2, 0, 0, 0), 0, 0), (51, .if_icmp .ge 7, 3, (58, 0, 0, 0), 0, 0), (54, .iconst 1, 1, (0, 0, 0, 0), 1, 0), (55, .goto 4, 3, (59, 0, 0, 0), 0, 0), (58, .iconst 0, 1, (0, 0, 0, 0), 0, 0), (59, .invokevirtual 222, 3, (168, 4, 4, 0), 0, 0), (62, .iinc 4 1, 3, (4, 0, 0, 0), 1, 0), (65, .goto (-32), 3, (33, 0, 0, 0), 0, 0), (68, .iinc 3 1, 3, (3, 0, 0, 0), 1, 0), (71, .goto (-51), 3, (20, 0, 0, 0), 0, 0), (74, .aload_n 0, 1, (0, 0, 0, 0), 0, 0), (75, .iload_n 1, 1, (1, 0, 0, 0), 0, 0), (76, .invokevirtual 210, 3, (171, 4, 1, 0), 0, 0), (79, .ireturn, 1, (0, 0, 0, 0), 0, 0)])]
-- ShareNetsModel.draw(II)I
set_option maxRecDepth 100000 in
noncomputable def z_k226 : List (Nat × List (Nat × z_E)) := [(39, [(0, .iload_n 1, 1, (1, 0, 0, 0), 0, 0), (1, .invokestatic 199, 3, (162, 0, 1, 0), 0, 0), (4, .ifCond .eq 12, 3, (16, 0, 0, 0), 0, 0), (7, .iload_n 2, 1, (2, 0, 0, 0), 0, 0), (8, .iconst 1, 1, (0, 0, 0, 0), 1, 0), (9, .iconst 4, 1, (0, 0, 0, 0), 4, 0), (10, .invokestatic 117, 3, (158, 0, 3, 0), 0, 0), (13, .ifCond .ne 5, 3, (18, 0, 0, 0), 0, 0), (16, .iconst (-1), 1, (0, 0, 0, 0), (-1), 0), (17, .ireturn, 1, (0, 0, 0, 0), 0, 0), (18, .aload_n 0, 1, (0, 0, 0, 0), 0, 0), (19, .getfield 7, 3, (0, 2, 12, 0), 0, 0), (22, .iload_n 1, 1, (1, 0, 0, 0), 0, 0), (23, .iaload, 1, (0, 0, 0, 0), 0, 0), (24, .iload_n 2, 1, (2, 0, 0, 0), 0, 0), (25, .if_icmp .ge 6, 3, (31, 0, 0, 0), 0, 0), (28, .bipush (-3), 2, (0, 0, 0, 0), (-3), 0), (30, .ireturn, 1, (0, 0, 0, 0), 0, 0), (31, .iconst 0, 1, (0, 0, 0, 0), 0, 0), (32, .istore_n 3, 1, (3, 0, 0, 0), 0, 0), (33, .iconst 0, 1, (0, 0, 0, 0), 0, 0), (34, .istore 4, 2, (4, 0, 0, 0), 0, 0), (36, .iload 4, 2, (4, 0, 0, 0), 0, 0), (38, .iload_n 2, 1, (2, 0, 0, 0), 0, 0)]),
  (79, [(39, .if_icmp .ge 76, 3, (115, 0, 0, 0), 0, 0), (42, .aload_n 0, 1, (0, 0, 0, 0), 0, 0), (43, .invokevirtual 315, 3, (222, 4, 0, 0), 0, 0), (46, .aload_n 0, 1, (0, 0, 0, 0), 0, 0), (47, .getfield 7, 3, (0, 2, 12, 0), 0, 0), (50, .iload_n 1, 1, (1, 0, 0, 0), 0, 0), (51, .iaload, 1, (0, 0, 0, 0), 0, 0), (52, .iload 4, 2, (4, 0, 0, 0), 0, 0), (54, .isub, 1, (0, 0, 0, 0), 0, 0), (55, .irem, 1, (0, 0, 0, 0), 0, 0), (56, .istore 5, 2, (5, 0, 0, 0), 0, 0), (58, .iconst 0, 1, (0, 0, 0, 0), 0, 0), (59, .istore 6, 2, (6, 0, 0, 0), 0, 0), (61, .iload_n 3, 1, (3, 0, 0, 0), 0, 0), (62, .iload 6, 2, (6, 0, 0, 0), 0, 0), (64, .ishr, 1, (0, 0, 0, 0), 0, 0), (65, .iconst 1, 1, (0, 0, 0, 0), 1, 0), (66, .iand, 1, (0, 0, 0, 0), 0, 0), (67, .iconst 1, 1, (0, 0, 0, 0), 1, 0), (68, .if_icmp .eq 8, 3, (76, 0, 0, 0), 0, 0), (71, .iload 5, 2, (5, 0, 0, 0), 0, 0), (73, .ifCond .le 29, 3, (102, 0, 0, 0), 0, 0), (76, .iload 5, 2, (5, 0, 0, 0), 0, 0), (78, .iload_n 3, 1, (3, 0, 0, 0), 0, 0)]),
  (120, [(79, .iload 6, 2, (6, 0, 0, 0), 0, 0), (81, .ishr, 1, (0, 0, 0, 0), 0, 0), (82, .iconst 1, 1, (0, 0, 0, 0), 1, 0), (83, .iand, 1, (0, 0, 0, 0), 0, 0), (84, .iconst 1, 1, (0, 0, 0, 0), 1, 0), (85, .if_icmp .ne 7, 3, (92, 0, 0, 0), 0, 0), (88, .iconst 0, 1, (0, 0, 0, 0), 0, 0), (89, .goto 4, 3, (93, 0, 0, 0), 0, 0), (92, .iconst 1, 1, (0, 0, 0, 0), 1, 0), (93, .isub, 1, (0, 0, 0, 0), 0, 0), (94, .istore 5, 2, (5, 0, 0, 0), 0, 0), (96, .iinc 6 1, 3, (6, 0, 0, 0), 1, 0), (99, .goto (-38), 3, (61, 0, 0, 0), 0, 0), (102, .iload_n 3, 1, (3, 0, 0, 0), 0, 0), (103, .iconst 1, 1, (0, 0, 0, 0), 1, 0), (104, .iload 6, 2, (6, 0, 0, 0), 0, 0), (106, .ishl, 1, (0, 0, 0, 0), 0, 0), (107, .ior, 1, (0, 0, 0, 0), 0, 0), (108, .istore_n 3, 1, (3, 0, 0, 0), 0, 0), (109, .iinc 4 1, 3, (4, 0, 0, 0), 1, 0), (112, .goto (-76), 3, (36, 0, 0, 0), 0, 0), (115, .aload_n 0, 1, (0, 0, 0, 0), 0, 0), (116, .aload_n 0, 1, (0, 0, 0, 0), 0, 0), (117, .getfield 13, 3, (1, 2, 12, 0), 0, 0)]),
  (1000000, [(120, .bipush 10, 2, (0, 0, 0, 0), 10, 0), (122, .iload_n 1, 1, (1, 0, 0, 0), 0, 0), (123, .imul, 1, (0, 0, 0, 0), 0, 0), (124, .iload_n 3, 1, (3, 0, 0, 0), 0, 0), (125, .invokevirtual 238, 3, (193, 4, 3, 0), 0, 0), (128, .ireturn, 1, (0, 0, 0, 0), 0, 0)])]
-- ShareNetsModel.seed(I)I
set_option maxRecDepth 100000 in
noncomputable def z_k227 : List (Nat × List (Nat × z_E)) := [(1000000, [(0, .aload_n 0, 1, (0, 0, 0, 0), 0, 0), (1, .getfield 25, 3, (7, 0, 12, 0), 0, 0), (4, .istore_n 2, 1, (2, 0, 0, 0), 0, 0), (5, .aload_n 0, 1, (0, 0, 0, 0), 0, 0), (6, .iload_n 1, 1, (1, 0, 0, 0), 0, 0), (7, .putfield 25, 3, (7, 0, 12, 0), 0, 0), (10, .iload_n 2, 1, (2, 0, 0, 0), 0, 0), (11, .ireturn, 1, (0, 0, 0, 0), 0, 0)])]
-- ShareNetsModel.isShare(I)Z
set_option maxRecDepth 100000 in
noncomputable def z_k228 : List (Nat × List (Nat × z_E)) := [(1000000, [(0, .iload_n 1, 1, (1, 0, 0, 0), 0, 0), (1, .iconst 0, 1, (0, 0, 0, 0), 0, 0), (2, .aload_n 0, 1, (0, 0, 0, 0), 0, 0), (3, .getfield 318, 3, (8, 0, 12, 0), 0, 0), (6, .iconst 1, 1, (0, 0, 0, 0), 1, 0), (7, .isub, 1, (0, 0, 0, 0), 0, 0), (8, .invokestatic 117, 3, (158, 0, 3, 0), 0, 0), (11, .ireturn, 1, (1, 0, 0, 0), 0, 0)])]
-- ShareNetsModel.its(II)I
set_option maxRecDepth 100000 in
noncomputable def z_k229 : List (Nat × List (Nat × z_E)) := [(1000000, [(0, .aload_n 0, 1, (0, 0, 0, 0), 0, 0), (1, .getfield 29, 3, (9, 2, 12, 0), 0, 0), (4, .iconst 4, 1, (0, 0, 0, 0), 4, 0), (5, .iload_n 1, 1, (1, 0, 0, 0), 0, 0), (6, .imul, 1, (0, 0, 0, 0), 0, 0), (7, .iload_n 2, 1, (2, 0, 0, 0), 0, 0), (8, .iadd, 1, (0, 0, 0, 0), 0, 0), (9, .iaload, 1, (0, 0, 0, 0), 0, 0), (10, .ireturn, 1, (0, 0, 0, 0), 0, 0)])]
-- ShareNetsModel.add(III)I
set_option maxRecDepth 100000 in
noncomputable def z_k230 : List (Nat × List (Nat × z_E)) := [(46, [(0, .iload_n 1, 1, (1, 0, 0, 0), 0, 0), (1, .ifCond .ne 29, 3, (30, 0, 0, 0), 0, 0), (4, .iload_n 2, 1, (2, 0, 0, 0), 0, 0), (5, .iconst 2, 1, (0, 0, 0, 0), 2, 0), (6, .iconst 3, 1, (0, 0, 0, 0), 3, 0), (7, .invokestatic 117, 3, (158, 0, 3, 0), 0, 0), (10, .ifCond .eq 16, 3, (26, 0, 0, 0), 0, 0), (13, .aload_n 0, 1, (0, 0, 0, 0), 0, 0), (14, .iload_n 2, 1, (2, 0, 0, 0), 0, 0), (15, .iload_n 3, 1, (3, 0, 0, 0), 0, 0), (16, .invokevirtual 246, 3, (166, 4, 2, 0), 0, 0), (19, .ifCond .eq 7, 3, (26, 0, 0, 0), 0, 0), (22, .iconst 1, 1, (0, 0, 0, 0), 1, 0), (23, .goto 68, 3, (91, 0, 0, 0), 0, 0), (26, .iconst 0, 1, (0, 0, 0, 0), 0, 0), (27, .goto 64, 3, (91, 0, 0, 0), 0, 0), (30, .iload_n 1, 1, (1, 0, 0, 0), 0, 0), (31, .iconst 2, 1, (0, 0, 0, 0), 2, 0), (32, .if_icmp .ne 33, 3, (65, 0, 0, 0), 0, 0), (35, .iload_n 2, 1, (2, 0, 0, 0), 0, 0), (36, .bipush (-9), 2, (0, 0, 0, 0), (-9), 0), (38, .bipush 9, 2, (0, 0, 0, 0), 9, 0), (40, .invokestatic 117, 3, (158, 0, 3, 0), 0, 0), (43, .ifCond .eq 18, 3, (61, 0, 0, 0), 0, 0)]),
  (93, [(46, .iload_n 3, 1, (3, 0, 0, 0), 0, 0), (47, .bipush (-9), 2, (0, 0, 0, 0), (-9), 0), (49, .bipush 9, 2, (0, 0, 0, 0), 9, 0), (51, .invokestatic 117, 3, (158, 0, 3, 0), 0, 0), (54, .ifCond .eq 7, 3, (61, 0, 0, 0), 0, 0), (57, .iconst 1, 1, (0, 0, 0, 0), 1, 0), (58, .goto 33, 3, (91, 0, 0, 0), 0, 0), (61, .iconst 0, 1, (0, 0, 0, 0), 0, 0), (62, .goto 29, 3, (91, 0, 0, 0), 0, 0), (65, .iload_n 1, 1, (1, 0, 0, 0), 0, 0), (66, .iconst 1, 1, (0, 0, 0, 0), 1, 0), (67, .if_icmp .eq 8, 3, (75, 0, 0, 0), 0, 0), (70, .iload_n 1, 1, (1, 0, 0, 0), 0, 0), (71, .iconst 3, 1, (0, 0, 0, 0), 3, 0), (72, .if_icmp .ne 18, 3, (90, 0, 0, 0), 0, 0), (75, .iload_n 2, 1, (2, 0, 0, 0), 0, 0), (76, .iconst 0, 1, (0, 0, 0, 0), 0, 0), (77, .sipush 9999, 3, (0, 0, 0, 0), 9999, 0), (80, .invokestatic 117, 3, (158, 0, 3, 0), 0, 0), (83, .ifCond .eq 7, 3, (90, 0, 0, 0), 0, 0), (86, .iconst 1, 1, (0, 0, 0, 0), 1, 0), (87, .goto 4, 3, (91, 0, 0, 0), 0, 0), (90, .iconst 0, 1, (0, 0, 0, 0), 0, 0), (91, .istore 4, 2, (4, 0, 0, 0), 0, 0)]),
  (134, [(93, .iload 4, 2, (4, 0, 0, 0), 0, 0), (95, .ifCond .ne 5, 3, (100, 0, 0, 0), 0, 0), (98, .iconst (-1), 1, (0, 0, 0, 0), (-1), 0), (99, .ireturn, 1, (0, 0, 0, 0), 0, 0), (100, .aload_n 0, 1, (0, 0, 0, 0), 0, 0), (101, .getfield 318, 3, (8, 0, 12, 0), 0, 0), (104, .bipush 6, 2, (0, 0, 0, 0), 6, 0), (106, .if_icmp .ne 6, 3, (112, 0, 0, 0), 0, 0), (109, .bipush (-2), 2, (0, 0, 0, 0), (-2), 0), (111, .ireturn, 1, (0, 0, 0, 0), 0, 0), (112, .aload_n 0, 1, (0, 0, 0, 0), 0, 0), (113, .getfield 29, 3, (9, 2, 12, 0), 0, 0), (116, .iconst 4, 1, (0, 0, 0, 0), 4, 0), (117, .aload_n 0, 1, (0, 0, 0, 0), 0, 0), (118, .getfield 318, 3, (8, 0, 12, 0), 0, 0), (121, .imul, 1, (0, 0, 0, 0), 0, 0), (122, .iload_n 1, 1, (1, 0, 0, 0), 0, 0), (123, .iastore, 1, (0, 0, 0, 0), 0, 0), (124, .aload_n 0, 1, (0, 0, 0, 0), 0, 0), (125, .getfield 29, 3, (9, 2, 12, 0), 0, 0), (128, .iconst 4, 1, (0, 0, 0, 0), 4, 0), (129, .aload_n 0, 1, (0, 0, 0, 0), 0, 0), (130, .getfield 318, 3, (8, 0, 12, 0), 0, 0), (133, .imul, 1, (0, 0, 0, 0), 0, 0)]),
  (166, [(134, .iconst 1, 1, (0, 0, 0, 0), 1, 0), (135, .iadd, 1, (0, 0, 0, 0), 0, 0), (136, .iload_n 2, 1, (2, 0, 0, 0), 0, 0), (137, .iastore, 1, (0, 0, 0, 0), 0, 0), (138, .aload_n 0, 1, (0, 0, 0, 0), 0, 0), (139, .getfield 29, 3, (9, 2, 12, 0), 0, 0), (142, .iconst 4, 1, (0, 0, 0, 0), 4, 0), (143, .aload_n 0, 1, (0, 0, 0, 0), 0, 0), (144, .getfield 318, 3, (8, 0, 12, 0), 0, 0), (147, .imul, 1, (0, 0, 0, 0), 0, 0), (148, .iconst 2, 1, (0, 0, 0, 0), 2, 0), (149, .iadd, 1, (0, 0, 0, 0), 0, 0), (150, .iload_n 3, 1, (3, 0, 0, 0), 0, 0), (151, .iastore, 1, (0, 0, 0, 0), 0, 0), (152, .aload_n 0, 1, (0, 0, 0, 0), 0, 0), (153, .getfield 29, 3, (9, 2, 12, 0), 0, 0), (156, .iconst 4, 1, (0, 0, 0, 0), 4, 0), (157, .aload_n 0, 1, (0, 0, 0, 0), 0, 0), (158, .getfield 318, 3, (8, 0, 12, 0), 0, 0), (161, .imul, 1, (0, 0, 0, 0), 0, 0), (162, .iconst 3, 1, (0, 0, 0, 0), 3, 0), (163, .iadd, 1, (0, 0, 0, 0), 0, 0), (164, .iconst 0, 1, (0, 0, 0, 0), 0, 0), (165, .iastore, 1, (0, 0, 0, 0), 0, 0)]),
  (1000000, [(166, .aload_n 0, 1, (0, 0, 0, 0), 0, 0), (167, .dup, 1, (0, 0, 0, 0), 0, 0), (168, .getfield 318, 3, (8, 0, 12, 0), 0, 0), (171, .iconst 1, 1, (0, 0, 0, 0), 1, 0), (172, .iadd, 1, (0, 0, 0, 0), 0, 0), (173, .putfield 318, 3, (8, 0, 12, 0), 0, 0), (176, .aload_n 0, 1, (0, 0, 0, 0), 0, 0), (177, .getfield 318, 3, (8, 0, 12, 0), 0, 0), (180, .iconst 1, 1, (0, 0, 0, 0), 1, 0), (181, .isub, 1, (0, 0, 0, 0), 0, 0), (182, .ireturn, 1, (0, 0, 0, 0), 0, 0)])]
-- ShareNetsModel.shareOf(II)I
set_option maxRecDepth 100000 in
noncomputable def z_k231 : List (Nat × List (Nat × z_E)) := [(1000000, [(0, .aload_n 0, 1, (0, 0, 0, 0), 0, 0), (1, .iload_n 1, 1, (1, 0, 0, 0), 0, 0), (2, .invokevirtual 321, 3, (228, 4, 1, 0), 0, 0), (5, .ifCond .eq 21, 3, (26, 0, 0, 0), 0, 0), (8, .iload_n 2, 1, (2, 0, 0, 0), 0, 0), (9, .iconst 0, 1, (0, 0, 0, 0), 0, 0), (10, .iconst 3, 1, (0, 0, 0, 0), 3, 0), (11, .invokestatic 117, 3, (158, 0, 3, 0), 0, 0), (14, .ifCond .eq 12, 3, (26, 0, 0, 0), 0, 0), (17, .aload_n 0, 1, (0, 0, 0, 0), 0, 0), (18, .iload_n 1, 1, (1, 0, 0, 0), 0, 0), (19, .iload_n 2, 1, (2, 0, 0, 0), 0, 0), (20, .invokevirtual 324, 3, (229, 4, 2, 0), 0, 0), (23, .goto 4, 3, (27, 0, 0, 0), 0, 0), (26, .iconst (-1), 1, (0, 0, 0, 0), (-1), 0), (27, .ireturn, 1, (0, 0, 0, 0), 0, 0)])]
-- ShareNetsModel.weight(II)I
set_option maxRecDepth 100000 in
noncomputable def z_k232 : List (Nat × List (Nat × z_E)) := [(37, [(0, .aload_n 0, 1, (0, 0, 0, 0), 0, 0), (1, .iload_n 1, 1, (1, 0, 0, 0), 0, 0), (2, .invokevirtual 321, 3, (228, 4, 1, 0), 0, 0), (5, .ifCond .eq 13, 3, (18, 0, 0, 0), 0, 0), (8, .iload_n 2, 1, (2, 0, 0, 0), 0, 0), (9, .iconst 0, 1, (0, 0, 0, 0), 0, 0), (10, .bipush 99, 2, (0, 0, 0, 0), 99, 0), (12, .invokestatic 117, 3, (158, 0, 3, 0), 0, 0), (15, .ifCond .ne 5, 3, (20, 0, 0, 0), 0, 0), (18, .iconst (-1), 1, (0, 0, 0, 0), (-1), 0), (19, .ireturn, 1, (0, 0, 0, 0), 0, 0), (20, .aload_n 0, 1, (0, 0, 0, 0), 0, 0), (21, .iload_n 1, 1, (1, 0, 0, 0), 0, 0), (22, .iconst 3, 1, (0, 0, 0, 0), 3, 0), (23, .invokevirtual 324, 3, (229, 4, 2, 0), 0, 0), (26, .istore_n 3, 1, (3, 0, 0, 0), 0, 0), (27, .aload_n 0, 1, (0, 0, 0, 0), 0, 0), (28, .getfield 29, 3, (9, 2, 12, 0), 0, 0), (31, .iconst 4, 1, (0, 0, 0, 0), 4, 0), (32, .iload_n 1, 1, (1, 0, 0, 0), 0, 0), (33, .imul, 1, (0, 0, 0, 0), 0, 0), (34, .iconst 3, 1, (0, 0, 0, 0), 3, 0), (35, .iadd, 1, (0, 0, 0, 0), 0, 0), (36, .iload_n 2, 1, (2, 0, 0, 0), 0, 0)]),
  (1000000, [(37, .iastore, 1, (0, 0, 0, 0), 0, 0), (38, .iload_n 3, 1, (3, 0, 0, 0), 0, 0), (39, .ireturn, 1, (0, 0, 0, 0), 0, 0)])]
-- ShareNetsModel.givesOf(II)I
set_option maxRecDepth 100000 in
noncomputable def z_k233 : List (Nat × List (Nat × z_E)) := [(60, [(0, .aload_n 0, 1, (0, 0, 0, 0), 0, 0), (1, .iload_n 1, 1, (1, 0, 0, 0), 0, 0), (2, .iconst 1, 1, (0, 0, 0, 0), 1, 0), (3, .invokevirtual 324, 3, (229, 4, 2, 0), 0, 0), (6, .istore_n 3, 1, (3, 0, 0, 0), 0, 0), (7, .aload_n 0, 1, (0, 0, 0, 0), 0, 0), (8, .iload_n 1, 1, (1, 0, 0, 0), 0, 0), (9, .iconst 2, 1, (0, 0, 0, 0), 2, 0), (10, .invokevirtual 324, 3, (229, 4, 2, 0), 0, 0), (13, .istore 4, 2, (4, 0, 0, 0), 0, 0), (15, .aload_n 0, 1, (0, 0, 0, 0), 0, 0), (16, .getfield 35, 3, (11, 2, 12, 0), 0, 0), (19, .bipush 33, 2, (0, 0, 0, 0), 33, 0), (21, .iload_n 2, 1, (2, 0, 0, 0), 0, 0), (22, .iadd, 1, (0, 0, 0, 0), 0, 0), (23, .iaload, 1, (0, 0, 0, 0), 0, 0), (24, .istore 5, 2, (5, 0, 0, 0), 0, 0), (26, .iload_n 3, 1, (3, 0, 0, 0), 0, 0), (27, .istore 6, 2, (6, 0, 0, 0), 0, 0), (29, .aload_n 0, 1, (0, 0, 0, 0), 0, 0), (30, .iload_n 1, 1, (1, 0, 0, 0), 0, 0), (31, .iconst 0, 1, (0, 0, 0, 0), 0, 0), (32, .invokevirtual 324, 3, (229, 4, 2, 0), 0, 0), (35, .lookupswitch 114 #[(0, 25), (2, 44)], 25, (0, 0, 0, 0), 0, 0)]),
  (98, [(60, .aload_n 0, 1, (0, 0, 0, 0), 0, 0), (61, .iconst 3, 1, (0, 0, 0, 0), 3, 0), (62, .iload 5, 2, (5, 0, 0, 0), 0, 0), (64, .iload_n 3, 1, (3, 0, 0, 0), 0, 0), (65, .iload 4, 2, (4, 0, 0, 0), 0, 0), (67, .invokevirtual 271, 3, (202, 4, 4, 0), 0, 0), (70, .iconst 3, 1, (0, 0, 0, 0), 3, 0), (71, .imul, 1, (0, 0, 0, 0), 0, 0), (72, .iconst 3, 1, (0, 0, 0, 0), 3, 0), (73, .iload_n 3, 1, (3, 0, 0, 0), 0, 0), (74, .invokestatic 258, 3, (195, 0, 2, 0), 0, 0), (77, .idiv, 1, (0, 0, 0, 0), 0, 0), (78, .ireturn, 1, (0, 0, 0, 0), 0, 0), (79, .iload 5, 2, (5, 0, 0, 0), 0, 0), (81, .iconst 1, 1, (0, 0, 0, 0), 1, 0), (82, .iand, 1, (0, 0, 0, 0), 0, 0), (83, .iconst 1, 1, (0, 0, 0, 0), 1, 0), (84, .if_icmp .ne 7, 3, (91, 0, 0, 0), 0, 0), (87, .iload_n 3, 1, (3, 0, 0, 0), 0, 0), (88, .goto 5, 3, (93, 0, 0, 0), 0, 0), (91, .iload 4, 2, (4, 0, 0, 0), 0, 0), (93, .istore 7, 2, (7, 0, 0, 0), 0, 0), (95, .iload 5, 2, (5, 0, 0, 0), 0, 0), (97, .iconst 1, 1, (0, 0, 0, 0), 1, 0)]),
  (138, [(98, .ishr, 1, (0, 0, 0, 0), 0, 0), (99, .iconst 1, 1, (0, 0, 0, 0), 1, 0), (100, .iand, 1, (0, 0, 0, 0), 0, 0), (101, .iconst 1, 1, (0, 0, 0, 0), 1, 0), (102, .if_icmp .ne 7, 3, (109, 0, 0, 0), 0, 0), (105, .iload_n 3, 1, (3, 0, 0, 0), 0, 0), (106, .goto 5, 3, (111, 0, 0, 0), 0, 0), (109, .iload 4, 2, (4, 0, 0, 0), 0, 0), (111, .istore 8, 2, (8, 0, 0, 0), 0, 0), (113, .iload 5, 2, (5, 0, 0, 0), 0, 0), (115, .iconst 2, 1, (0, 0, 0, 0), 2, 0), (116, .ishr, 1, (0, 0, 0, 0), 0, 0), (117, .iconst 1, 1, (0, 0, 0, 0), 1, 0), (118, .iand, 1, (0, 0, 0, 0), 0, 0), (119, .iconst 1, 1, (0, 0, 0, 0), 1, 0), (120, .if_icmp .ne 7, 3, (127, 0, 0, 0), 0, 0), (123, .iload_n 3, 1, (3, 0, 0, 0), 0, 0), (124, .goto 5, 3, (129, 0, 0, 0), 0, 0), (127, .iload 4, 2, (4, 0, 0, 0), 0, 0), (129, .istore 9, 2, (9, 0, 0, 0), 0, 0), (131, .iload 7, 2, (7, 0, 0, 0), 0, 0), (133, .iload 8, 2, (8, 0, 0, 0), 0, 0), (135, .imul, 1, (0, 0, 0, 0), 0, 0), (136, .iload 7, 2, (7, 0, 0, 0), 0, 0)]),
  (178, [(138, .iload 9, 2, (9, 0, 0, 0), 0, 0), (140, .imul, 1, (0, 0, 0, 0), 0, 0), (141, .iadd, 1, (0, 0, 0, 0), 0, 0), (142, .iload 8, 2, (8, 0, 0, 0), 0, 0), (144, .iload 9, 2, (9, 0, 0, 0), 0, 0), (146, .imul, 1, (0, 0, 0, 0), 0, 0), (147, .iadd, 1, (0, 0, 0, 0), 0, 0), (148, .ireturn, 1, (0, 0, 0, 0), 0, 0), (149, .iconst 0, 1, (0, 0, 0, 0), 0, 0), (150, .istore 10, 2, (10, 0, 0, 0), 0, 0), (152, .iload 10, 2, (10, 0, 0, 0), 0, 0), (154, .iload_n 2, 1, (2, 0, 0, 0), 0, 0), (155, .if_icmp .ge 16, 3, (171, 0, 0, 0), 0, 0), (158, .iload 6, 2, (6, 0, 0, 0), 0, 0), (160, .bipush 10, 2, (0, 0, 0, 0), 10, 0), (162, .idiv, 1, (0, 0, 0, 0), 0, 0), (163, .istore 6, 2, (6, 0, 0, 0), 0, 0), (165, .iinc 10 1, 3, (10, 0, 0, 0), 1, 0), (168, .goto (-16), 3, (152, 0, 0, 0), 0, 0), (171, .iconst 3, 1, (0, 0, 0, 0), 3, 0), (172, .iload 6, 2, (6, 0, 0, 0), 0, 0), (174, .bipush 10, 2, (0, 0, 0, 0), 10, 0), (176, .irem, 1, (0, 0, 0, 0), 0, 0), (177, .iconst 4, 1, (0, 0, 0, 0), 4, 0)]),
  (1000000, [(178, .isub, 1, (0, 0, 0, 0), 0, 0), (179, .imul, 1, (0, 0, 0, 0), 0, 0), (180, .ireturn, 1, (0, 0, 0, 0), 0, 0)])]
-- ShareNetsModel.gives(II)J
set_option maxRecDepth 100000 in
noncomputable def z_k234 : List (Nat × List (Nat × z_E)) := [(1000000, [(0, .aload_n 0, 1, (0, 0, 0, 0), 0, 0), (1, .iload_n 1, 1, (1, 0, 0, 0), 0, 0), (2, .invokevirtual 321, 3, (228, 4, 1, 0), 0, 0), (5, .ifCond .eq 22, 3, (27, 0, 0, 0), 0, 0), (8, .iload_n 2, 1, (2, 0, 0, 0), 0, 0), (9, .iconst 0, 1, (0, 0, 0, 0), 0, 0), (10, .iconst 3, 1, (0, 0, 0, 0), 3, 0), (11, .invokestatic 117, 3, (158, 0, 3, 0), 0, 0), (14, .ifCond .eq 13, 3, (27, 0, 0, 0), 0, 0), (17, .aload_n 0, 1, (0, 0, 0, 0), 0, 0), (18, .iload_n 1, 1, (1, 0, 0, 0), 0, 0), (19, .iload_n 2, 1, (2, 0, 0, 0), 0, 0), (20, .invokevirtual 327, 3, (233, 4, 2, 0), 0, 0), (23, .i2l, 1, (0, 0, 0, 0), 0, 0), (24, .goto 6, 3, (30, 0, 0, 0), 0, 0), (27, .ldc2_w 330, 3, (0, 0, 0, 0), 0, (-1000000000000)), (30, .lreturn, 1, (0, 0, 0, 0), 0, 0)])]
-- ShareNetsModel.value(III)J
set_option maxRecDepth 100000 in
noncomputable def z_k235 : List (Nat × List (Nat × z_E)) := [(45, [(0, .aload_n 0, 1, (0, 0, 0, 0), 0, 0), (1, .iload_n 1, 1, (1, 0, 0, 0), 0, 0), (2, .invokevirtual 321, 3, (228, 4, 1, 0), 0, 0), (5, .ifCond .eq 27, 3, (32, 0, 0, 0), 0, 0), (8, .iload_n 2, 1, (2, 0, 0, 0), 0, 0), (9, .invokestatic 199, 3, (162, 0, 1, 0), 0, 0), (12, .ifCond .eq 20, 3, (32, 0, 0, 0), 0, 0), (15, .iload_n 3, 1, (3, 0, 0, 0), 0, 0), (16, .invokestatic 226, 3, (163, 0, 1, 0), 0, 0), (19, .ifCond .eq 13, 3, (32, 0, 0, 0), 0, 0), (22, .aload_n 0, 1, (0, 0, 0, 0), 0, 0), (23, .getfield 7, 3, (0, 2, 12, 0), 0, 0), (26, .iload_n 2, 1, (2, 0, 0, 0), 0, 0), (27, .iaload, 1, (0, 0, 0, 0), 0, 0), (28, .iconst 3, 1, (0, 0, 0, 0), 3, 0), (29, .if_icmp .ge 7, 3, (36, 0, 0, 0), 0, 0), (32, .ldc2_w 330, 3, (0, 0, 0, 0), 0, (-1000000000000)), (35, .lreturn, 1, (0, 0, 0, 0), 0, 0), (36, .lconst 0, 1, (0, 0, 0, 0), 0, 0), (37, .lstore 4, 2, (4, 0, 0, 0), 0, 0), (39, .iconst 0, 1, (0, 0, 0, 0), 0, 0), (40, .istore 6, 2, (6, 0, 0, 0), 0, 0), (42, .iload 6, 2, (6, 0, 0, 0), 0, 0), (44, .iconst 4, 1, (0, 0, 0, 0), 4, 0)]),
  (86, [(45, .if_icmp .ge 40, 3, (85, 0, 0, 0), 0, 0), (48, .lload 4, 2, (4, 0, 0, 0), 0, 0), (50, .aload_n 0, 1, (0, 0, 0, 0), 0, 0), (51, .iload_n 1, 1, (1, 0, 0, 0), 0, 0), (52, .iload 6, 2, (6, 0, 0, 0), 0, 0), (54, .invokevirtual 327, 3, (233, 4, 2, 0), 0, 0), (57, .i2l, 1, (0, 0, 0, 0), 0, 0), (58, .aload_n 0, 1, (0, 0, 0, 0), 0, 0), (59, .iload_n 2, 1, (2, 0, 0, 0), 0, 0), (60, .iconst 3, 1, (0, 0, 0, 0), 3, 0), (61, .aload_n 0, 1, (0, 0, 0, 0), 0, 0), (62, .getfield 35, 3, (11, 2, 12, 0), 0, 0), (65, .bipush 33, 2, (0, 0, 0, 0), 33, 0), (67, .iload 6, 2, (6, 0, 0, 0), 0, 0), (69, .iadd, 1, (0, 0, 0, 0), 0, 0), (70, .iaload, 1, (0, 0, 0, 0), 0, 0), (71, .invokevirtual 249, 3, (196, 4, 3, 0), 0, 0), (74, .i2l, 1, (0, 0, 0, 0), 0, 0), (75, .lmul, 1, (0, 0, 0, 0), 0, 0), (76, .ladd, 1, (0, 0, 0, 0), 0, 0), (77, .lstore 4, 2, (4, 0, 0, 0), 0, 0), (79, .iinc 6 1, 3, (6, 0, 0, 0), 1, 0), (82, .goto (-40), 3, (42, 0, 0, 0), 0, 0), (85, .aload_n 0, 1, (0, 0, 0, 0), 0, 0)]),
  (1000000, [(86, .lload 4, 2, (4, 0, 0, 0), 0, 0), (88, .ldc2_w 332, 3, (0, 0, 0, 0), 0, 3), (91, .aload_n 0, 1, (0, 0, 0, 0), 0, 0), (92, .getfield 7, 3, (0, 2, 12, 0), 0, 0), (95, .iload_n 2, 1, (2, 0, 0, 0), 0, 0), (96, .iaload, 1, (0, 0, 0, 0), 0, 0), (97, .iconst 3, 1, (0, 0, 0, 0), 3, 0), (98, .invokestatic 258, 3, (195, 0, 2, 0), 0, 0), (101, .i2l, 1, (0, 0, 0, 0), 0, 0), (102, .lmul, 1, (0, 0, 0, 0), 0, 0), (103, .invokevirtual 261, 3, (198, 4, 2, 0), 0, 0), (106, .aload_n 0, 1, (0, 0, 0, 0), 0, 0), (107, .iload_n 3, 1, (3, 0, 0, 0), 0, 0), (108, .invokevirtual 265, 3, (199, 4, 1, 0), 0, 0), (111, .lreturn, 1, (0, 0, 0, 0), 0, 0)])]
-- ShareNetsModel.valueAt(II)J
set_option maxRecDepth 100000 in
noncomputable def z_k236 : List (Nat × List (Nat × z_E)) := [(45, [(0, .aload_n 0, 1, (0, 0, 0, 0), 0, 0), (1, .iload_n 1, 1, (1, 0, 0, 0), 0, 0), (2, .invokevirtual 321, 3, (228, 4, 1, 0), 0, 0), (5, .ifCond .eq 17, 3, (22, 0, 0, 0), 0, 0), (8, .iload_n 2, 1, (2, 0, 0, 0), 0, 0), (9, .invokestatic 226, 3, (163, 0, 1, 0), 0, 0), (12, .ifCond .eq 10, 3, (22, 0, 0, 0), 0, 0), (15, .aload_n 0, 1, (0, 0, 0, 0), 0, 0), (16, .getfield 288, 3, (4, 0, 12, 0), 0, 0), (19, .ifCond .ne 7, 3, (26, 0, 0, 0), 0, 0), (22, .ldc2_w 330, 3, (0, 0, 0, 0), 0, (-1000000000000)), (25, .lreturn, 1, (0, 0, 0, 0), 0, 0), (26, .lconst 0, 1, (0, 0, 0, 0), 0, 0), (27, .lstore_n 3, 1, (3, 0, 0, 0), 0, 0), (28, .iconst 0, 1, (0, 0, 0, 0), 0, 0), (29, .istore 5, 2, (5, 0, 0, 0), 0, 0), (31, .iload 5, 2, (5, 0, 0, 0), 0, 0), (33, .iconst 4, 1, (0, 0, 0, 0), 4, 0), (34, .if_icmp .ge 36, 3, (70, 0, 0, 0), 0, 0), (37, .lload_n 3, 1, (3, 0, 0, 0), 0, 0), (38, .aload_n 0, 1, (0, 0, 0, 0), 0, 0), (39, .iload_n 1, 1, (1, 0, 0, 0), 0, 0), (40, .iload 5, 2, (5, 0, 0, 0), 0, 0), (42, .invokevirtual 327, 3, (233, 4, 2, 0), 0, 0)]),
  (85, [(45, .i2l, 1, (0, 0, 0, 0), 0, 0), (46, .aload_n 0, 1, (0, 0, 0, 0), 0, 0), (47, .iconst 3, 1, (0, 0, 0, 0), 3, 0), (48, .aload_n 0, 1, (0, 0, 0, 0), 0, 0), (49, .getfield 35, 3, (11, 2, 12, 0), 0, 0), (52, .bipush 33, 2, (0, 0, 0, 0), 33, 0), (54, .iload 5, 2, (5, 0, 0, 0), 0, 0), (56, .iadd, 1, (0, 0, 0, 0), 0, 0), (57, .iaload, 1, (0, 0, 0, 0), 0, 0), (58, .invokevirtual 301, 3, (216, 4, 2, 0), 0, 0), (61, .lmul, 1, (0, 0, 0, 0), 0, 0), (62, .ladd, 1, (0, 0, 0, 0), 0, 0), (63, .lstore_n 3, 1, (3, 0, 0, 0), 0, 0), (64, .iinc 5 1, 3, (5, 0, 0, 0), 1, 0), (67, .goto (-36), 3, (31, 0, 0, 0), 0, 0), (70, .aload_n 0, 1, (0, 0, 0, 0), 0, 0), (71, .lload_n 3, 1, (3, 0, 0, 0), 0, 0), (72, .ldc2_w 332, 3, (0, 0, 0, 0), 0, 3), (75, .aload_n 0, 1, (0, 0, 0, 0), 0, 0), (76, .iconst 3, 1, (0, 0, 0, 0), 3, 0), (77, .invokevirtual 304, 3, (217, 4, 1, 0), 0, 0), (80, .lmul, 1, (0, 0, 0, 0), 0, 0), (81, .invokevirtual 261, 3, (198, 4, 2, 0), 0, 0), (84, .aload_n 0, 1, (0, 0, 0, 0), 0, 0)]),
  (1000000, [(85, .iload_n 2, 1, (2, 0, 0, 0), 0, 0), (86, .invokevirtual 265, 3, (199, 4, 1, 0), 0, 0), (89, .lreturn, 1, (0, 0, 0, 0), 0, 0)])]
-- ShareNetsModel.findBound(II)Z
set_option maxRecDepth 100000 in
noncomputable def z_k237 : List (Nat × List (Nat × z_E)) := [(39, [(0, .aload_n 0, 1, (0, 0, 0, 0), 0, 0), (1, .aload_n 0, 1, (0, 0, 0, 0), 0, 0), (2, .iconst 3, 1, (0, 0, 0, 0), 3, 0), (3, .invokevirtual 285, 3, (208, 4, 1, 0), 0, 0), (6, .putfield 334, 3, (35, 0, 12, 0), 0, 0), (9, .aload_n 0, 1, (0, 0, 0, 0), 0, 0), (10, .ldc_w 337, 3, (0, 0, 0, 0), (-1000000), 0), (13, .putfield 338, 3, (34, 0, 12, 0), 0, 0), (16, .iconst 0, 1, (0, 0, 0, 0), 0, 0), (17, .istore_n 3, 1, (3, 0, 0, 0), 0, 0), (18, .iload_n 3, 1, (3, 0, 0, 0), 0, 0), (19, .iconst 4, 1, (0, 0, 0, 0), 4, 0), (20, .if_icmp .ge 139, 3, (159, 0, 0, 0), 0, 0), (23, .aload_n 0, 1, (0, 0, 0, 0), 0, 0), (24, .getfield 68, 3, (33, 2, 12, 0), 0, 0), (27, .iload_n 3, 1, (3, 0, 0, 0), 0, 0), (28, .aload_n 0, 1, (0, 0, 0, 0), 0, 0), (29, .iconst 3, 1, (0, 0, 0, 0), 3, 0), (30, .aload_n 0, 1, (0, 0, 0, 0), 0, 0), (31, .getfield 35, 3, (11, 2, 12, 0), 0, 0), (34, .bipush 33, 2, (0, 0, 0, 0), 33, 0), (36, .iload_n 3, 1, (3, 0, 0, 0), 0, 0), (37, .iadd, 1, (0, 0, 0, 0), 0, 0), (38, .iaload, 1, (0, 0, 0, 0), 0, 0)]),
  (77, [(39, .iload_n 1, 1, (1, 0, 0, 0), 0, 0), (40, .iload_n 2, 1, (2, 0, 0, 0), 0, 0), (41, .invokevirtual 271, 3, (202, 4, 4, 0), 0, 0), (44, .bipush 36, 2, (0, 0, 0, 0), 36, 0), (46, .imul, 1, (0, 0, 0, 0), 0, 0), (47, .iconst 3, 1, (0, 0, 0, 0), 3, 0), (48, .iload_n 1, 1, (1, 0, 0, 0), 0, 0), (49, .invokestatic 258, 3, (195, 0, 2, 0), 0, 0), (52, .idiv, 1, (0, 0, 0, 0), 0, 0), (53, .iastore, 1, (0, 0, 0, 0), 0, 0), (54, .iconst 0, 1, (0, 0, 0, 0), 0, 0), (55, .istore 4, 2, (4, 0, 0, 0), 0, 0), (57, .iload 4, 2, (4, 0, 0, 0), 0, 0), (59, .aload_n 0, 1, (0, 0, 0, 0), 0, 0), (60, .getfield 318, 3, (8, 0, 12, 0), 0, 0), (63, .if_icmp .ge 48, 3, (111, 0, 0, 0), 0, 0), (66, .aload_n 0, 1, (0, 0, 0, 0), 0, 0), (67, .getfield 68, 3, (33, 2, 12, 0), 0, 0), (70, .iload_n 3, 1, (3, 0, 0, 0), 0, 0), (71, .dup2, 1, (0, 0, 0, 0), 0, 0), (72, .iaload, 1, (0, 0, 0, 0), 0, 0), (73, .aload_n 0, 1, (0, 0, 0, 0), 0, 0), (74, .iload 4, 2, (4, 0, 0, 0), 0, 0), (76, .iconst 0, 1, (0, 0, 0, 0), 0, 0)]),
  (119, [(77, .invokevirtual 324, 3, (229, 4, 2, 0), 0, 0), (80, .iconst 2, 1, (0, 0, 0, 0), 2, 0), (81, .if_icmp .ne 21, 3, (102, 0, 0, 0), 0, 0), (84, .aload_n 0, 1, (0, 0, 0, 0), 0, 0), (85, .iload 4, 2, (4, 0, 0, 0), 0, 0), (87, .iconst 3, 1, (0, 0, 0, 0), 3, 0), (88, .invokevirtual 324, 3, (229, 4, 2, 0), 0, 0), (91, .aload_n 0, 1, (0, 0, 0, 0), 0, 0), (92, .iload 4, 2, (4, 0, 0, 0), 0, 0), (94, .iload_n 3, 1, (3, 0, 0, 0), 0, 0), (95, .invokevirtual 327, 3, (233, 4, 2, 0), 0, 0), (98, .imul, 1, (0, 0, 0, 0), 0, 0), (99, .goto 4, 3, (103, 0, 0, 0), 0, 0), (102, .iconst 0, 1, (0, 0, 0, 0), 0, 0), (103, .iadd, 1, (0, 0, 0, 0), 0, 0), (104, .iastore, 1, (0, 0, 0, 0), 0, 0), (105, .iinc 4 1, 3, (4, 0, 0, 0), 1, 0), (108, .goto (-51), 3, (57, 0, 0, 0), 0, 0), (111, .aload_n 0, 1, (0, 0, 0, 0), 0, 0), (112, .aload_n 0, 1, (0, 0, 0, 0), 0, 0), (113, .getfield 334, 3, (35, 0, 12, 0), 0, 0), (116, .iload_n 3, 1, (3, 0, 0, 0), 0, 0), (117, .ishr, 1, (0, 0, 0, 0), 0, 0), (118, .iconst 1, 1, (0, 0, 0, 0), 1, 0)]),
  (167, [(119, .iand, 1, (0, 0, 0, 0), 0, 0), (120, .iconst 1, 1, (0, 0, 0, 0), 1, 0), (121, .if_icmp .ne 25, 3, (146, 0, 0, 0), 0, 0), (124, .aload_n 0, 1, (0, 0, 0, 0), 0, 0), (125, .getfield 68, 3, (33, 2, 12, 0), 0, 0), (128, .iload_n 3, 1, (3, 0, 0, 0), 0, 0), (129, .iaload, 1, (0, 0, 0, 0), 0, 0), (130, .aload_n 0, 1, (0, 0, 0, 0), 0, 0), (131, .getfield 338, 3, (34, 0, 12, 0), 0, 0), (134, .if_icmp .le 12, 3, (146, 0, 0, 0), 0, 0), (137, .aload_n 0, 1, (0, 0, 0, 0), 0, 0), (138, .getfield 68, 3, (33, 2, 12, 0), 0, 0), (141, .iload_n 3, 1, (3, 0, 0, 0), 0, 0), (142, .iaload, 1, (0, 0, 0, 0), 0, 0), (143, .goto 7, 3, (150, 0, 0, 0), 0, 0), (146, .aload_n 0, 1, (0, 0, 0, 0), 0, 0), (147, .getfield 338, 3, (34, 0, 12, 0), 0, 0), (150, .putfield 338, 3, (34, 0, 12, 0), 0, 0), (153, .iinc 3 1, 3, (3, 0, 0, 0), 1, 0), (156, .goto (-138), 3, (18, 0, 0, 0), 0, 0), (159, .aload_n 0, 1, (0, 0, 0, 0), 0, 0), (160, .getfield 334, 3, (35, 0, 12, 0), 0, 0), (163, .ifCond .eq 7, 3, (170, 0, 0, 0), 0, 0), (166, .iconst 1, 1, (0, 0, 0, 0), 1, 0)]),
  (1000000, [(167, .goto 4, 3, (171, 0, 0, 0), 0, 0), (170, .iconst 0, 1, (0, 0, 0, 0), 0, 0), (171, .ireturn, 1, (1, 0, 0, 0), 0, 0)])]
-- ShareNetsModel.isBound(II)Z
set_option maxRecDepth 100000 in
noncomputable def z_k238 : List (Nat × List (Nat × z_E)) := [(1000000, [(0, .iload_n 1, 1, (1, 0, 0, 0), 0, 0), (1, .iconst 2, 1, (0, 0, 0, 0), 2, 0), (2, .iconst 3, 1, (0, 0, 0, 0), 3, 0), (3, .invokestatic 117, 3, (158, 0, 3, 0), 0, 0), (6, .ifCond .eq 16, 3, (22, 0, 0, 0), 0, 0), (9, .aload_n 0, 1, (0, 0, 0, 0), 0, 0), (10, .iload_n 1, 1, (1, 0, 0, 0), 0, 0), (11, .iload_n 2, 1, (2, 0, 0, 0), 0, 0), (12, .invokevirtual 246, 3, (166, 4, 2, 0), 0, 0), (15, .ifCond .eq 7, 3, (22, 0, 0, 0), 0, 0), (18, .iconst 1, 1, (0, 0, 0, 0), 1, 0), (19, .goto 4, 3, (23, 0, 0, 0), 0, 0), (22, .iconst 0, 1, (0, 0, 0, 0), 0, 0), (23, .ireturn, 1, (1, 0, 0, 0), 0, 0)])]
-- ShareNetsModel.bound(III)J
set_option maxRecDepth 100000 in
noncomputable def z_k239 : List (Nat × List (Nat × z_E)) := [(46, [(0, .aload_n 0, 1, (0, 0, 0, 0), 0, 0), (1, .iload_n 1, 1, (1, 0, 0, 0), 0, 0), (2, .iload_n 2, 1, (2, 0, 0, 0), 0, 0), (3, .invokevirtual 341, 3, (238, 4, 2, 0), 0, 0), (6, .ifCond .eq 19, 3, (25, 0, 0, 0), 0, 0), (9, .iload_n 3, 1, (3, 0, 0, 0), 0, 0), (10, .invokestatic 226, 3, (163, 0, 1, 0), 0, 0), (13, .ifCond .eq 12, 3, (25, 0, 0, 0), 0, 0), (16, .aload_n 0, 1, (0, 0, 0, 0), 0, 0), (17, .iload_n 1, 1, (1, 0, 0, 0), 0, 0), (18, .iload_n 2, 1, (2, 0, 0, 0), 0, 0), (19, .invokevirtual 344, 3, (237, 4, 2, 0), 0, 0), (22, .ifCond .ne 7, 3, (29, 0, 0, 0), 0, 0), (25, .ldc2_w 330, 3, (0, 0, 0, 0), 0, (-1000000000000)), (28, .lreturn, 1, (0, 0, 0, 0), 0, 0), (29, .aload_n 0, 1, (0, 0, 0, 0), 0, 0), (30, .aload_n 0, 1, (0, 0, 0, 0), 0, 0), (31, .getfield 338, 3, (34, 0, 12, 0), 0, 0), (34, .i2l, 1, (0, 0, 0, 0), 0, 0), (35, .ldc2_w 347, 3, (0, 0, 0, 0), 0, 36), (38, .invokevirtual 261, 3, (198, 4, 2, 0), 0, 0), (41, .aload_n 0, 1, (0, 0, 0, 0), 0, 0), (42, .iload_n 3, 1, (3, 0, 0, 0), 0, 0), (43, .invokevirtual 265, 3, (199, 4, 1, 0), 0, 0)]),
  (1000000, [(46, .lreturn, 1, (0, 0, 0, 0), 0, 0)])]
-- ShareNetsModel.slack(IIII)J
set_option maxRecDepth 100000 in
noncomputable def z_k240 : List (Nat × List (Nat × z_E)) := [(43, [(0, .aload_n 0, 1, (0, 0, 0, 0), 0, 0), (1, .iload_n 1, 1, (1, 0, 0, 0), 0, 0), (2, .iload_n 2, 1, (2, 0, 0, 0), 0, 0), (3, .invokevirtual 341, 3, (238, 4, 2, 0), 0, 0), (6, .ifCond .eq 40, 3, (46, 0, 0, 0), 0, 0), (9, .iload_n 3, 1, (3, 0, 0, 0), 0, 0), (10, .iconst 0, 1, (0, 0, 0, 0), 0, 0), (11, .iconst 3, 1, (0, 0, 0, 0), 3, 0), (12, .invokestatic 117, 3, (158, 0, 3, 0), 0, 0), (15, .ifCond .eq 31, 3, (46, 0, 0, 0), 0, 0), (18, .iload 4, 2, (4, 0, 0, 0), 0, 0), (20, .invokestatic 226, 3, (163, 0, 1, 0), 0, 0), (23, .ifCond .eq 23, 3, (46, 0, 0, 0), 0, 0), (26, .aload_n 0, 1, (0, 0, 0, 0), 0, 0), (27, .iload_n 1, 1, (1, 0, 0, 0), 0, 0), (28, .iload_n 2, 1, (2, 0, 0, 0), 0, 0), (29, .invokevirtual 344, 3, (237, 4, 2, 0), 0, 0), (32, .ifCond .eq 14, 3, (46, 0, 0, 0), 0, 0), (35, .aload_n 0, 1, (0, 0, 0, 0), 0, 0), (36, .getfield 334, 3, (35, 0, 12, 0), 0, 0), (39, .iload_n 3, 1, (3, 0, 0, 0), 0, 0), (40, .ishr, 1, (0, 0, 0, 0), 0, 0), (41, .iconst 1, 1, (0, 0, 0, 0), 1, 0), (42, .iand, 1, (0, 0, 0, 0), 0, 0)]),
  (1000000, [(43, .ifCond .ne 7, 3, (50, 0, 0, 0), 0, 0), (46, .ldc2_w 330, 3, (0, 0, 0, 0), 0, (-1000000000000)), (49, .lreturn, 1, (0, 0, 0, 0), 0, 0), (50, .aload_n 0, 1, (0, 0, 0, 0), 0, 0), (51, .aload_n 0, 1, (0, 0, 0, 0), 0, 0), (52, .getfield 338, 3, (34, 0, 12, 0), 0, 0), (55, .aload_n 0, 1, (0, 0, 0, 0), 0, 0), (56, .getfield 68, 3, (33, 2, 12, 0), 0, 0), (59, .iload_n 3, 1, (3, 0, 0, 0), 0, 0), (60, .iaload, 1, (0, 0, 0, 0), 0, 0), (61, .isub, 1, (0, 0, 0, 0), 0, 0), (62, .i2l, 1, (0, 0, 0, 0), 0, 0), (63, .ldc2_w 347, 3, (0, 0, 0, 0), 0, 36), (66, .invokevirtual 261, 3, (198, 4, 2, 0), 0, 0), (69, .aload_n 0, 1, (0, 0, 0, 0), 0, 0), (70, .iload 4, 2, (4, 0, 0, 0), 0, 0), (72, .invokevirtual 265, 3, (199, 4, 1, 0), 0, 0), (75, .lreturn, 1, (0, 0, 0, 0), 0, 0)])]
-- ShareNetsModel.tight(II)I
set_option maxRecDepth 100000 in
noncomputable def z_k241 : List (Nat × List (Nat × z_E)) := [(39, [(0, .aload_n 0, 1, (0, 0, 0, 0), 0, 0), (1, .iload_n 1, 1, (1, 0, 0, 0), 0, 0), (2, .iload_n 2, 1, (2, 0, 0, 0), 0, 0), (3, .invokevirtual 341, 3, (238, 4, 2, 0), 0, 0), (6, .ifCond .ne 5, 3, (11, 0, 0, 0), 0, 0), (9, .iconst (-1), 1, (0, 0, 0, 0), (-1), 0), (10, .ireturn, 1, (0, 0, 0, 0), 0, 0), (11, .aload_n 0, 1, (0, 0, 0, 0), 0, 0), (12, .iload_n 1, 1, (1, 0, 0, 0), 0, 0), (13, .iload_n 2, 1, (2, 0, 0, 0), 0, 0), (14, .invokevirtual 344, 3, (237, 4, 2, 0), 0, 0), (17, .ifCond .ne 6, 3, (23, 0, 0, 0), 0, 0), (20, .bipush (-3), 2, (0, 0, 0, 0), (-3), 0), (22, .ireturn, 1, (0, 0, 0, 0), 0, 0), (23, .iconst 0, 1, (0, 0, 0, 0), 0, 0), (24, .istore_n 3, 1, (3, 0, 0, 0), 0, 0), (25, .iconst 0, 1, (0, 0, 0, 0), 0, 0), (26, .istore 4, 2, (4, 0, 0, 0), 0, 0), (28, .iload 4, 2, (4, 0, 0, 0), 0, 0), (30, .iconst 4, 1, (0, 0, 0, 0), 4, 0), (31, .if_icmp .ge 47, 3, (78, 0, 0, 0), 0, 0), (34, .iload_n 3, 1, (3, 0, 0, 0), 0, 0), (35, .aload_n 0, 1, (0, 0, 0, 0), 0, 0), (36, .getfield 334, 3, (35, 0, 12, 0), 0, 0)]),
  (1000000, [(39, .iload 4, 2, (4, 0, 0, 0), 0, 0), (41, .ishr, 1, (0, 0, 0, 0), 0, 0), (42, .iconst 1, 1, (0, 0, 0, 0), 1, 0), (43, .iand, 1, (0, 0, 0, 0), 0, 0), (44, .iconst 1, 1, (0, 0, 0, 0), 1, 0), (45, .if_icmp .ne 24, 3, (69, 0, 0, 0), 0, 0), (48, .aload_n 0, 1, (0, 0, 0, 0), 0, 0), (49, .getfield 68, 3, (33, 2, 12, 0), 0, 0), (52, .iload 4, 2, (4, 0, 0, 0), 0, 0), (54, .iaload, 1, (0, 0, 0, 0), 0, 0), (55, .aload_n 0, 1, (0, 0, 0, 0), 0, 0), (56, .getfield 338, 3, (34, 0, 12, 0), 0, 0), (59, .if_icmp .ne 10, 3, (69, 0, 0, 0), 0, 0), (62, .iconst 1, 1, (0, 0, 0, 0), 1, 0), (63, .iload 4, 2, (4, 0, 0, 0), 0, 0), (65, .ishl, 1, (0, 0, 0, 0), 0, 0), (66, .goto 4, 3, (70, 0, 0, 0), 0, 0), (69, .iconst 0, 1, (0, 0, 0, 0), 0, 0), (70, .ior, 1, (0, 0, 0, 0), 0, 0), (71, .istore_n 3, 1, (3, 0, 0, 0), 0, 0), (72, .iinc 4 1, 3, (4, 0, 0, 0), 1, 0), (75, .goto (-47), 3, (28, 0, 0, 0), 0, 0), (78, .iload_n 3, 1, (3, 0, 0, 0), 0, 0), (79, .ireturn, 1, (0, 0, 0, 0), 0, 0)])]
-- ShareNetsModel.met(II)I
set_option maxRecDepth 100000 in
noncomputable def z_k242 : List (Nat × List (Nat × z_E)) := [(43, [(0, .aload_n 0, 1, (0, 0, 0, 0), 0, 0), (1, .iload_n 1, 1, (1, 0, 0, 0), 0, 0), (2, .iload_n 2, 1, (2, 0, 0, 0), 0, 0), (3, .invokevirtual 341, 3, (238, 4, 2, 0), 0, 0), (6, .ifCond .ne 5, 3, (11, 0, 0, 0), 0, 0), (9, .iconst (-1), 1, (0, 0, 0, 0), (-1), 0), (10, .ireturn, 1, (0, 0, 0, 0), 0, 0), (11, .aload_n 0, 1, (0, 0, 0, 0), 0, 0), (12, .iload_n 1, 1, (1, 0, 0, 0), 0, 0), (13, .iload_n 2, 1, (2, 0, 0, 0), 0, 0), (14, .invokevirtual 344, 3, (237, 4, 2, 0), 0, 0), (17, .ifCond .eq 10, 3, (27, 0, 0, 0), 0, 0), (20, .aload_n 0, 1, (0, 0, 0, 0), 0, 0), (21, .getfield 288, 3, (4, 0, 12, 0), 0, 0), (24, .ifCond .ne 6, 3, (30, 0, 0, 0), 0, 0), (27, .bipush (-3), 2, (0, 0, 0, 0), (-3), 0), (29, .ireturn, 1, (0, 0, 0, 0), 0, 0), (30, .aload_n 0, 1, (0, 0, 0, 0), 0, 0), (31, .invokevirtual 307, 3, (219, 4, 0, 0), 0, 0), (34, .ifCond .eq 32, 3, (66, 0, 0, 0), 0, 0), (37, .ldc2_w 347, 3, (0, 0, 0, 0), 0, 36), (40, .aload_n 0, 1, (0, 0, 0, 0), 0, 0), (41, .iload_n 1, 1, (1, 0, 0, 0), 0, 0), (42, .iload_n 2, 1, (2, 0, 0, 0), 0, 0)]),
  (1000000, [(43, .invokevirtual 301, 3, (216, 4, 2, 0), 0, 0), (46, .lmul, 1, (0, 0, 0, 0), 0, 0), (47, .aload_n 0, 1, (0, 0, 0, 0), 0, 0), (48, .getfield 338, 3, (34, 0, 12, 0), 0, 0), (51, .i2l, 1, (0, 0, 0, 0), 0, 0), (52, .aload_n 0, 1, (0, 0, 0, 0), 0, 0), (53, .iload_n 1, 1, (1, 0, 0, 0), 0, 0), (54, .invokevirtual 304, 3, (217, 4, 1, 0), 0, 0), (57, .lmul, 1, (0, 0, 0, 0), 0, 0), (58, .lcmp, 1, (0, 0, 0, 0), 0, 0), (59, .ifCond .ne 7, 3, (66, 0, 0, 0), 0, 0), (62, .iconst 1, 1, (0, 0, 0, 0), 1, 0), (63, .goto 4, 3, (67, 0, 0, 0), 0, 0), (66, .iconst 0, 1, (0, 0, 0, 0), 0, 0), (67, .ireturn, 1, (0, 0, 0, 0), 0, 0)])]
-- ShareNetsModel.findRows(II)V
set_option maxRecDepth 100000 in
noncomputable def z_k243 : List (Nat × List (Nat × z_E)) := [(36, [(0, .aload_n 0, 1, (0, 0, 0, 0), 0, 0), (1, .iconst 0, 1, (0, 0, 0, 0), 0, 0), (2, .putfield 349, 3, (39, 0, 12, 0), 0, 0), (5, .iconst 0, 1, (0, 0, 0, 0), 0, 0), (6, .istore_n 3, 1, (3, 0, 0, 0), 0, 0), (7, .iload_n 3, 1, (3, 0, 0, 0), 0, 0), (8, .aload_n 0, 1, (0, 0, 0, 0), 0, 0), (9, .getfield 38, 3, (12, 2, 12, 0), 0, 0), (12, .iload_n 2, 1, (2, 0, 0, 0), 0, 0), (13, .iaload, 1, (0, 0, 0, 0), 0, 0), (14, .if_icmp .ge 80, 3, (94, 0, 0, 0), 0, 0), (17, .aload_n 0, 1, (0, 0, 0, 0), 0, 0), (18, .iload_n 1, 1, (1, 0, 0, 0), 0, 0), (19, .iload_n 2, 1, (2, 0, 0, 0), 0, 0), (20, .aload_n 0, 1, (0, 0, 0, 0), 0, 0), (21, .getfield 35, 3, (11, 2, 12, 0), 0, 0), (24, .bipush 11, 2, (0, 0, 0, 0), 11, 0), (26, .iload_n 2, 1, (2, 0, 0, 0), 0, 0), (27, .imul, 1, (0, 0, 0, 0), 0, 0), (28, .iload_n 3, 1, (3, 0, 0, 0), 0, 0), (29, .iadd, 1, (0, 0, 0, 0), 0, 0), (30, .iaload, 1, (0, 0, 0, 0), 0, 0), (31, .invokevirtual 249, 3, (196, 4, 3, 0), 0, 0), (34, .istore 4, 2, (4, 0, 0, 0), 0, 0)]),
  (74, [(36, .iload 4, 2, (4, 0, 0, 0), 0, 0), (38, .ifCond .le 50, 3, (88, 0, 0, 0), 0, 0), (41, .aload_n 0, 1, (0, 0, 0, 0), 0, 0), (42, .getfield 74, 3, (38, 2, 12, 0), 0, 0), (45, .iconst 2, 1, (0, 0, 0, 0), 2, 0), (46, .aload_n 0, 1, (0, 0, 0, 0), 0, 0), (47, .getfield 349, 3, (39, 0, 12, 0), 0, 0), (50, .imul, 1, (0, 0, 0, 0), 0, 0), (51, .aload_n 0, 1, (0, 0, 0, 0), 0, 0), (52, .getfield 35, 3, (11, 2, 12, 0), 0, 0), (55, .bipush 11, 2, (0, 0, 0, 0), 11, 0), (57, .iload_n 2, 1, (2, 0, 0, 0), 0, 0), (58, .imul, 1, (0, 0, 0, 0), 0, 0), (59, .iload_n 3, 1, (3, 0, 0, 0), 0, 0), (60, .iadd, 1, (0, 0, 0, 0), 0, 0), (61, .iaload, 1, (0, 0, 0, 0), 0, 0), (62, .iastore, 1, (0, 0, 0, 0), 0, 0), (63, .aload_n 0, 1, (0, 0, 0, 0), 0, 0), (64, .getfield 74, 3, (38, 2, 12, 0), 0, 0), (67, .iconst 2, 1, (0, 0, 0, 0), 2, 0), (68, .aload_n 0, 1, (0, 0, 0, 0), 0, 0), (69, .getfield 349, 3, (39, 0, 12, 0), 0, 0), (72, .imul, 1, (0, 0, 0, 0), 0, 0), (73, .iconst 1, 1, (0, 0, 0, 0), 1, 0)]),
  (1000000, [(74, .iadd, 1, (0, 0, 0, 0), 0, 0), (75, .iload 4, 2, (4, 0, 0, 0), 0, 0), (77, .iastore, 1, (0, 0, 0, 0), 0, 0), (78, .aload_n 0, 1, (0, 0, 0, 0), 0, 0), (79, .dup, 1, (0, 0, 0, 0), 0, 0), (80, .getfield 349, 3, (39, 0, 12, 0), 0, 0), (83, .iconst 1, 1, (0, 0, 0, 0), 1, 0), (84, .iadd, 1, (0, 0, 0, 0), 0, 0), (85, .putfield 349, 3, (39, 0, 12, 0), 0, 0), (88, .iinc 3 1, 3, (3, 0, 0, 0), 1, 0), (91, .goto (-84), 3, (7, 0, 0, 0), 0, 0), (94, .return_, 1, (0, 0, 0, 0), 0, 0)])]
-- ShareNetsModel.prove(II)I
set_option maxRecDepth 100000 in
noncomputable def z_k244 : List (Nat × List (Nat × z_E)) := [(40, [(0, .iload_n 1, 1, (1, 0, 0, 0), 0, 0), (1, .invokestatic 199, 3, (162, 0, 1, 0), 0, 0), (4, .ifCond .eq 12, 3, (16, 0, 0, 0), 0, 0), (7, .iload_n 2, 1, (2, 0, 0, 0), 0, 0), (8, .iconst 1, 1, (0, 0, 0, 0), 1, 0), (9, .iconst 4, 1, (0, 0, 0, 0), 4, 0), (10, .invokestatic 117, 3, (158, 0, 3, 0), 0, 0), (13, .ifCond .ne 5, 3, (18, 0, 0, 0), 0, 0), (16, .iconst (-1), 1, (0, 0, 0, 0), (-1), 0), (17, .ireturn, 1, (0, 0, 0, 0), 0, 0), (18, .aload_n 0, 1, (0, 0, 0, 0), 0, 0), (19, .iload_n 1, 1, (1, 0, 0, 0), 0, 0), (20, .iload_n 2, 1, (2, 0, 0, 0), 0, 0), (21, .invokevirtual 352, 3, (243, 4, 2, 0), 0, 0), (24, .aload_n 0, 1, (0, 0, 0, 0), 0, 0), (25, .aload_n 0, 1, (0, 0, 0, 0), 0, 0), (26, .getfield 349, 3, (39, 0, 12, 0), 0, 0), (29, .putfield 355, 3, (37, 0, 12, 0), 0, 0), (32, .iconst 0, 1, (0, 0, 0, 0), 0, 0), (33, .istore_n 3, 1, (3, 0, 0, 0), 0, 0), (34, .iload_n 3, 1, (3, 0, 0, 0), 0, 0), (35, .iconst 2, 1, (0, 0, 0, 0), 2, 0), (36, .aload_n 0, 1, (0, 0, 0, 0), 0, 0), (37, .getfield 355, 3, (37, 0, 12, 0), 0, 0)]),
  (1000000, [(40, .imul, 1, (0, 0, 0, 0), 0, 0), (41, .if_icmp .ge 21, 3, (62, 0, 0, 0), 0, 0), (44, .aload_n 0, 1, (0, 0, 0, 0), 0, 0), (45, .getfield 71, 3, (36, 2, 12, 0), 0, 0), (48, .iload_n 3, 1, (3, 0, 0, 0), 0, 0), (49, .aload_n 0, 1, (0, 0, 0, 0), 0, 0), (50, .getfield 74, 3, (38, 2, 12, 0), 0, 0), (53, .iload_n 3, 1, (3, 0, 0, 0), 0, 0), (54, .iaload, 1, (0, 0, 0, 0), 0, 0), (55, .iastore, 1, (0, 0, 0, 0), 0, 0), (56, .iinc 3 1, 3, (3, 0, 0, 0), 1, 0), (59, .goto (-25), 3, (34, 0, 0, 0), 0, 0), (62, .aload_n 0, 1, (0, 0, 0, 0), 0, 0), (63, .getfield 355, 3, (37, 0, 12, 0), 0, 0), (66, .ireturn, 1, (0, 0, 0, 0), 0, 0)])]
-- ShareNetsModel.isRow(II)Z
set_option maxRecDepth 100000 in
noncomputable def z_k245 : List (Nat × List (Nat × z_E)) := [(1000000, [(0, .iload_n 1, 1, (1, 0, 0, 0), 0, 0), (1, .iconst 0, 1, (0, 0, 0, 0), 0, 0), (2, .aload_n 0, 1, (0, 0, 0, 0), 0, 0), (3, .getfield 355, 3, (37, 0, 12, 0), 0, 0), (6, .iconst 1, 1, (0, 0, 0, 0), 1, 0), (7, .isub, 1, (0, 0, 0, 0), 0, 0), (8, .invokestatic 117, 3, (158, 0, 3, 0), 0, 0), (11, .ifCond .eq 14, 3, (25, 0, 0, 0), 0, 0), (14, .iload_n 2, 1, (2, 0, 0, 0), 0, 0), (15, .invokestatic 226, 3, (163, 0, 1, 0), 0, 0), (18, .ifCond .eq 7, 3, (25, 0, 0, 0), 0, 0), (21, .iconst 1, 1, (0, 0, 0, 0), 1, 0), (22, .goto 4, 3, (26, 0, 0, 0), 0, 0), (25, .iconst 0, 1, (0, 0, 0, 0), 0, 0), (26, .ireturn, 1, (1, 0, 0, 0), 0, 0)])]
-- ShareNetsModel.row(II)I
set_option maxRecDepth 100000 in
noncomputable def z_k246 : List (Nat × List (Nat × z_E)) := [(1000000, [(0, .aload_n 0, 1, (0, 0, 0, 0), 0, 0), (1, .iload_n 1, 1, (1, 0, 0, 0), 0, 0), (2, .iload_n 2, 1, (2, 0, 0, 0), 0, 0), (3, .invokevirtual 358, 3, (245, 4, 2, 0), 0, 0), (6, .ifCond .eq 16, 3, (22, 0, 0, 0), 0, 0), (9, .aload_n 0, 1, (0, 0, 0, 0), 0, 0), (10, .getfield 71, 3, (36, 2, 12, 0), 0, 0), (13, .iconst 2, 1, (0, 0, 0, 0), 2, 0), (14, .iload_n 1, 1, (1, 0, 0, 0), 0, 0), (15, .imul, 1, (0, 0, 0, 0), 0, 0), (16, .iload_n 2, 1, (2, 0, 0, 0), 0, 0), (17, .iadd, 1, (0, 0, 0, 0), 0, 0), (18, .iaload, 1, (0, 0, 0, 0), 0, 0), (19, .goto 5, 3, (24, 0, 0, 0), 0, 0), (22, .bipush (-9), 2, (0, 0, 0, 0), (-9), 0), (24, .ireturn, 1, (0, 0, 0, 0), 0, 0)])]
-- ShareNetsModel.alterRow(III)I
set_option maxRecDepth 100000 in
noncomputable def z_k247 : List (Nat × List (Nat × z_E)) := [(34, [(0, .aload_n 0, 1, (0, 0, 0, 0), 0, 0), (1, .iload_n 1, 1, (1, 0, 0, 0), 0, 0), (2, .iload_n 2, 1, (2, 0, 0, 0), 0, 0), (3, .invokevirtual 358, 3, (245, 4, 2, 0), 0, 0), (6, .ifCond .ne 6, 3, (12, 0, 0, 0), 0, 0), (9, .bipush (-9), 2, (0, 0, 0, 0), (-9), 0), (11, .ireturn, 1, (0, 0, 0, 0), 0, 0), (12, .aload_n 0, 1, (0, 0, 0, 0), 0, 0), (13, .getfield 71, 3, (36, 2, 12, 0), 0, 0), (16, .iconst 2, 1, (0, 0, 0, 0), 2, 0), (17, .iload_n 1, 1, (1, 0, 0, 0), 0, 0), (18, .imul, 1, (0, 0, 0, 0), 0, 0), (19, .iload_n 2, 1, (2, 0, 0, 0), 0, 0), (20, .iadd, 1, (0, 0, 0, 0), 0, 0), (21, .iaload, 1, (0, 0, 0, 0), 0, 0), (22, .istore 4, 2, (4, 0, 0, 0), 0, 0), (24, .aload_n 0, 1, (0, 0, 0, 0), 0, 0), (25, .getfield 71, 3, (36, 2, 12, 0), 0, 0), (28, .iconst 2, 1, (0, 0, 0, 0), 2, 0), (29, .iload_n 1, 1, (1, 0, 0, 0), 0, 0), (30, .imul, 1, (0, 0, 0, 0), 0, 0), (31, .iload_n 2, 1, (2, 0, 0, 0), 0, 0), (32, .iadd, 1, (0, 0, 0, 0), 0, 0), (33, .iload_n 3, 1, (3, 0, 0, 0), 0, 0)]),
  (1000000, [(34, .iastore, 1, (0, 0, 0, 0), 0, 0), (35, .iload 4, 2, (4, 0, 0, 0), 0, 0), (37, .ireturn, 1, (0, 0, 0, 0), 0, 0)])]
-- ShareNetsModel.judge(II)I
set_option maxRecDepth 100000 in
noncomputable def z_k248 : List (Nat × List (Nat × z_E)) := [(42, [(0, .iload_n 1, 1, (1, 0, 0, 0), 0, 0), (1, .invokestatic 199, 3, (162, 0, 1, 0), 0, 0), (4, .ifCond .eq 12, 3, (16, 0, 0, 0), 0, 0), (7, .iload_n 2, 1, (2, 0, 0, 0), 0, 0), (8, .iconst 1, 1, (0, 0, 0, 0), 1, 0), (9, .iconst 4, 1, (0, 0, 0, 0), 4, 0), (10, .invokestatic 117, 3, (158, 0, 3, 0), 0, 0), (13, .ifCond .ne 5, 3, (18, 0, 0, 0), 0, 0), (16, .iconst (-1), 1, (0, 0, 0, 0), (-1), 0), (17, .ireturn, 1, (0, 0, 0, 0), 0, 0), (18, .aload_n 0, 1, (0, 0, 0, 0), 0, 0), (19, .iload_n 1, 1, (1, 0, 0, 0), 0, 0), (20, .iload_n 2, 1, (2, 0, 0, 0), 0, 0), (21, .invokevirtual 352, 3, (243, 4, 2, 0), 0, 0), (24, .iconst 0, 1, (0, 0, 0, 0), 0, 0), (25, .istore_n 3, 1, (3, 0, 0, 0), 0, 0), (26, .iload_n 3, 1, (3, 0, 0, 0), 0, 0), (27, .aload_n 0, 1, (0, 0, 0, 0), 0, 0), (28, .getfield 355, 3, (37, 0, 12, 0), 0, 0), (31, .if_icmp .ge 63, 3, (94, 0, 0, 0), 0, 0), (34, .iload_n 3, 1, (3, 0, 0, 0), 0, 0), (35, .aload_n 0, 1, (0, 0, 0, 0), 0, 0), (36, .getfield 349, 3, (39, 0, 12, 0), 0, 0), (39, .if_icmp .ge 45, 3, (84, 0, 0, 0), 0, 0)]),
  (76, [(42, .aload_n 0, 1, (0, 0, 0, 0), 0, 0), (43, .getfield 71, 3, (36, 2, 12, 0), 0, 0), (46, .iconst 2, 1, (0, 0, 0, 0), 2, 0), (47, .iload_n 3, 1, (3, 0, 0, 0), 0, 0), (48, .imul, 1, (0, 0, 0, 0), 0, 0), (49, .iaload, 1, (0, 0, 0, 0), 0, 0), (50, .aload_n 0, 1, (0, 0, 0, 0), 0, 0), (51, .getfield 74, 3, (38, 2, 12, 0), 0, 0), (54, .iconst 2, 1, (0, 0, 0, 0), 2, 0), (55, .iload_n 3, 1, (3, 0, 0, 0), 0, 0), (56, .imul, 1, (0, 0, 0, 0), 0, 0), (57, .iaload, 1, (0, 0, 0, 0), 0, 0), (58, .if_icmp .ne 26, 3, (84, 0, 0, 0), 0, 0), (61, .aload_n 0, 1, (0, 0, 0, 0), 0, 0), (62, .getfield 71, 3, (36, 2, 12, 0), 0, 0), (65, .iconst 2, 1, (0, 0, 0, 0), 2, 0), (66, .iload_n 3, 1, (3, 0, 0, 0), 0, 0), (67, .imul, 1, (0, 0, 0, 0), 0, 0), (68, .iconst 1, 1, (0, 0, 0, 0), 1, 0), (69, .iadd, 1, (0, 0, 0, 0), 0, 0), (70, .iaload, 1, (0, 0, 0, 0), 0, 0), (71, .aload_n 0, 1, (0, 0, 0, 0), 0, 0), (72, .getfield 74, 3, (38, 2, 12, 0), 0, 0), (75, .iconst 2, 1, (0, 0, 0, 0), 2, 0)]),
  (1000000, [(76, .iload_n 3, 1, (3, 0, 0, 0), 0, 0), (77, .imul, 1, (0, 0, 0, 0), 0, 0), (78, .iconst 1, 1, (0, 0, 0, 0), 1, 0), (79, .iadd, 1, (0, 0, 0, 0), 0, 0), (80, .iaload, 1, (0, 0, 0, 0), 0, 0), (81, .if_icmp .eq 7, 3, (88, 0, 0, 0), 0, 0), (84, .iload_n 3, 1, (3, 0, 0, 0), 0, 0), (85, .iconst 1, 1, (0, 0, 0, 0), 1, 0), (86, .iadd, 1, (0, 0, 0, 0), 0, 0), (87, .ireturn, 1, (0, 0, 0, 0), 0, 0), (88, .iinc 3 1, 3, (3, 0, 0, 0), 1, 0), (91, .goto (-65), 3, (26, 0, 0, 0), 0, 0), (94, .aload_n 0, 1, (0, 0, 0, 0), 0, 0), (95, .getfield 355, 3, (37, 0, 12, 0), 0, 0), (98, .aload_n 0, 1, (0, 0, 0, 0), 0, 0), (99, .getfield 349, 3, (39, 0, 12, 0), 0, 0), (102, .if_icmp .ge 9, 3, (111, 0, 0, 0), 0, 0), (105, .sipush 222, 3, (0, 0, 0, 0), 222, 0), (108, .goto 4, 3, (112, 0, 0, 0), 0, 0), (111, .iconst 0, 1, (0, 0, 0, 0), 0, 0), (112, .ireturn, 1, (0, 0, 0, 0), 0, 0)])]
-- ShareNetsModel.isShelf(I)Z
set_option maxRecDepth 100000 in
noncomputable def z_k249 : List (Nat × List (Nat × z_E)) := [(1000000, [(0, .iload_n 0, 1, (0, 0, 0, 0), 0, 0), (1, .iconst 0, 1, (0, 0, 0, 0), 0, 0), (2, .iconst 3, 1, (0, 0, 0, 0), 3, 0), (3, .invokestatic 117, 3, (158, 0, 3, 0), 0, 0), (6, .ireturn, 1, (1, 0, 0, 0), 0, 0)])]
-- ShareNetsModel.sheet(III)I
set_option maxRecDepth 100000 in
noncomputable def z_k250 : List (Nat × List (Nat × z_E)) := [(44, [(0, .iload_n 1, 1, (1, 0, 0, 0), 0, 0), (1, .invokestatic 229, 3, (249, 0, 1, 0), 0, 0), (4, .ifCond .eq 22, 3, (26, 0, 0, 0), 0, 0), (7, .iload_n 2, 1, (2, 0, 0, 0), 0, 0), (8, .iconst (-1), 1, (0, 0, 0, 0), (-1), 0), (9, .iconst 3, 1, (0, 0, 0, 0), 3, 0), (10, .invokestatic 117, 3, (158, 0, 3, 0), 0, 0), (13, .ifCond .eq 13, 3, (26, 0, 0, 0), 0, 0), (16, .iload_n 2, 1, (2, 0, 0, 0), 0, 0), (17, .ifCond .lt 11, 3, (28, 0, 0, 0), 0, 0), (20, .iload_n 3, 1, (3, 0, 0, 0), 0, 0), (21, .bipush 40, 2, (0, 0, 0, 0), 40, 0), (23, .if_icmp .le 5, 3, (28, 0, 0, 0), 0, 0), (26, .iconst (-1), 1, (0, 0, 0, 0), (-1), 0), (27, .ireturn, 1, (0, 0, 0, 0), 0, 0), (28, .iload_n 2, 1, (2, 0, 0, 0), 0, 0), (29, .ifCond .lt 10, 3, (39, 0, 0, 0), 0, 0), (32, .iload_n 3, 1, (3, 0, 0, 0), 0, 0), (33, .ifCond .ge 6, 3, (39, 0, 0, 0), 0, 0), (36, .bipush (-14), 2, (0, 0, 0, 0), (-14), 0), (38, .ireturn, 1, (0, 0, 0, 0), 0, 0), (39, .aload_n 0, 1, (0, 0, 0, 0), 0, 0), (40, .getfield 77, 3, (40, 2, 12, 0), 0, 0), (43, .iload_n 1, 1, (1, 0, 0, 0), 0, 0)]),
  (83, [(44, .iload_n 2, 1, (2, 0, 0, 0), 0, 0), (45, .iastore, 1, (0, 0, 0, 0), 0, 0), (46, .aload_n 0, 1, (0, 0, 0, 0), 0, 0), (47, .getfield 80, 3, (41, 2, 12, 0), 0, 0), (50, .iload_n 1, 1, (1, 0, 0, 0), 0, 0), (51, .iload_n 2, 1, (2, 0, 0, 0), 0, 0), (52, .ifCond .ge 7, 3, (59, 0, 0, 0), 0, 0), (55, .iconst 0, 1, (0, 0, 0, 0), 0, 0), (56, .goto 4, 3, (60, 0, 0, 0), 0, 0), (59, .iload_n 3, 1, (3, 0, 0, 0), 0, 0), (60, .iastore, 1, (0, 0, 0, 0), 0, 0), (61, .iconst 0, 1, (0, 0, 0, 0), 0, 0), (62, .istore 4, 2, (4, 0, 0, 0), 0, 0), (64, .iload 4, 2, (4, 0, 0, 0), 0, 0), (66, .bipush 40, 2, (0, 0, 0, 0), 40, 0), (68, .if_icmp .ge 22, 3, (90, 0, 0, 0), 0, 0), (71, .aload_n 0, 1, (0, 0, 0, 0), 0, 0), (72, .getfield 83, 3, (42, 2, 12, 0), 0, 0), (75, .bipush 40, 2, (0, 0, 0, 0), 40, 0), (77, .iload_n 1, 1, (1, 0, 0, 0), 0, 0), (78, .imul, 1, (0, 0, 0, 0), 0, 0), (79, .iload 4, 2, (4, 0, 0, 0), 0, 0), (81, .iadd, 1, (0, 0, 0, 0), 0, 0), (82, .lconst 0, 1, (0, 0, 0, 0), 0, 0)]),
  (1000000, [(83, .lastore, 1, (0, 0, 0, 0), 0, 0), (84, .iinc 4 1, 3, (4, 0, 0, 0), 1, 0), (87, .goto (-23), 3, (64, 0, 0, 0), 0, 0), (90, .iconst 1, 1, (0, 0, 0, 0), 1, 0), (91, .ireturn, 1, (0, 0, 0, 0), 0, 0)])]
-- ShareNetsModel.put(III)I
set_option maxRecDepth 100000 in
noncomputable def z_k251 : List (Nat × List (Nat × z_E)) := [(40, [(0, .iload_n 1, 1, (1, 0, 0, 0), 0, 0), (1, .invokestatic 229, 3, (249, 0, 1, 0), 0, 0), (4, .ifCond .ne 5, 3, (9, 0, 0, 0), 0, 0), (7, .iconst (-1), 1, (0, 0, 0, 0), (-1), 0), (8, .ireturn, 1, (0, 0, 0, 0), 0, 0), (9, .aload_n 0, 1, (0, 0, 0, 0), 0, 0), (10, .getfield 77, 3, (40, 2, 12, 0), 0, 0), (13, .iload_n 1, 1, (1, 0, 0, 0), 0, 0), (14, .iaload, 1, (0, 0, 0, 0), 0, 0), (15, .ifCond .ge 6, 3, (21, 0, 0, 0), 0, 0), (18, .bipush (-11), 2, (0, 0, 0, 0), (-11), 0), (20, .ireturn, 1, (0, 0, 0, 0), 0, 0), (21, .iload_n 2, 1, (2, 0, 0, 0), 0, 0), (22, .iconst 0, 1, (0, 0, 0, 0), 0, 0), (23, .aload_n 0, 1, (0, 0, 0, 0), 0, 0), (24, .getfield 80, 3, (41, 2, 12, 0), 0, 0), (27, .iload_n 1, 1, (1, 0, 0, 0), 0, 0), (28, .iaload, 1, (0, 0, 0, 0), 0, 0), (29, .iconst 1, 1, (0, 0, 0, 0), 1, 0), (30, .isub, 1, (0, 0, 0, 0), 0, 0), (31, .invokestatic 117, 3, (158, 0, 3, 0), 0, 0), (34, .ifCond .ne 6, 3, (40, 0, 0, 0), 0, 0), (37, .bipush (-12), 2, (0, 0, 0, 0), (-12), 0), (39, .ireturn, 1, (0, 0, 0, 0), 0, 0)]),
  (77, [(40, .aload_n 0, 1, (0, 0, 0, 0), 0, 0), (41, .getfield 83, 3, (42, 2, 12, 0), 0, 0), (44, .bipush 40, 2, (0, 0, 0, 0), 40, 0), (46, .iload_n 1, 1, (1, 0, 0, 0), 0, 0), (47, .imul, 1, (0, 0, 0, 0), 0, 0), (48, .iload_n 2, 1, (2, 0, 0, 0), 0, 0), (49, .iadd, 1, (0, 0, 0, 0), 0, 0), (50, .aload_n 0, 1, (0, 0, 0, 0), 0, 0), (51, .getfield 77, 3, (40, 2, 12, 0), 0, 0), (54, .iload_n 1, 1, (1, 0, 0, 0), 0, 0), (55, .iaload, 1, (0, 0, 0, 0), 0, 0), (56, .ifCond .ne 9, 3, (65, 0, 0, 0), 0, 0), (59, .iload_n 3, 1, (3, 0, 0, 0), 0, 0), (60, .i2b, 1, (0, 0, 0, 0), 0, 0), (61, .i2l, 1, (0, 0, 0, 0), 0, 0), (62, .goto 21, 3, (83, 0, 0, 0), 0, 0), (65, .aload_n 0, 1, (0, 0, 0, 0), 0, 0), (66, .getfield 77, 3, (40, 2, 12, 0), 0, 0), (69, .iload_n 1, 1, (1, 0, 0, 0), 0, 0), (70, .iaload, 1, (0, 0, 0, 0), 0, 0), (71, .iconst 1, 1, (0, 0, 0, 0), 1, 0), (72, .if_icmp .ne 9, 3, (81, 0, 0, 0), 0, 0), (75, .iload_n 3, 1, (3, 0, 0, 0), 0, 0), (76, .i2s, 1, (0, 0, 0, 0), 0, 0)]),
  (1000000, [(77, .i2l, 1, (0, 0, 0, 0), 0, 0), (78, .goto 5, 3, (83, 0, 0, 0), 0, 0), (81, .iload_n 3, 1, (3, 0, 0, 0), 0, 0), (82, .i2l, 1, (0, 0, 0, 0), 0, 0), (83, .lastore, 1, (0, 0, 0, 0), 0, 0), (84, .iconst 1, 1, (0, 0, 0, 0), 1, 0), (85, .ireturn, 1, (0, 0, 0, 0), 0, 0)])]
-- ShareNetsModel.lacksSort(II)I
set_option maxRecDepth 100000 in
noncomputable def z_k252 : List (Nat × List (Nat × z_E)) := [(1000000, [(0, .aload_n 0, 1, (0, 0, 0, 0), 0, 0), (1, .getfield 77, 3, (40, 2, 12, 0), 0, 0), (4, .iload_n 1, 1, (1, 0, 0, 0), 0, 0), (5, .iaload, 1, (0, 0, 0, 0), 0, 0), (6, .ifCond .ge 8, 3, (14, 0, 0, 0), 0, 0), (9, .bipush (-11), 2, (0, 0, 0, 0), (-11), 0), (11, .goto 19, 3, (30, 0, 0, 0), 0, 0), (14, .aload_n 0, 1, (0, 0, 0, 0), 0, 0), (15, .getfield 77, 3, (40, 2, 12, 0), 0, 0), (18, .iload_n 1, 1, (1, 0, 0, 0), 0, 0), (19, .iaload, 1, (0, 0, 0, 0), 0, 0), (20, .iload_n 2, 1, (2, 0, 0, 0), 0, 0), (21, .if_icmp .eq 8, 3, (29, 0, 0, 0), 0, 0), (24, .bipush (-13), 2, (0, 0, 0, 0), (-13), 0), (26, .goto 4, 3, (30, 0, 0, 0), 0, 0), (29, .iconst 0, 1, (0, 0, 0, 0), 0, 0), (30, .ireturn, 1, (0, 0, 0, 0), 0, 0)])]
-- ShareNetsModel.item(III)I
set_option maxRecDepth 100000 in
noncomputable def z_k253 : List (Nat × List (Nat × z_E)) := [(41, [(0, .iload_n 1, 1, (1, 0, 0, 0), 0, 0), (1, .invokestatic 229, 3, (249, 0, 1, 0), 0, 0), (4, .ifCond .eq 12, 3, (16, 0, 0, 0), 0, 0), (7, .iload_n 2, 1, (2, 0, 0, 0), 0, 0), (8, .iconst 0, 1, (0, 0, 0, 0), 0, 0), (9, .iconst 3, 1, (0, 0, 0, 0), 3, 0), (10, .invokestatic 117, 3, (158, 0, 3, 0), 0, 0), (13, .ifCond .ne 5, 3, (18, 0, 0, 0), 0, 0), (16, .iconst (-1), 1, (0, 0, 0, 0), (-1), 0), (17, .ireturn, 1, (0, 0, 0, 0), 0, 0), (18, .aload_n 0, 1, (0, 0, 0, 0), 0, 0), (19, .iload_n 1, 1, (1, 0, 0, 0), 0, 0), (20, .iload_n 2, 1, (2, 0, 0, 0), 0, 0), (21, .invokevirtual 232, 3, (252, 4, 2, 0), 0, 0), (24, .istore 4, 2, (4, 0, 0, 0), 0, 0), (26, .iload 4, 2, (4, 0, 0, 0), 0, 0), (28, .ifCond .eq 6, 3, (34, 0, 0, 0), 0, 0), (31, .iload 4, 2, (4, 0, 0, 0), 0, 0), (33, .ireturn, 1, (0, 0, 0, 0), 0, 0), (34, .iload_n 3, 1, (3, 0, 0, 0), 0, 0), (35, .iconst 0, 1, (0, 0, 0, 0), 0, 0), (36, .aload_n 0, 1, (0, 0, 0, 0), 0, 0), (37, .getfield 80, 3, (41, 2, 12, 0), 0, 0), (40, .iload_n 1, 1, (1, 0, 0, 0), 0, 0)]),
  (1000000, [(41, .iaload, 1, (0, 0, 0, 0), 0, 0), (42, .iconst 1, 1, (0, 0, 0, 0), 1, 0), (43, .isub, 1, (0, 0, 0, 0), 0, 0), (44, .invokestatic 117, 3, (158, 0, 3, 0), 0, 0), (47, .ifCond .eq 18, 3, (65, 0, 0, 0), 0, 0), (50, .aload_n 0, 1, (0, 0, 0, 0), 0, 0), (51, .getfield 83, 3, (42, 2, 12, 0), 0, 0), (54, .bipush 40, 2, (0, 0, 0, 0), 40, 0), (56, .iload_n 1, 1, (1, 0, 0, 0), 0, 0), (57, .imul, 1, (0, 0, 0, 0), 0, 0), (58, .iload_n 3, 1, (3, 0, 0, 0), 0, 0), (59, .iadd, 1, (0, 0, 0, 0), 0, 0), (60, .laload, 1, (0, 0, 0, 0), 0, 0), (61, .l2i, 1, (0, 0, 0, 0), 0, 0), (62, .goto 5, 3, (67, 0, 0, 0), 0, 0), (65, .bipush (-12), 2, (0, 0, 0, 0), (-12), 0), (67, .ireturn, 1, (0, 0, 0, 0), 0, 0)])]
-- ShareNetsModel.isHeld(II)Z
set_option maxRecDepth 100000 in
noncomputable def z_k254 : List (Nat × List (Nat × z_E)) := [(1000000, [(0, .iload_n 1, 1, (1, 0, 0, 0), 0, 0), (1, .ifCond .ne 11, 3, (12, 0, 0, 0), 0, 0), (4, .aload_n 0, 1, (0, 0, 0, 0), 0, 0), (5, .iload_n 2, 1, (2, 0, 0, 0), 0, 0), (6, .invokevirtual 321, 3, (228, 4, 1, 0), 0, 0), (9, .goto 25, 3, (34, 0, 0, 0), 0, 0), (12, .iload_n 1, 1, (1, 0, 0, 0), 0, 0), (13, .iconst 1, 1, (0, 0, 0, 0), 1, 0), (14, .if_icmp .ne 10, 3, (24, 0, 0, 0), 0, 0), (17, .iload_n 2, 1, (2, 0, 0, 0), 0, 0), (18, .invokestatic 229, 3, (249, 0, 1, 0), 0, 0), (21, .goto 13, 3, (34, 0, 0, 0), 0, 0), (24, .iload_n 1, 1, (1, 0, 0, 0), 0, 0), (25, .iconst 2, 1, (0, 0, 0, 0), 2, 0), (26, .if_icmp .ne 7, 3, (33, 0, 0, 0), 0, 0), (29, .iconst 1, 1, (0, 0, 0, 0), 1, 0), (30, .goto 4, 3, (34, 0, 0, 0), 0, 0), (33, .iconst 0, 1, (0, 0, 0, 0), 0, 0), (34, .ireturn, 1, (1, 0, 0, 0), 0, 0)])]
-- ShareNetsModel.shelf(III)I
set_option maxRecDepth 100000 in
noncomputable def z_k255 : List (Nat × List (Nat × z_E)) := [(42, [(0, .iload_n 1, 1, (1, 0, 0, 0), 0, 0), (1, .invokestatic 229, 3, (249, 0, 1, 0), 0, 0), (4, .ifCond .eq 12, 3, (16, 0, 0, 0), 0, 0), (7, .aload_n 0, 1, (0, 0, 0, 0), 0, 0), (8, .iload_n 2, 1, (2, 0, 0, 0), 0, 0), (9, .iload_n 3, 1, (3, 0, 0, 0), 0, 0), (10, .invokevirtual 361, 3, (254, 4, 2, 0), 0, 0), (13, .ifCond .ne 5, 3, (18, 0, 0, 0), 0, 0), (16, .iconst (-1), 1, (0, 0, 0, 0), (-1), 0), (17, .ireturn, 1, (0, 0, 0, 0), 0, 0), (18, .aload_n 0, 1, (0, 0, 0, 0), 0, 0), (19, .getfield 87, 3, (43, 2, 12, 0), 0, 0), (22, .iload_n 1, 1, (1, 0, 0, 0), 0, 0), (23, .iload_n 2, 1, (2, 0, 0, 0), 0, 0), (24, .iconst 2, 1, (0, 0, 0, 0), 2, 0), (25, .if_icmp .eq 17, 3, (42, 0, 0, 0), 0, 0), (28, .iload_n 2, 1, (2, 0, 0, 0), 0, 0), (29, .iconst 1, 1, (0, 0, 0, 0), 1, 0), (30, .if_icmp .ne 16, 3, (46, 0, 0, 0), 0, 0), (33, .aload_n 0, 1, (0, 0, 0, 0), 0, 0), (34, .getfield 77, 3, (40, 2, 12, 0), 0, 0), (37, .iload_n 3, 1, (3, 0, 0, 0), 0, 0), (38, .iaload, 1, (0, 0, 0, 0), 0, 0), (39, .ifCond .ge 7, 3, (46, 0, 0, 0), 0, 0)]),
  (80, [(42, .iconst (-1), 1, (0, 0, 0, 0), (-1), 0), (43, .goto 4, 3, (47, 0, 0, 0), 0, 0), (46, .iload_n 2, 1, (2, 0, 0, 0), 0, 0), (47, .iastore, 1, (0, 0, 0, 0), 0, 0), (48, .aload_n 0, 1, (0, 0, 0, 0), 0, 0), (49, .getfield 90, 3, (44, 2, 12, 0), 0, 0), (52, .iload_n 1, 1, (1, 0, 0, 0), 0, 0), (53, .iload_n 2, 1, (2, 0, 0, 0), 0, 0), (54, .iconst 1, 1, (0, 0, 0, 0), 1, 0), (55, .if_icmp .ne 12, 3, (67, 0, 0, 0), 0, 0), (58, .aload_n 0, 1, (0, 0, 0, 0), 0, 0), (59, .getfield 77, 3, (40, 2, 12, 0), 0, 0), (62, .iload_n 3, 1, (3, 0, 0, 0), 0, 0), (63, .iaload, 1, (0, 0, 0, 0), 0, 0), (64, .goto 4, 3, (68, 0, 0, 0), 0, 0), (67, .iload_n 3, 1, (3, 0, 0, 0), 0, 0), (68, .iastore, 1, (0, 0, 0, 0), 0, 0), (69, .aload_n 0, 1, (0, 0, 0, 0), 0, 0), (70, .getfield 93, 3, (45, 2, 12, 0), 0, 0), (73, .iload_n 1, 1, (1, 0, 0, 0), 0, 0), (74, .iload_n 2, 1, (2, 0, 0, 0), 0, 0), (75, .iconst 1, 1, (0, 0, 0, 0), 1, 0), (76, .if_icmp .ne 12, 3, (88, 0, 0, 0), 0, 0), (79, .aload_n 0, 1, (0, 0, 0, 0), 0, 0)]),
  (1000000, [(80, .getfield 80, 3, (41, 2, 12, 0), 0, 0), (83, .iload_n 3, 1, (3, 0, 0, 0), 0, 0), (84, .iaload, 1, (0, 0, 0, 0), 0, 0), (85, .goto 4, 3, (89, 0, 0, 0), 0, 0), (88, .iconst 0, 1, (0, 0, 0, 0), 0, 0), (89, .iastore, 1, (0, 0, 0, 0), 0, 0), (90, .iconst 1, 1, (0, 0, 0, 0), 1, 0), (91, .ireturn, 1, (0, 0, 0, 0), 0, 0)])]
-- ShareNetsModel.kindOn(I)I
set_option maxRecDepth 100000 in
noncomputable def z_k256 : List (Nat × List (Nat × z_E)) := [(43, [(0, .aload_n 0, 1, (0, 0, 0, 0), 0, 0), (1, .getfield 87, 3, (43, 2, 12, 0), 0, 0), (4, .iload_n 1, 1, (1, 0, 0, 0), 0, 0), (5, .iaload, 1, (0, 0, 0, 0), 0, 0), (6, .ifCond .eq 19, 3, (25, 0, 0, 0), 0, 0), (9, .aload_n 0, 1, (0, 0, 0, 0), 0, 0), (10, .getfield 87, 3, (43, 2, 12, 0), 0, 0), (13, .iload_n 1, 1, (1, 0, 0, 0), 0, 0), (14, .iaload, 1, (0, 0, 0, 0), 0, 0), (15, .ifCond .ge 7, 3, (22, 0, 0, 0), 0, 0), (18, .iconst (-1), 1, (0, 0, 0, 0), (-1), 0), (19, .goto 5, 3, (24, 0, 0, 0), 0, 0), (22, .bipush 9, 2, (0, 0, 0, 0), 9, 0), (24, .ireturn, 1, (0, 0, 0, 0), 0, 0), (25, .aload_n 0, 1, (0, 0, 0, 0), 0, 0), (26, .aload_n 0, 1, (0, 0, 0, 0), 0, 0), (27, .getfield 90, 3, (44, 2, 12, 0), 0, 0), (30, .iload_n 1, 1, (1, 0, 0, 0), 0, 0), (31, .iaload, 1, (0, 0, 0, 0), 0, 0), (32, .invokevirtual 321, 3, (228, 4, 1, 0), 0, 0), (35, .ifCond .eq 17, 3, (52, 0, 0, 0), 0, 0), (38, .aload_n 0, 1, (0, 0, 0, 0), 0, 0), (39, .aload_n 0, 1, (0, 0, 0, 0), 0, 0), (40, .getfield 90, 3, (44, 2, 12, 0), 0, 0)]),
  (1000000, [(43, .iload_n 1, 1, (1, 0, 0, 0), 0, 0), (44, .iaload, 1, (0, 0, 0, 0), 0, 0), (45, .iconst 0, 1, (0, 0, 0, 0), 0, 0), (46, .invokevirtual 324, 3, (229, 4, 2, 0), 0, 0), (49, .goto 4, 3, (53, 0, 0, 0), 0, 0), (52, .iconst (-1), 1, (0, 0, 0, 0), (-1), 0), (53, .ireturn, 1, (0, 0, 0, 0), 0, 0)])]
-- ShareNetsModel.isUnder(II)Z
set_option maxRecDepth 100000 in
noncomputable def z_k257 : List (Nat × List (Nat × z_E)) := [(1000000, [(0, .iload_n 1, 1, (1, 0, 0, 0), 0, 0), (1, .ifCond .eq 17, 3, (18, 0, 0, 0), 0, 0), (4, .iload_n 1, 1, (1, 0, 0, 0), 0, 0), (5, .iload_n 0, 1, (0, 0, 0, 0), 0, 0), (6, .if_icmp .eq 12, 3, (18, 0, 0, 0), 0, 0), (9, .iload_n 1, 1, (1, 0, 0, 0), 0, 0), (10, .iconst 1, 1, (0, 0, 0, 0), 1, 0), (11, .if_icmp .ne 11, 3, (22, 0, 0, 0), 0, 0), (14, .iload_n 0, 1, (0, 0, 0, 0), 0, 0), (15, .ifCond .eq 7, 3, (22, 0, 0, 0), 0, 0), (18, .iconst 1, 1, (0, 0, 0, 0), 1, 0), (19, .goto 4, 3, (23, 0, 0, 0), 0, 0), (22, .iconst 0, 1, (0, 0, 0, 0), 0, 0), (23, .ireturn, 1, (1, 0, 0, 0), 0, 0)])]
-- ShareNetsModel.taken(II)I
set_option maxRecDepth 100000 in
noncomputable def z_k258 : List (Nat × List (Nat × z_E)) := [(43, [(0, .iload_n 1, 1, (1, 0, 0, 0), 0, 0), (1, .invokestatic 229, 3, (249, 0, 1, 0), 0, 0), (4, .ifCond .eq 23, 3, (27, 0, 0, 0), 0, 0), (7, .iload_n 2, 1, (2, 0, 0, 0), 0, 0), (8, .iconst 0, 1, (0, 0, 0, 0), 0, 0), (9, .iconst 3, 1, (0, 0, 0, 0), 3, 0), (10, .invokestatic 117, 3, (158, 0, 3, 0), 0, 0), (13, .ifCond .ne 16, 3, (29, 0, 0, 0), 0, 0), (16, .iload_n 2, 1, (2, 0, 0, 0), 0, 0), (17, .bipush 10, 2, (0, 0, 0, 0), 10, 0), (19, .bipush 13, 2, (0, 0, 0, 0), 13, 0), (21, .invokestatic 117, 3, (158, 0, 3, 0), 0, 0), (24, .ifCond .ne 5, 3, (29, 0, 0, 0), 0, 0), (27, .iconst (-1), 1, (0, 0, 0, 0), (-1), 0), (28, .ireturn, 1, (0, 0, 0, 0), 0, 0), (29, .aload_n 0, 1, (0, 0, 0, 0), 0, 0), (30, .iload_n 1, 1, (1, 0, 0, 0), 0, 0), (31, .invokevirtual 364, 3, (256, 4, 1, 0), 0, 0), (34, .istore_n 3, 1, (3, 0, 0, 0), 0, 0), (35, .iload_n 3, 1, (3, 0, 0, 0), 0, 0), (36, .ifCond .ge 6, 3, (42, 0, 0, 0), 0, 0), (39, .bipush (-11), 2, (0, 0, 0, 0), (-11), 0), (41, .ireturn, 1, (0, 0, 0, 0), 0, 0), (42, .iload_n 3, 1, (3, 0, 0, 0), 0, 0)]),
  (87, [(43, .bipush 9, 2, (0, 0, 0, 0), 9, 0), (45, .if_icmp .ne 28, 3, (73, 0, 0, 0), 0, 0), (48, .iload_n 2, 1, (2, 0, 0, 0), 0, 0), (49, .bipush 10, 2, (0, 0, 0, 0), 10, 0), (51, .aload_n 0, 1, (0, 0, 0, 0), 0, 0), (52, .getfield 90, 3, (44, 2, 12, 0), 0, 0), (55, .iload_n 1, 1, (1, 0, 0, 0), 0, 0), (56, .iaload, 1, (0, 0, 0, 0), 0, 0), (57, .iadd, 1, (0, 0, 0, 0), 0, 0), (58, .if_icmp .ne 12, 3, (70, 0, 0, 0), 0, 0), (61, .aload_n 0, 1, (0, 0, 0, 0), 0, 0), (62, .getfield 93, 3, (45, 2, 12, 0), 0, 0), (65, .iload_n 1, 1, (1, 0, 0, 0), 0, 0), (66, .iaload, 1, (0, 0, 0, 0), 0, 0), (67, .goto 5, 3, (72, 0, 0, 0), 0, 0), (70, .bipush (-13), 2, (0, 0, 0, 0), (-13), 0), (72, .ireturn, 1, (0, 0, 0, 0), 0, 0), (73, .iload_n 2, 1, (2, 0, 0, 0), 0, 0), (74, .bipush 10, 2, (0, 0, 0, 0), 10, 0), (76, .if_icmp .ge 20, 3, (96, 0, 0, 0), 0, 0), (79, .iload_n 3, 1, (3, 0, 0, 0), 0, 0), (80, .iload_n 2, 1, (2, 0, 0, 0), 0, 0), (81, .invokestatic 367, 3, (257, 0, 2, 0), 0, 0), (84, .ifCond .eq 12, 3, (96, 0, 0, 0), 0, 0)]),
  (1000000, [(87, .aload_n 0, 1, (0, 0, 0, 0), 0, 0), (88, .getfield 90, 3, (44, 2, 12, 0), 0, 0), (91, .iload_n 1, 1, (1, 0, 0, 0), 0, 0), (92, .iaload, 1, (0, 0, 0, 0), 0, 0), (93, .goto 5, 3, (98, 0, 0, 0), 0, 0), (96, .bipush (-13), 2, (0, 0, 0, 0), (-13), 0), (98, .ireturn, 1, (0, 0, 0, 0), 0, 0)])]
-- ShareNetsModel.ran(I)V
set_option maxRecDepth 100000 in
noncomputable def z_k259 : List (Nat × List (Nat × z_E)) := [(1000000, [(0, .aload_n 0, 1, (0, 0, 0, 0), 0, 0), (1, .getfield 370, 3, (50, 0, 12, 0), 0, 0), (4, .bipush 30, 2, (0, 0, 0, 0), 30, 0), (6, .if_icmp .ge 23, 3, (29, 0, 0, 0), 0, 0), (9, .aload_n 0, 1, (0, 0, 0, 0), 0, 0), (10, .getfield 96, 3, (49, 2, 12, 0), 0, 0), (13, .aload_n 0, 1, (0, 0, 0, 0), 0, 0), (14, .getfield 370, 3, (50, 0, 12, 0), 0, 0), (17, .iload_n 1, 1, (1, 0, 0, 0), 0, 0), (18, .iastore, 1, (0, 0, 0, 0), 0, 0), (19, .aload_n 0, 1, (0, 0, 0, 0), 0, 0), (20, .dup, 1, (0, 0, 0, 0), 0, 0), (21, .getfield 370, 3, (50, 0, 12, 0), 0, 0), (24, .iconst 1, 1, (0, 0, 0, 0), 1, 0), (25, .iadd, 1, (0, 0, 0, 0), 0, 0), (26, .putfield 370, 3, (50, 0, 12, 0), 0, 0), (29, .return_, 1, (0, 0, 0, 0), 0, 0)])]
-- ShareNetsModel.countsIt(I)I
set_option maxRecDepth 100000 in
noncomputable def z_k260 : List (Nat × List (Nat × z_E)) := [(45, [(0, .aload_n 0, 1, (0, 0, 0, 0), 0, 0), (1, .getfield 373, 3, (46, 0, 12, 0), 0, 0), (4, .iconst 2, 1, (0, 0, 0, 0), 2, 0), (5, .if_icmp .ne 8, 3, (13, 0, 0, 0), 0, 0), (8, .bipush 30, 2, (0, 0, 0, 0), 30, 0), (10, .goto 17, 3, (27, 0, 0, 0), 0, 0), (13, .aload_n 0, 1, (0, 0, 0, 0), 0, 0), (14, .getfield 373, 3, (46, 0, 12, 0), 0, 0), (17, .iconst 3, 1, (0, 0, 0, 0), 3, 0), (18, .if_icmp .ne 8, 3, (26, 0, 0, 0), 0, 0), (21, .bipush 40, 2, (0, 0, 0, 0), 40, 0), (23, .goto 4, 3, (27, 0, 0, 0), 0, 0), (26, .iconst 0, 1, (0, 0, 0, 0), 0, 0), (27, .istore_n 2, 1, (2, 0, 0, 0), 0, 0), (28, .iload_n 2, 1, (2, 0, 0, 0), 0, 0), (29, .ifCond .le 8, 3, (37, 0, 0, 0), 0, 0), (32, .aload_n 0, 1, (0, 0, 0, 0), 0, 0), (33, .iload_n 2, 1, (2, 0, 0, 0), 0, 0), (34, .invokevirtual 376, 3, (259, 4, 1, 0), 0, 0), (37, .aload_n 0, 1, (0, 0, 0, 0), 0, 0), (38, .bipush 10, 2, (0, 0, 0, 0), 10, 0), (40, .invokevirtual 376, 3, (259, 4, 1, 0), 0, 0), (43, .iload_n 1, 1, (1, 0, 0, 0), 0, 0), (44, .aload_n 0, 1, (0, 0, 0, 0), 0, 0)]),
  (1000000, [(45, .getfield 379, 3, (47, 0, 12, 0), 0, 0), (48, .iadd, 1, (0, 0, 0, 0), 0, 0), (49, .istore_n 3, 1, (3, 0, 0, 0), 0, 0), (50, .iload_n 2, 1, (2, 0, 0, 0), 0, 0), (51, .bipush 30, 2, (0, 0, 0, 0), 30, 0), (53, .if_icmp .ne 9, 3, (62, 0, 0, 0), 0, 0), (56, .iload_n 3, 1, (3, 0, 0, 0), 0, 0), (57, .iconst 3, 1, (0, 0, 0, 0), 3, 0), (58, .imul, 1, (0, 0, 0, 0), 0, 0), (59, .goto 16, 3, (75, 0, 0, 0), 0, 0), (62, .iload_n 2, 1, (2, 0, 0, 0), 0, 0), (63, .bipush 40, 2, (0, 0, 0, 0), 40, 0), (65, .if_icmp .ne 9, 3, (74, 0, 0, 0), 0, 0), (68, .iconst 0, 1, (0, 0, 0, 0), 0, 0), (69, .iload_n 3, 1, (3, 0, 0, 0), 0, 0), (70, .isub, 1, (0, 0, 0, 0), 0, 0), (71, .goto 4, 3, (75, 0, 0, 0), 0, 0), (74, .iload_n 3, 1, (3, 0, 0, 0), 0, 0), (75, .ireturn, 1, (0, 0, 0, 0), 0, 0)])]
-- ShareNetsModel.plainJoins(I)I
set_option maxRecDepth 100000 in
noncomputable def z_k261 : List (Nat × List (Nat × z_E)) := [(1000000, [(0, .aload_n 0, 1, (0, 0, 0, 0), 0, 0), (1, .bipush 11, 2, (0, 0, 0, 0), 11, 0), (3, .invokevirtual 376, 3, (259, 4, 1, 0), 0, 0), (6, .aload_n 0, 1, (0, 0, 0, 0), 0, 0), (7, .iload_n 1, 1, (1, 0, 0, 0), 0, 0), (8, .invokevirtual 382, 3, (260, 4, 1, 0), 0, 0), (11, .iconst 2, 1, (0, 0, 0, 0), 2, 0), (12, .imul, 1, (0, 0, 0, 0), 0, 0), (13, .ireturn, 1, (0, 0, 0, 0), 0, 0)])]
-- ShareNetsModel.sumJoins(I)I
set_option maxRecDepth 100000 in
noncomputable def z_k262 : List (Nat × List (Nat × z_E)) := [(1000000, [(0, .aload_n 0, 1, (0, 0, 0, 0), 0, 0), (1, .bipush 20, 2, (0, 0, 0, 0), 20, 0), (3, .invokevirtual 376, 3, (259, 4, 1, 0), 0, 0), (6, .aload_n 0, 1, (0, 0, 0, 0), 0, 0), (7, .iload_n 1, 1, (1, 0, 0, 0), 0, 0), (8, .invokevirtual 385, 3, (261, 4, 1, 0), 0, 0), (11, .aload_n 0, 1, (0, 0, 0, 0), 0, 0), (12, .getfield 388, 3, (48, 0, 12, 0), 0, 0), (15, .isub, 1, (0, 0, 0, 0), 0, 0), (16, .ireturn, 1, (0, 0, 0, 0), 0, 0)])]
-- ShareNetsModel.joinsIt(I)I
set_option maxRecDepth 100000 in
noncomputable def z_k263 : List (Nat × List (Nat × z_E)) := [(43, [(0, .aload_n 0, 1, (0, 0, 0, 0), 0, 0), (1, .getfield 373, 3, (46, 0, 12, 0), 0, 0), (4, .iconst 2, 1, (0, 0, 0, 0), 2, 0), (5, .if_icmp .ne 26, 3, (31, 0, 0, 0), 0, 0), (8, .aload_n 0, 1, (0, 0, 0, 0), 0, 0), (9, .bipush 31, 2, (0, 0, 0, 0), 31, 0), (11, .invokevirtual 376, 3, (259, 4, 1, 0), 0, 0), (14, .aload_n 0, 1, (0, 0, 0, 0), 0, 0), (15, .iload_n 1, 1, (1, 0, 0, 0), 0, 0), (16, .invokevirtual 391, 3, (262, 4, 1, 0), 0, 0), (19, .istore_n 2, 1, (2, 0, 0, 0), 0, 0), (20, .iload_n 2, 1, (2, 0, 0, 0), 0, 0), (21, .aload_n 0, 1, (0, 0, 0, 0), 0, 0), (22, .aload_n 0, 1, (0, 0, 0, 0), 0, 0), (23, .getfield 379, 3, (47, 0, 12, 0), 0, 0), (26, .invokevirtual 394, 3, (265, 4, 1, 0), 0, 0), (29, .iadd, 1, (0, 0, 0, 0), 0, 0), (30, .ireturn, 1, (0, 0, 0, 0), 0, 0), (31, .aload_n 0, 1, (0, 0, 0, 0), 0, 0), (32, .getfield 373, 3, (46, 0, 12, 0), 0, 0), (35, .ifCond .ne 11, 3, (46, 0, 0, 0), 0, 0), (38, .aload_n 0, 1, (0, 0, 0, 0), 0, 0), (39, .iload_n 1, 1, (1, 0, 0, 0), 0, 0), (40, .invokevirtual 385, 3, (261, 4, 1, 0), 0, 0)]),
  (1000000, [(43, .goto 8, 3, (51, 0, 0, 0), 0, 0), (46, .aload_n 0, 1, (0, 0, 0, 0), 0, 0), (47, .iload_n 1, 1, (1, 0, 0, 0), 0, 0), (48, .invokevirtual 391, 3, (262, 4, 1, 0), 0, 0), (51, .ireturn, 1, (0, 0, 0, 0), 0, 0)])]
-- ShareNetsModel.plainParts(I)I
set_option maxRecDepth 100000 in
noncomputable def z_k264 : List (Nat × List (Nat × z_E)) := [(1000000, [(0, .aload_n 0, 1, (0, 0, 0, 0), 0, 0), (1, .bipush 12, 2, (0, 0, 0, 0), 12, 0), (3, .invokevirtual 376, 3, (259, 4, 1, 0), 0, 0), (6, .aload_n 0, 1, (0, 0, 0, 0), 0, 0), (7, .getfield 388, 3, (48, 0, 12, 0), 0, 0), (10, .aload_n 0, 1, (0, 0, 0, 0), 0, 0), (11, .getfield 379, 3, (47, 0, 12, 0), 0, 0), (14, .if_icmp .ne 10, 3, (24, 0, 0, 0), 0, 0), (17, .aload_n 0, 1, (0, 0, 0, 0), 0, 0), (18, .iconst 1, 1, (0, 0, 0, 0), 1, 0), (19, .putfield 397, 3, (51, 3, 12, 0), 0, 0), (22, .iconst 0, 1, (0, 0, 0, 0), 0, 0), (23, .ireturn, 1, (0, 0, 0, 0), 0, 0), (24, .iload_n 1, 1, (1, 0, 0, 0), 0, 0), (25, .aload_n 0, 1, (0, 0, 0, 0), 0, 0), (26, .getfield 388, 3, (48, 0, 12, 0), 0, 0), (29, .aload_n 0, 1, (0, 0, 0, 0), 0, 0), (30, .getfield 379, 3, (47, 0, 12, 0), 0, 0), (33, .isub, 1, (0, 0, 0, 0), 0, 0), (34, .idiv, 1, (0, 0, 0, 0), 0, 0), (35, .ireturn, 1, (0, 0, 0, 0), 0, 0)])]
-- ShareNetsModel.partsIt(I)I
set_option maxRecDepth 100000 in
noncomputable def z_k265 : List (Nat × List (Nat × z_E)) := [(1000000, [(0, .aload_n 0, 1, (0, 0, 0, 0), 0, 0), (1, .getfield 373, 3, (46, 0, 12, 0), 0, 0), (4, .ifCond .ne 9, 3, (13, 0, 0, 0), 0, 0), (7, .aload_n 0, 1, (0, 0, 0, 0), 0, 0), (8, .iload_n 1, 1, (1, 0, 0, 0), 0, 0), (9, .invokevirtual 400, 3, (264, 4, 1, 0), 0, 0), (12, .ireturn, 1, (0, 0, 0, 0), 0, 0), (13, .aload_n 0, 1, (0, 0, 0, 0), 0, 0), (14, .bipush 21, 2, (0, 0, 0, 0), 21, 0), (16, .invokevirtual 376, 3, (259, 4, 1, 0), 0, 0), (19, .aload_n 0, 1, (0, 0, 0, 0), 0, 0), (20, .iload_n 1, 1, (1, 0, 0, 0), 0, 0), (21, .iconst 1, 1, (0, 0, 0, 0), 1, 0), (22, .iadd, 1, (0, 0, 0, 0), 0, 0), (23, .invokevirtual 400, 3, (264, 4, 1, 0), 0, 0), (26, .ireturn, 1, (0, 0, 0, 0), 0, 0)])]
-- ShareNetsModel.plainTells(I)I
set_option maxRecDepth 100000 in
noncomputable def z_k266 : List (Nat × List (Nat × z_E)) := [(1000000, [(0, .aload_n 0, 1, (0, 0, 0, 0), 0, 0), (1, .bipush 13, 2, (0, 0, 0, 0), 13, 0), (3, .invokevirtual 376, 3, (259, 4, 1, 0), 0, 0), (6, .aload_n 0, 1, (0, 0, 0, 0), 0, 0), (7, .iload_n 1, 1, (1, 0, 0, 0), 0, 0), (8, .invokevirtual 403, 3, (263, 4, 1, 0), 0, 0), (11, .aload_n 0, 1, (0, 0, 0, 0), 0, 0), (12, .getfield 388, 3, (48, 0, 12, 0), 0, 0), (15, .ixor, 1, (0, 0, 0, 0), 0, 0), (16, .ireturn, 1, (0, 0, 0, 0), 0, 0)])]
-- ShareNetsModel.tellsIt(I)I
set_option maxRecDepth 100000 in
noncomputable def z_k267 : List (Nat × List (Nat × z_E)) := [(1000000, [(0, .aload_n 0, 1, (0, 0, 0, 0), 0, 0), (1, .getfield 373, 3, (46, 0, 12, 0), 0, 0), (4, .iconst 3, 1, (0, 0, 0, 0), 3, 0), (5, .if_icmp .ne 17, 3, (22, 0, 0, 0), 0, 0), (8, .aload_n 0, 1, (0, 0, 0, 0), 0, 0), (9, .bipush 41, 2, (0, 0, 0, 0), 41, 0), (11, .invokevirtual 376, 3, (259, 4, 1, 0), 0, 0), (14, .aload_n 0, 1, (0, 0, 0, 0), 0, 0), (15, .iload_n 1, 1, (1, 0, 0, 0), 0, 0), (16, .invokevirtual 406, 3, (266, 4, 1, 0), 0, 0), (19, .iconst 2, 1, (0, 0, 0, 0), 2, 0), (20, .imul, 1, (0, 0, 0, 0), 0, 0), (21, .ireturn, 1, (0, 0, 0, 0), 0, 0), (22, .aload_n 0, 1, (0, 0, 0, 0), 0, 0), (23, .iload_n 1, 1, (1, 0, 0, 0), 0, 0), (24, .invokevirtual 406, 3, (266, 4, 1, 0), 0, 0), (27, .ireturn, 1, (0, 0, 0, 0), 0, 0)])]
-- ShareNetsModel.act(III)I
set_option maxRecDepth 100000 in
noncomputable def z_k268 : List (Nat × List (Nat × z_E)) := [(44, [(0, .aload_n 0, 1, (0, 0, 0, 0), 0, 0), (1, .iconst 0, 1, (0, 0, 0, 0), 0, 0), (2, .putfield 370, 3, (50, 0, 12, 0), 0, 0), (5, .iload_n 1, 1, (1, 0, 0, 0), 0, 0), (6, .invokestatic 229, 3, (249, 0, 1, 0), 0, 0), (9, .ifCond .eq 11, 3, (20, 0, 0, 0), 0, 0), (12, .aload_n 0, 1, (0, 0, 0, 0), 0, 0), (13, .iload_n 1, 1, (1, 0, 0, 0), 0, 0), (14, .invokevirtual 364, 3, (256, 4, 1, 0), 0, 0), (17, .goto 4, 3, (21, 0, 0, 0), 0, 0), (20, .iconst (-1), 1, (0, 0, 0, 0), (-1), 0), (21, .istore 4, 2, (4, 0, 0, 0), 0, 0), (23, .iload_n 2, 1, (2, 0, 0, 0), 0, 0), (24, .iconst 0, 1, (0, 0, 0, 0), 0, 0), (25, .iconst 3, 1, (0, 0, 0, 0), 3, 0), (26, .invokestatic 117, 3, (158, 0, 3, 0), 0, 0), (29, .ifCond .eq 13, 3, (42, 0, 0, 0), 0, 0), (32, .iload 4, 2, (4, 0, 0, 0), 0, 0), (34, .iconst 0, 1, (0, 0, 0, 0), 0, 0), (35, .iconst 3, 1, (0, 0, 0, 0), 3, 0), (36, .invokestatic 117, 3, (158, 0, 3, 0), 0, 0), (39, .ifCond .ne 5, 3, (44, 0, 0, 0), 0, 0), (42, .iconst 0, 1, (0, 0, 0, 0), 0, 0), (43, .ireturn, 1, (0, 0, 0, 0), 0, 0)]),
  (87, [(44, .aload_n 0, 1, (0, 0, 0, 0), 0, 0), (45, .iload 4, 2, (4, 0, 0, 0), 0, 0), (47, .putfield 373, 3, (46, 0, 12, 0), 0, 0), (50, .aload_n 0, 1, (0, 0, 0, 0), 0, 0), (51, .aload_n 0, 1, (0, 0, 0, 0), 0, 0), (52, .getfield 90, 3, (44, 2, 12, 0), 0, 0), (55, .iload_n 1, 1, (1, 0, 0, 0), 0, 0), (56, .iaload, 1, (0, 0, 0, 0), 0, 0), (57, .putfield 379, 3, (47, 0, 12, 0), 0, 0), (60, .aload_n 0, 1, (0, 0, 0, 0), 0, 0), (61, .aload_n 0, 1, (0, 0, 0, 0), 0, 0), (62, .aload_n 0, 1, (0, 0, 0, 0), 0, 0), (63, .getfield 379, 3, (47, 0, 12, 0), 0, 0), (66, .iconst 1, 1, (0, 0, 0, 0), 1, 0), (67, .invokevirtual 324, 3, (229, 4, 2, 0), 0, 0), (70, .putfield 388, 3, (48, 0, 12, 0), 0, 0), (73, .aload_n 0, 1, (0, 0, 0, 0), 0, 0), (74, .iconst 0, 1, (0, 0, 0, 0), 0, 0), (75, .putfield 397, 3, (51, 3, 12, 0), 0, 0), (78, .iload_n 2, 1, (2, 0, 0, 0), 0, 0), (79, .ifCond .ne 11, 3, (90, 0, 0, 0), 0, 0), (82, .aload_n 0, 1, (0, 0, 0, 0), 0, 0), (83, .iload_n 3, 1, (3, 0, 0, 0), 0, 0), (84, .invokevirtual 382, 3, (260, 4, 1, 0), 0, 0)]),
  (135, [(87, .goto 34, 3, (121, 0, 0, 0), 0, 0), (90, .iload_n 2, 1, (2, 0, 0, 0), 0, 0), (91, .iconst 1, 1, (0, 0, 0, 0), 1, 0), (92, .if_icmp .ne 11, 3, (103, 0, 0, 0), 0, 0), (95, .aload_n 0, 1, (0, 0, 0, 0), 0, 0), (96, .iload_n 3, 1, (3, 0, 0, 0), 0, 0), (97, .invokevirtual 403, 3, (263, 4, 1, 0), 0, 0), (100, .goto 21, 3, (121, 0, 0, 0), 0, 0), (103, .iload_n 2, 1, (2, 0, 0, 0), 0, 0), (104, .iconst 2, 1, (0, 0, 0, 0), 2, 0), (105, .if_icmp .ne 11, 3, (116, 0, 0, 0), 0, 0), (108, .aload_n 0, 1, (0, 0, 0, 0), 0, 0), (109, .iload_n 3, 1, (3, 0, 0, 0), 0, 0), (110, .invokevirtual 394, 3, (265, 4, 1, 0), 0, 0), (113, .goto 8, 3, (121, 0, 0, 0), 0, 0), (116, .aload_n 0, 1, (0, 0, 0, 0), 0, 0), (117, .iload_n 3, 1, (3, 0, 0, 0), 0, 0), (118, .invokevirtual 409, 3, (267, 4, 1, 0), 0, 0), (121, .istore 5, 2, (5, 0, 0, 0), 0, 0), (123, .aload_n 0, 1, (0, 0, 0, 0), 0, 0), (124, .getfield 397, 3, (51, 3, 12, 0), 0, 0), (127, .ifCond .eq 8, 3, (135, 0, 0, 0), 0, 0), (130, .bipush (-15), 2, (0, 0, 0, 0), (-15), 0), (132, .goto 5, 3, (137, 0, 0, 0), 0, 0)]),
  (1000000, [(135, .iload 5, 2, (5, 0, 0, 0), 0, 0), (137, .ireturn, 1, (0, 0, 0, 0), 0, 0)])]
-- ShareNetsModel.trace(I)I
set_option maxRecDepth 100000 in
noncomputable def z_k269 : List (Nat × List (Nat × z_E)) := [(1000000, [(0, .iload_n 1, 1, (1, 0, 0, 0), 0, 0), (1, .iconst 0, 1, (0, 0, 0, 0), 0, 0), (2, .aload_n 0, 1, (0, 0, 0, 0), 0, 0), (3, .getfield 370, 3, (50, 0, 12, 0), 0, 0), (6, .iconst 1, 1, (0, 0, 0, 0), 1, 0), (7, .isub, 1, (0, 0, 0, 0), 0, 0), (8, .invokestatic 117, 3, (158, 0, 3, 0), 0, 0), (11, .ifCond .eq 12, 3, (23, 0, 0, 0), 0, 0), (14, .aload_n 0, 1, (0, 0, 0, 0), 0, 0), (15, .getfield 96, 3, (49, 2, 12, 0), 0, 0), (18, .iload_n 1, 1, (1, 0, 0, 0), 0, 0), (19, .iaload, 1, (0, 0, 0, 0), 0, 0), (20, .goto 5, 3, (25, 0, 0, 0), 0, 0), (23, .bipush (-3), 2, (0, 0, 0, 0), (-3), 0), (25, .ireturn, 1, (0, 0, 0, 0), 0, 0)])]
-- ShareNetsModel.many(I)I
set_option maxRecDepth 100000 in
noncomputable def z_k270 : List (Nat × List (Nat × z_E)) := [(1000000, [(0, .iload_n 1, 1, (1, 0, 0, 0), 0, 0), (1, .tableswitch 69 0 5 #[39, 44, 49, 54, 59, 64], 39, (0, 0, 0, 0), 0, 0), (40, .aload_n 0, 1, (0, 0, 0, 0), 0, 0), (41, .getfield 288, 3, (4, 0, 12, 0), 0, 0), (44, .ireturn, 1, (0, 0, 0, 0), 0, 0), (45, .aload_n 0, 1, (0, 0, 0, 0), 0, 0), (46, .getfield 318, 3, (8, 0, 12, 0), 0, 0), (49, .ireturn, 1, (0, 0, 0, 0), 0, 0), (50, .aload_n 0, 1, (0, 0, 0, 0), 0, 0), (51, .getfield 275, 3, (2, 0, 12, 0), 0, 0), (54, .ireturn, 1, (0, 0, 0, 0), 0, 0), (55, .aload_n 0, 1, (0, 0, 0, 0), 0, 0), (56, .getfield 355, 3, (37, 0, 12, 0), 0, 0), (59, .ireturn, 1, (0, 0, 0, 0), 0, 0), (60, .aload_n 0, 1, (0, 0, 0, 0), 0, 0), (61, .getfield 128, 3, (14, 0, 12, 0), 0, 0), (64, .ireturn, 1, (0, 0, 0, 0), 0, 0), (65, .aload_n 0, 1, (0, 0, 0, 0), 0, 0), (66, .getfield 370, 3, (50, 0, 12, 0), 0, 0), (69, .ireturn, 1, (0, 0, 0, 0), 0, 0), (70, .iconst (-1), 1, (0, 0, 0, 0), (-1), 0), (71, .ireturn, 1, (0, 0, 0, 0), 0, 0)])]
-- ShareNetsModel.move([IIZ)V
set_option maxRecDepth 100000 in
noncomputable def z_k271 : List (Nat × List (Nat × z_E)) := [(42, [(0, .iconst 0, 1, (0, 0, 0, 0), 0, 0), (1, .istore 4, 2, (4, 0, 0, 0), 0, 0), (3, .iload 4, 2, (4, 0, 0, 0), 0, 0), (5, .iload_n 2, 1, (2, 0, 0, 0), 0, 0), (6, .if_icmp .ge 52, 3, (58, 0, 0, 0), 0, 0), (9, .iload_n 3, 1, (3, 0, 0, 0), 0, 0), (10, .ifCond .eq 19, 3, (29, 0, 0, 0), 0, 0), (13, .aload_n 0, 1, (0, 0, 0, 0), 0, 0), (14, .getfield 99, 3, (53, 2, 12, 0), 0, 0), (17, .aload_n 0, 1, (0, 0, 0, 0), 0, 0), (18, .getfield 412, 3, (54, 0, 12, 0), 0, 0), (21, .aload_n 1, 1, (1, 0, 0, 0), 0, 0), (22, .iload 4, 2, (4, 0, 0, 0), 0, 0), (24, .iaload, 1, (0, 0, 0, 0), 0, 0), (25, .iastore, 1, (0, 0, 0, 0), 0, 0), (26, .goto 16, 3, (42, 0, 0, 0), 0, 0), (29, .aload_n 1, 1, (1, 0, 0, 0), 0, 0), (30, .iload 4, 2, (4, 0, 0, 0), 0, 0), (32, .aload_n 0, 1, (0, 0, 0, 0), 0, 0), (33, .getfield 99, 3, (53, 2, 12, 0), 0, 0), (36, .aload_n 0, 1, (0, 0, 0, 0), 0, 0), (37, .getfield 412, 3, (54, 0, 12, 0), 0, 0), (40, .iaload, 1, (0, 0, 0, 0), 0, 0), (41, .iastore, 1, (0, 0, 0, 0), 0, 0)]),
  (1000000, [(42, .aload_n 0, 1, (0, 0, 0, 0), 0, 0), (43, .dup, 1, (0, 0, 0, 0), 0, 0), (44, .getfield 412, 3, (54, 0, 12, 0), 0, 0), (47, .iconst 1, 1, (0, 0, 0, 0), 1, 0), (48, .iadd, 1, (0, 0, 0, 0), 0, 0), (49, .putfield 412, 3, (54, 0, 12, 0), 0, 0), (52, .iinc 4 1, 3, (4, 0, 0, 0), 1, 0), (55, .goto (-52), 3, (3, 0, 0, 0), 0, 0), (58, .return_, 1, (0, 0, 0, 0), 0, 0)])]
-- ShareNetsModel.moveAll(Z)V
set_option maxRecDepth 100000 in
noncomputable def z_k272 : List (Nat × List (Nat × z_E)) := [(40, [(0, .aload_n 0, 1, (0, 0, 0, 0), 0, 0), (1, .iconst 0, 1, (0, 0, 0, 0), 0, 0), (2, .putfield 412, 3, (54, 0, 12, 0), 0, 0), (5, .aload_n 0, 1, (0, 0, 0, 0), 0, 0), (6, .getfield 102, 3, (55, 2, 12, 0), 0, 0), (9, .iconst 0, 1, (0, 0, 0, 0), 0, 0), (10, .aload_n 0, 1, (0, 0, 0, 0), 0, 0), (11, .getfield 275, 3, (2, 0, 12, 0), 0, 0), (14, .iastore, 1, (0, 0, 0, 0), 0, 0), (15, .aload_n 0, 1, (0, 0, 0, 0), 0, 0), (16, .getfield 102, 3, (55, 2, 12, 0), 0, 0), (19, .iconst 1, 1, (0, 0, 0, 0), 1, 0), (20, .aload_n 0, 1, (0, 0, 0, 0), 0, 0), (21, .getfield 288, 3, (4, 0, 12, 0), 0, 0), (24, .iastore, 1, (0, 0, 0, 0), 0, 0), (25, .aload_n 0, 1, (0, 0, 0, 0), 0, 0), (26, .getfield 102, 3, (55, 2, 12, 0), 0, 0), (29, .iconst 2, 1, (0, 0, 0, 0), 2, 0), (30, .aload_n 0, 1, (0, 0, 0, 0), 0, 0), (31, .getfield 318, 3, (8, 0, 12, 0), 0, 0), (34, .iastore, 1, (0, 0, 0, 0), 0, 0), (35, .aload_n 0, 1, (0, 0, 0, 0), 0, 0), (36, .getfield 102, 3, (55, 2, 12, 0), 0, 0), (39, .iconst 3, 1, (0, 0, 0, 0), 3, 0)]),
  (81, [(40, .aload_n 0, 1, (0, 0, 0, 0), 0, 0), (41, .getfield 25, 3, (7, 0, 12, 0), 0, 0), (44, .iastore, 1, (0, 0, 0, 0), 0, 0), (45, .aload_n 0, 1, (0, 0, 0, 0), 0, 0), (46, .aload_n 0, 1, (0, 0, 0, 0), 0, 0), (47, .getfield 102, 3, (55, 2, 12, 0), 0, 0), (50, .iconst 4, 1, (0, 0, 0, 0), 4, 0), (51, .iload_n 1, 1, (1, 0, 0, 0), 0, 0), (52, .invokevirtual 415, 3, (271, 4, 3, 0), 0, 0), (55, .aload_n 0, 1, (0, 0, 0, 0), 0, 0), (56, .aload_n 0, 1, (0, 0, 0, 0), 0, 0), (57, .getfield 7, 3, (0, 2, 12, 0), 0, 0), (60, .iconst 4, 1, (0, 0, 0, 0), 4, 0), (61, .iload_n 1, 1, (1, 0, 0, 0), 0, 0), (62, .invokevirtual 415, 3, (271, 4, 3, 0), 0, 0), (65, .aload_n 0, 1, (0, 0, 0, 0), 0, 0), (66, .aload_n 0, 1, (0, 0, 0, 0), 0, 0), (67, .getfield 13, 3, (1, 2, 12, 0), 0, 0), (70, .bipush 40, 2, (0, 0, 0, 0), 40, 0), (72, .iload_n 1, 1, (1, 0, 0, 0), 0, 0), (73, .invokevirtual 415, 3, (271, 4, 3, 0), 0, 0), (76, .aload_n 0, 1, (0, 0, 0, 0), 0, 0), (77, .aload_n 0, 1, (0, 0, 0, 0), 0, 0), (78, .getfield 16, 3, (3, 2, 12, 0), 0, 0)]),
  (1000000, [(81, .bipush 8, 2, (0, 0, 0, 0), 8, 0), (83, .iload_n 1, 1, (1, 0, 0, 0), 0, 0), (84, .invokevirtual 415, 3, (271, 4, 3, 0), 0, 0), (87, .aload_n 0, 1, (0, 0, 0, 0), 0, 0), (88, .aload_n 0, 1, (0, 0, 0, 0), 0, 0), (89, .getfield 19, 3, (5, 2, 12, 0), 0, 0), (92, .iconst 5, 1, (0, 0, 0, 0), 5, 0), (93, .iload_n 1, 1, (1, 0, 0, 0), 0, 0), (94, .invokevirtual 415, 3, (271, 4, 3, 0), 0, 0), (97, .aload_n 0, 1, (0, 0, 0, 0), 0, 0), (98, .aload_n 0, 1, (0, 0, 0, 0), 0, 0), (99, .getfield 22, 3, (6, 2, 12, 0), 0, 0), (102, .bipush 25, 2, (0, 0, 0, 0), 25, 0), (104, .iload_n 1, 1, (1, 0, 0, 0), 0, 0), (105, .invokevirtual 415, 3, (271, 4, 3, 0), 0, 0), (108, .aload_n 0, 1, (0, 0, 0, 0), 0, 0), (109, .aload_n 0, 1, (0, 0, 0, 0), 0, 0), (110, .getfield 29, 3, (9, 2, 12, 0), 0, 0), (113, .bipush 24, 2, (0, 0, 0, 0), 24, 0), (115, .iload_n 1, 1, (1, 0, 0, 0), 0, 0), (116, .invokevirtual 415, 3, (271, 4, 3, 0), 0, 0), (119, .return_, 1, (0, 0, 0, 0), 0, 0)])]
-- ShareNetsModel.keep()I
set_option maxRecDepth 100000 in
noncomputable def z_k273 : List (Nat × List (Nat × z_E)) := [(1000000, [(0, .aload_n 0, 1, (0, 0, 0, 0), 0, 0), (1, .iconst 1, 1, (0, 0, 0, 0), 1, 0), (2, .invokevirtual 419, 3, (272, 4, 1, 0), 0, 0), (5, .aload_n 0, 1, (0, 0, 0, 0), 0, 0), (6, .iconst 1, 1, (0, 0, 0, 0), 1, 0), (7, .putfield 423, 3, (52, 3, 12, 0), 0, 0), (10, .iconst 1, 1, (0, 0, 0, 0), 1, 0), (11, .ireturn, 1, (0, 0, 0, 0), 0, 0)])]
-- ShareNetsModel.again()I
set_option maxRecDepth 100000 in
noncomputable def z_k274 : List (Nat × List (Nat × z_E)) := [(41, [(0, .aload_n 0, 1, (0, 0, 0, 0), 0, 0), (1, .getfield 423, 3, (52, 3, 12, 0), 0, 0), (4, .ifCond .ne 6, 3, (10, 0, 0, 0), 0, 0), (7, .bipush (-3), 2, (0, 0, 0, 0), (-3), 0), (9, .ireturn, 1, (0, 0, 0, 0), 0, 0), (10, .aload_n 0, 1, (0, 0, 0, 0), 0, 0), (11, .iconst 0, 1, (0, 0, 0, 0), 0, 0), (12, .invokevirtual 419, 3, (272, 4, 1, 0), 0, 0), (15, .aload_n 0, 1, (0, 0, 0, 0), 0, 0), (16, .aload_n 0, 1, (0, 0, 0, 0), 0, 0), (17, .getfield 102, 3, (55, 2, 12, 0), 0, 0), (20, .iconst 0, 1, (0, 0, 0, 0), 0, 0), (21, .iaload, 1, (0, 0, 0, 0), 0, 0), (22, .putfield 275, 3, (2, 0, 12, 0), 0, 0), (25, .aload_n 0, 1, (0, 0, 0, 0), 0, 0), (26, .aload_n 0, 1, (0, 0, 0, 0), 0, 0), (27, .getfield 102, 3, (55, 2, 12, 0), 0, 0), (30, .iconst 1, 1, (0, 0, 0, 0), 1, 0), (31, .iaload, 1, (0, 0, 0, 0), 0, 0), (32, .putfield 288, 3, (4, 0, 12, 0), 0, 0), (35, .aload_n 0, 1, (0, 0, 0, 0), 0, 0), (36, .aload_n 0, 1, (0, 0, 0, 0), 0, 0), (37, .getfield 102, 3, (55, 2, 12, 0), 0, 0), (40, .iconst 2, 1, (0, 0, 0, 0), 2, 0)]),
  (1000000, [(41, .iaload, 1, (0, 0, 0, 0), 0, 0), (42, .putfield 318, 3, (8, 0, 12, 0), 0, 0), (45, .aload_n 0, 1, (0, 0, 0, 0), 0, 0), (46, .aload_n 0, 1, (0, 0, 0, 0), 0, 0), (47, .getfield 102, 3, (55, 2, 12, 0), 0, 0), (50, .iconst 3, 1, (0, 0, 0, 0), 3, 0), (51, .iaload, 1, (0, 0, 0, 0), 0, 0), (52, .putfield 25, 3, (7, 0, 12, 0), 0, 0), (55, .iconst 1, 1, (0, 0, 0, 0), 1, 0), (56, .ireturn, 1, (0, 0, 0, 0), 0, 0)])]
-- java/lang/Integer.bitCount(I)I
set_option maxRecDepth 100000 in
noncomputable def z_k275 : List (Nat × List (Nat × z_E)) := [(32, [(0, .iload_n 0, 1, (0, 0, 0, 0), 0, 0), (1, .iload_n 0, 1, (0, 0, 0, 0), 0, 0), (2, .iconst 1, 1, (0, 0, 0, 0), 1, 0), (3, .iushr, 1, (0, 0, 0, 0), 0, 0), (4, .ldc_w 265, 3, (0, 0, 0, 0), 1431655765, 0), (7, .iand, 1, (0, 0, 0, 0), 0, 0), (8, .isub, 1, (0, 0, 0, 0), 0, 0), (9, .istore_n 0, 1, (0, 0, 0, 0), 0, 0), (10, .iload_n 0, 1, (0, 0, 0, 0), 0, 0), (11, .ldc_w 266, 3, (0, 0, 0, 0), 858993459, 0), (14, .iand, 1, (0, 0, 0, 0), 0, 0), (15, .iload_n 0, 1, (0, 0, 0, 0), 0, 0), (16, .iconst 2, 1, (0, 0, 0, 0), 2, 0), (17, .iushr, 1, (0, 0, 0, 0), 0, 0), (18, .ldc_w 266, 3, (0, 0, 0, 0), 858993459, 0), (21, .iand, 1, (0, 0, 0, 0), 0, 0), (22, .iadd, 1, (0, 0, 0, 0), 0, 0), (23, .istore_n 0, 1, (0, 0, 0, 0), 0, 0), (24, .iload_n 0, 1, (0, 0, 0, 0), 0, 0), (25, .iload_n 0, 1, (0, 0, 0, 0), 0, 0), (26, .iconst 4, 1, (0, 0, 0, 0), 4, 0), (27, .iushr, 1, (0, 0, 0, 0), 0, 0), (28, .iadd, 1, (0, 0, 0, 0), 0, 0), (29, .ldc_w 267, 3, (0, 0, 0, 0), 252645135, 0)]),
  (1000000, [(32, .iand, 1, (0, 0, 0, 0), 0, 0), (33, .istore_n 0, 1, (0, 0, 0, 0), 0, 0), (34, .iload_n 0, 1, (0, 0, 0, 0), 0, 0), (35, .iload_n 0, 1, (0, 0, 0, 0), 0, 0), (36, .bipush 8, 2, (0, 0, 0, 0), 8, 0), (38, .iushr, 1, (0, 0, 0, 0), 0, 0), (39, .iadd, 1, (0, 0, 0, 0), 0, 0), (40, .istore_n 0, 1, (0, 0, 0, 0), 0, 0), (41, .iload_n 0, 1, (0, 0, 0, 0), 0, 0), (42, .iload_n 0, 1, (0, 0, 0, 0), 0, 0), (43, .bipush 16, 2, (0, 0, 0, 0), 16, 0), (45, .iushr, 1, (0, 0, 0, 0), 0, 0), (46, .iadd, 1, (0, 0, 0, 0), 0, 0), (47, .istore_n 0, 1, (0, 0, 0, 0), 0, 0), (48, .iload_n 0, 1, (0, 0, 0, 0), 0, 0), (49, .bipush 63, 2, (0, 0, 0, 0), 63, 0), (51, .iand, 1, (0, 0, 0, 0), 0, 0), (52, .ireturn, 1, (0, 0, 0, 0), 0, 0)])]
-- java/lang/Math.abs(J)J
set_option maxRecDepth 100000 in
noncomputable def z_k276 : List (Nat × List (Nat × z_E)) := [(1000000, [(0, .lload_n 0, 1, (0, 0, 0, 0), 0, 0), (1, .lconst 0, 1, (0, 0, 0, 0), 0, 0), (2, .lcmp, 1, (0, 0, 0, 0), 0, 0), (3, .ifCond .ge 8, 3, (11, 0, 0, 0), 0, 0), (6, .lload_n 0, 1, (0, 0, 0, 0), 0, 0), (7, .lneg, 1, (0, 0, 0, 0), 0, 0), (8, .goto 4, 3, (12, 0, 0, 0), 0, 0), (11, .lload_n 0, 1, (0, 0, 0, 0), 0, 0), (12, .lreturn, 1, (0, 0, 0, 0), 0, 0)])]
-- java/lang/Math.max(II)I
set_option maxRecDepth 100000 in
noncomputable def z_k277 : List (Nat × List (Nat × z_E)) := [(1000000, [(0, .iload_n 0, 1, (0, 0, 0, 0), 0, 0), (1, .iload_n 1, 1, (1, 0, 0, 0), 0, 0), (2, .if_icmp .lt 7, 3, (9, 0, 0, 0), 0, 0), (5, .iload_n 0, 1, (0, 0, 0, 0), 0, 0), (6, .goto 4, 3, (10, 0, 0, 0), 0, 0), (9, .iload_n 1, 1, (1, 0, 0, 0), 0, 0), (10, .ireturn, 1, (0, 0, 0, 0), 0, 0)])]
-- java/lang/String.length()I
set_option maxRecDepth 100000 in
noncomputable def z_k278 : List (Nat × List (Nat × z_E)) := [(1000000, [(0, .aload_n 0, 1, (0, 0, 0, 0), 0, 0), (1, .getfield 9, 3, (0, 4, 99, 0), 0, 0), (4, .arraylength, 1, (0, 0, 0, 0), 0, 0), (5, .aload_n 0, 1, (0, 0, 0, 0), 0, 0), (6, .invokevirtual 335, 3, (280, 4, 0, 0), 0, 0), (9, .ishr, 1, (0, 0, 0, 0), 0, 0), (10, .ireturn, 1, (0, 0, 0, 0), 0, 0)])]
-- java/lang/String.charAt(I)C
set_option maxRecDepth 100000 in
noncomputable def z_k279 : List (Nat × List (Nat × z_E)) := [(1000000, [(0, .aload_n 0, 1, (0, 0, 0, 0), 0, 0), (1, .invokevirtual 492, 3, (281, 4, 0, 0), 0, 0), (4, .ifCond .eq 12, 3, (16, 0, 0, 0), 0, 0), (7, .aload_n 0, 1, (0, 0, 0, 0), 0, 0), (8, .getfield 9, 3, (0, 4, 99, 0), 0, 0), (11, .iload_n 1, 1, (1, 0, 0, 0), 0, 0), (12, .invokestatic 495, 3, (283, 0, 2, 0), 0, 0), (15, .ireturn, 1, (3, 0, 0, 0), 0, 0), (16, .aload_n 0, 1, (0, 0, 0, 0), 0, 0), (17, .getfield 9, 3, (0, 4, 99, 0), 0, 0), (20, .iload_n 1, 1, (1, 0, 0, 0), 0, 0), (24, .ireturn, 1, (3, 0, 0, 0), 0, 0)])]
-- java/lang/String.coder()B
set_option maxRecDepth 100000 in
noncomputable def z_k280 : List (Nat × List (Nat × z_E)) := [(1000000, [(0, .getstatic 38, 3, (4, 0, 0, 0), 0, 0), (3, .ifCond .eq 10, 3, (13, 0, 0, 0), 0, 0), (6, .aload_n 0, 1, (0, 0, 0, 0), 0, 0), (7, .getfield 15, 3, (1, 4, 99, 0), 0, 0), (10, .goto 4, 3, (14, 0, 0, 0), 0, 0), (13, .iconst 1, 1, (0, 0, 0, 0), 1, 0), (14, .ireturn, 1, (2, 0, 0, 0), 0, 0)])]
-- java/lang/String.isLatin1()Z
set_option maxRecDepth 100000 in
noncomputable def z_k281 : List (Nat × List (Nat × z_E)) := [(1000000, [(0, .getstatic 38, 3, (4, 0, 0, 0), 0, 0), (3, .ifCond .eq 14, 3, (17, 0, 0, 0), 0, 0), (6, .aload_n 0, 1, (0, 0, 0, 0), 0, 0), (7, .getfield 15, 3, (1, 4, 99, 0), 0, 0), (10, .ifCond .ne 7, 3, (17, 0, 0, 0), 0, 0), (13, .iconst 1, 1, (0, 0, 0, 0), 1, 0), (14, .goto 4, 3, (18, 0, 0, 0), 0, 0), (17, .iconst 0, 1, (0, 0, 0, 0), 0, 0), (18, .ireturn, 1, (1, 0, 0, 0), 0, 0)])]
-- java/lang/String.checkIndex(II)V
set_option maxRecDepth 100000 in
noncomputable def z_k282 : List (Nat × List (Nat × z_E)) := [(1000000, [(0, .iload_n 0, 1, (0, 0, 0, 0), 0, 0), (1, .iload_n 1, 1, (1, 0, 0, 0), 0, 0), (2, .getstatic 1053, 3, (5, 0, 0, 0), 0, 0), (5, .invokestatic 1059, 3, (284, 0, 3, 0), 0, 0), (8, .pop, 1, (0, 0, 0, 0), 0, 0), (9, .return_, 1, (0, 0, 0, 0), 0, 0)])]
-- java/lang/StringLatin1.charAt([BI)C
set_option maxRecDepth 100000 in
noncomputable def z_k283 : List (Nat × List (Nat × z_E)) := [(1000000, [(0, .iload_n 1, 1, (1, 0, 0, 0), 0, 0), (1, .aload_n 0, 1, (0, 0, 0, 0), 0, 0), (2, .arraylength, 1, (0, 0, 0, 0), 0, 0), (3, .invokestatic 9, 3, (282, 0, 2, 0), 0, 0), (6, .aload_n 0, 1, (0, 0, 0, 0), 0, 0), (7, .iload_n 1, 1, (1, 0, 0, 0), 0, 0), (8, .baload, 1, (0, 0, 0, 0), 0, 0), (9, .sipush 255, 3, (0, 0, 0, 0), 255, 0), (12, .iand, 1, (0, 0, 0, 0), 0, 0), (13, .i2c, 1, (0, 0, 0, 0), 0, 0), (14, .ireturn, 1, (3, 0, 0, 0), 0, 0)])]
-- jdk/internal/util/Preconditions.checkIndex(IILjava/util/function/BiFunction;)I
set_option maxRecDepth 100000 in
noncomputable def z_k284 : List (Nat × List (Nat × z_E)) := [(1000000, [(0, .iload_n 0, 1, (0, 0, 0, 0), 0, 0), (1, .ifCond .lt 8, 3, (9, 0, 0, 0), 0, 0), (4, .iload_n 0, 1, (0, 0, 0, 0), 0, 0), (5, .iload_n 1, 1, (1, 0, 0, 0), 0, 0), (6, .if_icmp .lt 10, 3, (16, 0, 0, 0), 0, 0), (9, .aload_n 2, 1, (2, 0, 0, 0), 0, 0), (10, .iload_n 0, 1, (0, 0, 0, 0), 0, 0), (11, .iload_n 1, 1, (1, 0, 0, 0), 0, 0), (16, .iload_n 0, 1, (0, 0, 0, 0), 0, 0), (17, .ireturn, 1, (0, 0, 0, 0), 0, 0)])]
-- ShareNetsLaw.law([I)Z
set_option maxRecDepth 100000 in
noncomputable def z_kL0 : Nat × List (Nat × z_E) := (254, [(0, .new 7, 3, (11, 0, 0, 0), 0, 0), (3, .dup, 1, (0, 0, 0, 0), 0, 0), (4, .invokespecial 9, 3, (66, 2, 0, 0), 0, 0), (7, .astore_n 1, 1, (1, 0, 0, 0), 0, 0), (8, .new 10, 3, (12, 0, 0, 0), 0, 0), (11, .dup, 1, (0, 0, 0, 0), 0, 0), (12, .invokespecial 12, 3, (157, 2, 0, 0), 0, 0), (15, .astore_n 2, 1, (2, 0, 0, 0), 0, 0), (16, .iconst 0, 1, (0, 0, 0, 0), 0, 0), (17, .istore_n 3, 1, (3, 0, 0, 0), 0, 0), (18, .iload_n 3, 1, (3, 0, 0, 0), 0, 0), (19, .aload_n 0, 1, (0, 0, 0, 0), 0, 0), (20, .arraylength, 1, (0, 0, 0, 0), 0, 0), (21, .bipush 6, 2, (0, 0, 0, 0), 6, 0), (23, .isub, 1, (0, 0, 0, 0), 0, 0), (24, .if_icmp .gt 2045, 3, (2069, 0, 0, 0), 0, 0), (27, .aload_n 0, 1, (0, 0, 0, 0), 0, 0), (28, .iload_n 3, 1, (3, 0, 0, 0), 0, 0), (29, .iaload, 1, (0, 0, 0, 0), 0, 0), (30, .bipush 63, 2, (0, 0, 0, 0), 63, 0), (32, .iand, 1, (0, 0, 0, 0), 0, 0), (33, .tableswitch 2030 0 50 #[219, 282, 305, 338, 407, 440, 473, 496, 529, 562, 595, 638, 691, 754, 813, 836, 859, 902, 925, 968, 981, 1025, 1038, 1061, 1094, 1127, 1160, 1183, 1226, 1259, 1292, 1326, 1370, 1404, 1448, 1502, 1535, 1568, 1601, 1634, 1677, 1710, 1753, 1796, 1839, 1882, 1915, 1958, 1981, 2004, 2017], 219, (0, 0, 0, 0), 0, 0), (252, .aload_n 1, 1, (1, 0, 0, 0), 0, 0), (253, .aload_n 0, 1, (0, 0, 0, 0), 0, 0)])
set_option maxRecDepth 100000 in
noncomputable def z_kL1 : Nat × List (Nat × z_E) := (283, [(254, .iload_n 3, 1, (3, 0, 0, 0), 0, 0), (255, .iconst 1, 1, (0, 0, 0, 0), 1, 0), (256, .iadd, 1, (0, 0, 0, 0), 0, 0), (257, .iaload, 1, (0, 0, 0, 0), 0, 0), (258, .i2l, 1, (0, 0, 0, 0), 0, 0), (259, .bipush 32, 2, (0, 0, 0, 0), 32, 0), (261, .lshl, 1, (0, 0, 0, 0), 0, 0), (262, .aload_n 0, 1, (0, 0, 0, 0), 0, 0), (263, .iload_n 3, 1, (3, 0, 0, 0), 0, 0), (264, .iconst 2, 1, (0, 0, 0, 0), 2, 0), (265, .iadd, 1, (0, 0, 0, 0), 0, 0), (266, .iaload, 1, (0, 0, 0, 0), 0, 0), (267, .i2l, 1, (0, 0, 0, 0), 0, 0), (268, .ldc2_w 13, 3, (0, 0, 0, 0), 0, 4294967295), (271, .land, 1, (0, 0, 0, 0), 0, 0), (272, .lor, 1, (0, 0, 0, 0), 0, 0), (273, .aload_n 0, 1, (0, 0, 0, 0), 0, 0), (274, .iload_n 3, 1, (3, 0, 0, 0), 0, 0), (275, .iconst 3, 1, (0, 0, 0, 0), 3, 0), (276, .iadd, 1, (0, 0, 0, 0), 0, 0), (277, .iaload, 1, (0, 0, 0, 0), 0, 0), (278, .invokevirtual 15, 3, (67, 4, 2, 0), 0, 0), (281, .aload_n 2, 1, (2, 0, 0, 0), 0, 0), (282, .aload_n 0, 1, (0, 0, 0, 0), 0, 0)])
set_option maxRecDepth 100000 in
noncomputable def z_kL2 : Nat × List (Nat × z_E) := (314, [(283, .iload_n 3, 1, (3, 0, 0, 0), 0, 0), (284, .iconst 1, 1, (0, 0, 0, 0), 1, 0), (285, .iadd, 1, (0, 0, 0, 0), 0, 0), (286, .iaload, 1, (0, 0, 0, 0), 0, 0), (287, .i2l, 1, (0, 0, 0, 0), 0, 0), (288, .bipush 32, 2, (0, 0, 0, 0), 32, 0), (290, .lshl, 1, (0, 0, 0, 0), 0, 0), (291, .aload_n 0, 1, (0, 0, 0, 0), 0, 0), (292, .iload_n 3, 1, (3, 0, 0, 0), 0, 0), (293, .iconst 2, 1, (0, 0, 0, 0), 2, 0), (294, .iadd, 1, (0, 0, 0, 0), 0, 0), (295, .iaload, 1, (0, 0, 0, 0), 0, 0), (296, .i2l, 1, (0, 0, 0, 0), 0, 0), (297, .ldc2_w 13, 3, (0, 0, 0, 0), 0, 4294967295), (300, .land, 1, (0, 0, 0, 0), 0, 0), (301, .lor, 1, (0, 0, 0, 0), 0, 0), (302, .aload_n 0, 1, (0, 0, 0, 0), 0, 0), (303, .iload_n 3, 1, (3, 0, 0, 0), 0, 0), (304, .iconst 3, 1, (0, 0, 0, 0), 3, 0), (305, .iadd, 1, (0, 0, 0, 0), 0, 0), (306, .iaload, 1, (0, 0, 0, 0), 0, 0), (307, .invokevirtual 19, 3, (172, 4, 2, 0), 0, 0), (310, .if_icmp .eq 1753, 3, (2063, 0, 0, 0), 0, 0), (313, .iconst 0, 1, (0, 0, 0, 0), 0, 0)])
set_option maxRecDepth 100000 in
noncomputable def z_kL3 : Nat × List (Nat × z_E) := (344, [(314, .ireturn, 1, (1, 0, 0, 0), 0, 0), (315, .aload_n 1, 1, (1, 0, 0, 0), 0, 0), (316, .aload_n 0, 1, (0, 0, 0, 0), 0, 0), (317, .iload_n 3, 1, (3, 0, 0, 0), 0, 0), (318, .iconst 1, 1, (0, 0, 0, 0), 1, 0), (319, .iadd, 1, (0, 0, 0, 0), 0, 0), (320, .iaload, 1, (0, 0, 0, 0), 0, 0), (321, .invokevirtual 20, 3, (68, 4, 1, 0), 0, 0), (324, .aload_n 2, 1, (2, 0, 0, 0), 0, 0), (325, .aload_n 0, 1, (0, 0, 0, 0), 0, 0), (326, .iload_n 3, 1, (3, 0, 0, 0), 0, 0), (327, .iconst 1, 1, (0, 0, 0, 0), 1, 0), (328, .iadd, 1, (0, 0, 0, 0), 0, 0), (329, .iaload, 1, (0, 0, 0, 0), 0, 0), (330, .invokevirtual 24, 3, (183, 4, 1, 0), 0, 0), (333, .if_icmp .eq 1730, 3, (2063, 0, 0, 0), 0, 0), (336, .iconst 0, 1, (0, 0, 0, 0), 0, 0), (337, .ireturn, 1, (1, 0, 0, 0), 0, 0), (338, .aload_n 1, 1, (1, 0, 0, 0), 0, 0), (339, .aload_n 0, 1, (0, 0, 0, 0), 0, 0), (340, .iload_n 3, 1, (3, 0, 0, 0), 0, 0), (341, .iconst 1, 1, (0, 0, 0, 0), 1, 0), (342, .iadd, 1, (0, 0, 0, 0), 0, 0), (343, .iaload, 1, (0, 0, 0, 0), 0, 0)])
set_option maxRecDepth 100000 in
noncomputable def z_kL4 : Nat × List (Nat × z_E) := (374, [(344, .aload_n 0, 1, (0, 0, 0, 0), 0, 0), (345, .iload_n 3, 1, (3, 0, 0, 0), 0, 0), (346, .iconst 2, 1, (0, 0, 0, 0), 2, 0), (347, .iadd, 1, (0, 0, 0, 0), 0, 0), (348, .iaload, 1, (0, 0, 0, 0), 0, 0), (349, .invokevirtual 25, 3, (69, 4, 2, 0), 0, 0), (352, .aload_n 2, 1, (2, 0, 0, 0), 0, 0), (353, .aload_n 0, 1, (0, 0, 0, 0), 0, 0), (354, .iload_n 3, 1, (3, 0, 0, 0), 0, 0), (355, .iconst 1, 1, (0, 0, 0, 0), 1, 0), (356, .iadd, 1, (0, 0, 0, 0), 0, 0), (357, .iaload, 1, (0, 0, 0, 0), 0, 0), (358, .aload_n 0, 1, (0, 0, 0, 0), 0, 0), (359, .iload_n 3, 1, (3, 0, 0, 0), 0, 0), (360, .iconst 2, 1, (0, 0, 0, 0), 2, 0), (361, .iadd, 1, (0, 0, 0, 0), 0, 0), (362, .iaload, 1, (0, 0, 0, 0), 0, 0), (363, .invokevirtual 29, 3, (184, 4, 2, 0), 0, 0), (366, .if_icmp .eq 1697, 3, (2063, 0, 0, 0), 0, 0), (369, .iconst 0, 1, (0, 0, 0, 0), 0, 0), (370, .ireturn, 1, (1, 0, 0, 0), 0, 0), (371, .aload_n 1, 1, (1, 0, 0, 0), 0, 0), (372, .aload_n 0, 1, (0, 0, 0, 0), 0, 0), (373, .iload_n 3, 1, (3, 0, 0, 0), 0, 0)])
set_option maxRecDepth 100000 in
noncomputable def z_kL5 : Nat × List (Nat × z_E) := (404, [(374, .iconst 1, 1, (0, 0, 0, 0), 1, 0), (375, .iadd, 1, (0, 0, 0, 0), 0, 0), (376, .iaload, 1, (0, 0, 0, 0), 0, 0), (377, .aload_n 0, 1, (0, 0, 0, 0), 0, 0), (378, .iload_n 3, 1, (3, 0, 0, 0), 0, 0), (379, .iconst 2, 1, (0, 0, 0, 0), 2, 0), (380, .iadd, 1, (0, 0, 0, 0), 0, 0), (381, .iaload, 1, (0, 0, 0, 0), 0, 0), (382, .aload_n 0, 1, (0, 0, 0, 0), 0, 0), (383, .iload_n 3, 1, (3, 0, 0, 0), 0, 0), (384, .iconst 3, 1, (0, 0, 0, 0), 3, 0), (385, .iadd, 1, (0, 0, 0, 0), 0, 0), (386, .iaload, 1, (0, 0, 0, 0), 0, 0), (387, .aload_n 0, 1, (0, 0, 0, 0), 0, 0), (388, .iload_n 3, 1, (3, 0, 0, 0), 0, 0), (389, .iconst 4, 1, (0, 0, 0, 0), 4, 0), (390, .iadd, 1, (0, 0, 0, 0), 0, 0), (391, .iaload, 1, (0, 0, 0, 0), 0, 0), (392, .ifCond .eq 7, 3, (399, 0, 0, 0), 0, 0), (395, .iconst 1, 1, (0, 0, 0, 0), 1, 0), (396, .goto 4, 3, (400, 0, 0, 0), 0, 0), (399, .iconst 0, 1, (0, 0, 0, 0), 0, 0), (400, .invokevirtual 30, 3, (70, 4, 4, 0), 0, 0), (403, .aload_n 2, 1, (2, 0, 0, 0), 0, 0)])
set_option maxRecDepth 100000 in
noncomputable def z_kL6 : Nat × List (Nat × z_E) := (432, [(404, .aload_n 0, 1, (0, 0, 0, 0), 0, 0), (405, .iload_n 3, 1, (3, 0, 0, 0), 0, 0), (406, .iconst 1, 1, (0, 0, 0, 0), 1, 0), (407, .iadd, 1, (0, 0, 0, 0), 0, 0), (408, .iaload, 1, (0, 0, 0, 0), 0, 0), (409, .aload_n 0, 1, (0, 0, 0, 0), 0, 0), (410, .iload_n 3, 1, (3, 0, 0, 0), 0, 0), (411, .iconst 2, 1, (0, 0, 0, 0), 2, 0), (412, .iadd, 1, (0, 0, 0, 0), 0, 0), (413, .iaload, 1, (0, 0, 0, 0), 0, 0), (414, .aload_n 0, 1, (0, 0, 0, 0), 0, 0), (415, .iload_n 3, 1, (3, 0, 0, 0), 0, 0), (416, .iconst 3, 1, (0, 0, 0, 0), 3, 0), (417, .iadd, 1, (0, 0, 0, 0), 0, 0), (418, .iaload, 1, (0, 0, 0, 0), 0, 0), (419, .aload_n 0, 1, (0, 0, 0, 0), 0, 0), (420, .iload_n 3, 1, (3, 0, 0, 0), 0, 0), (421, .iconst 4, 1, (0, 0, 0, 0), 4, 0), (422, .iadd, 1, (0, 0, 0, 0), 0, 0), (423, .iaload, 1, (0, 0, 0, 0), 0, 0), (424, .ifCond .eq 7, 3, (431, 0, 0, 0), 0, 0), (427, .iconst 1, 1, (0, 0, 0, 0), 1, 0), (428, .goto 4, 3, (432, 0, 0, 0), 0, 0), (431, .iconst 0, 1, (0, 0, 0, 0), 0, 0)])
set_option maxRecDepth 100000 in
noncomputable def z_kL7 : Nat × List (Nat × z_E) := (462, [(432, .invokevirtual 34, 3, (185, 4, 4, 0), 0, 0), (435, .if_icmp .eq 1628, 3, (2063, 0, 0, 0), 0, 0), (438, .iconst 0, 1, (0, 0, 0, 0), 0, 0), (439, .ireturn, 1, (1, 0, 0, 0), 0, 0), (440, .aload_n 1, 1, (1, 0, 0, 0), 0, 0), (441, .aload_n 0, 1, (0, 0, 0, 0), 0, 0), (442, .iload_n 3, 1, (3, 0, 0, 0), 0, 0), (443, .iconst 1, 1, (0, 0, 0, 0), 1, 0), (444, .iadd, 1, (0, 0, 0, 0), 0, 0), (445, .iaload, 1, (0, 0, 0, 0), 0, 0), (446, .aload_n 0, 1, (0, 0, 0, 0), 0, 0), (447, .iload_n 3, 1, (3, 0, 0, 0), 0, 0), (448, .iconst 2, 1, (0, 0, 0, 0), 2, 0), (449, .iadd, 1, (0, 0, 0, 0), 0, 0), (450, .iaload, 1, (0, 0, 0, 0), 0, 0), (451, .invokevirtual 35, 3, (71, 4, 2, 0), 0, 0), (454, .aload_n 2, 1, (2, 0, 0, 0), 0, 0), (455, .aload_n 0, 1, (0, 0, 0, 0), 0, 0), (456, .iload_n 3, 1, (3, 0, 0, 0), 0, 0), (457, .iconst 1, 1, (0, 0, 0, 0), 1, 0), (458, .iadd, 1, (0, 0, 0, 0), 0, 0), (459, .iaload, 1, (0, 0, 0, 0), 0, 0), (460, .aload_n 0, 1, (0, 0, 0, 0), 0, 0), (461, .iload_n 3, 1, (3, 0, 0, 0), 0, 0)])
set_option maxRecDepth 100000 in
noncomputable def z_kL8 : Nat × List (Nat × z_E) := (492, [(462, .iconst 2, 1, (0, 0, 0, 0), 2, 0), (463, .iadd, 1, (0, 0, 0, 0), 0, 0), (464, .iaload, 1, (0, 0, 0, 0), 0, 0), (465, .invokevirtual 38, 3, (186, 4, 2, 0), 0, 0), (468, .if_icmp .eq 1595, 3, (2063, 0, 0, 0), 0, 0), (471, .iconst 0, 1, (0, 0, 0, 0), 0, 0), (472, .ireturn, 1, (1, 0, 0, 0), 0, 0), (473, .aload_n 1, 1, (1, 0, 0, 0), 0, 0), (474, .aload_n 0, 1, (0, 0, 0, 0), 0, 0), (475, .iload_n 3, 1, (3, 0, 0, 0), 0, 0), (476, .iconst 1, 1, (0, 0, 0, 0), 1, 0), (477, .iadd, 1, (0, 0, 0, 0), 0, 0), (478, .iaload, 1, (0, 0, 0, 0), 0, 0), (479, .aload_n 0, 1, (0, 0, 0, 0), 0, 0), (480, .iload_n 3, 1, (3, 0, 0, 0), 0, 0), (481, .iconst 2, 1, (0, 0, 0, 0), 2, 0), (482, .iadd, 1, (0, 0, 0, 0), 0, 0), (483, .iaload, 1, (0, 0, 0, 0), 0, 0), (484, .invokevirtual 39, 3, (72, 4, 2, 0), 0, 0), (487, .aload_n 2, 1, (2, 0, 0, 0), 0, 0), (488, .aload_n 0, 1, (0, 0, 0, 0), 0, 0), (489, .iload_n 3, 1, (3, 0, 0, 0), 0, 0), (490, .iconst 1, 1, (0, 0, 0, 0), 1, 0), (491, .iadd, 1, (0, 0, 0, 0), 0, 0)])
set_option maxRecDepth 100000 in
noncomputable def z_kL9 : Nat × List (Nat × z_E) := (524, [(492, .iaload, 1, (0, 0, 0, 0), 0, 0), (493, .aload_n 0, 1, (0, 0, 0, 0), 0, 0), (494, .iload_n 3, 1, (3, 0, 0, 0), 0, 0), (495, .iconst 2, 1, (0, 0, 0, 0), 2, 0), (496, .iadd, 1, (0, 0, 0, 0), 0, 0), (497, .iaload, 1, (0, 0, 0, 0), 0, 0), (498, .invokevirtual 42, 3, (187, 4, 2, 0), 0, 0), (501, .if_icmp .eq 1562, 3, (2063, 0, 0, 0), 0, 0), (504, .iconst 0, 1, (0, 0, 0, 0), 0, 0), (505, .ireturn, 1, (1, 0, 0, 0), 0, 0), (506, .aload_n 1, 1, (1, 0, 0, 0), 0, 0), (507, .aload_n 0, 1, (0, 0, 0, 0), 0, 0), (508, .iload_n 3, 1, (3, 0, 0, 0), 0, 0), (509, .iconst 1, 1, (0, 0, 0, 0), 1, 0), (510, .iadd, 1, (0, 0, 0, 0), 0, 0), (511, .iaload, 1, (0, 0, 0, 0), 0, 0), (512, .invokevirtual 43, 3, (73, 4, 1, 0), 0, 0), (515, .aload_n 2, 1, (2, 0, 0, 0), 0, 0), (516, .aload_n 0, 1, (0, 0, 0, 0), 0, 0), (517, .iload_n 3, 1, (3, 0, 0, 0), 0, 0), (518, .iconst 1, 1, (0, 0, 0, 0), 1, 0), (519, .iadd, 1, (0, 0, 0, 0), 0, 0), (520, .iaload, 1, (0, 0, 0, 0), 0, 0), (521, .invokevirtual 46, 3, (188, 4, 1, 0), 0, 0)])
set_option maxRecDepth 100000 in
noncomputable def z_kL10 : Nat × List (Nat × z_E) := (552, [(524, .if_icmp .eq 1539, 3, (2063, 0, 0, 0), 0, 0), (527, .iconst 0, 1, (0, 0, 0, 0), 0, 0), (528, .ireturn, 1, (1, 0, 0, 0), 0, 0), (529, .aload_n 1, 1, (1, 0, 0, 0), 0, 0), (530, .aload_n 0, 1, (0, 0, 0, 0), 0, 0), (531, .iload_n 3, 1, (3, 0, 0, 0), 0, 0), (532, .iconst 1, 1, (0, 0, 0, 0), 1, 0), (533, .iadd, 1, (0, 0, 0, 0), 0, 0), (534, .iaload, 1, (0, 0, 0, 0), 0, 0), (535, .aload_n 0, 1, (0, 0, 0, 0), 0, 0), (536, .iload_n 3, 1, (3, 0, 0, 0), 0, 0), (537, .iconst 2, 1, (0, 0, 0, 0), 2, 0), (538, .iadd, 1, (0, 0, 0, 0), 0, 0), (539, .iaload, 1, (0, 0, 0, 0), 0, 0), (540, .invokevirtual 47, 3, (74, 4, 2, 0), 0, 0), (543, .aload_n 2, 1, (2, 0, 0, 0), 0, 0), (544, .aload_n 0, 1, (0, 0, 0, 0), 0, 0), (545, .iload_n 3, 1, (3, 0, 0, 0), 0, 0), (546, .iconst 1, 1, (0, 0, 0, 0), 1, 0), (547, .iadd, 1, (0, 0, 0, 0), 0, 0), (548, .iaload, 1, (0, 0, 0, 0), 0, 0), (549, .aload_n 0, 1, (0, 0, 0, 0), 0, 0), (550, .iload_n 3, 1, (3, 0, 0, 0), 0, 0), (551, .iconst 2, 1, (0, 0, 0, 0), 2, 0)])
set_option maxRecDepth 100000 in
noncomputable def z_kL11 : Nat × List (Nat × z_E) := (582, [(552, .iadd, 1, (0, 0, 0, 0), 0, 0), (553, .iaload, 1, (0, 0, 0, 0), 0, 0), (554, .invokevirtual 50, 3, (190, 4, 2, 0), 0, 0), (557, .if_icmp .eq 1506, 3, (2063, 0, 0, 0), 0, 0), (560, .iconst 0, 1, (0, 0, 0, 0), 0, 0), (561, .ireturn, 1, (1, 0, 0, 0), 0, 0), (562, .aload_n 1, 1, (1, 0, 0, 0), 0, 0), (563, .aload_n 0, 1, (0, 0, 0, 0), 0, 0), (564, .iload_n 3, 1, (3, 0, 0, 0), 0, 0), (565, .iconst 1, 1, (0, 0, 0, 0), 1, 0), (566, .iadd, 1, (0, 0, 0, 0), 0, 0), (567, .iaload, 1, (0, 0, 0, 0), 0, 0), (568, .aload_n 0, 1, (0, 0, 0, 0), 0, 0), (569, .iload_n 3, 1, (3, 0, 0, 0), 0, 0), (570, .iconst 2, 1, (0, 0, 0, 0), 2, 0), (571, .iadd, 1, (0, 0, 0, 0), 0, 0), (572, .iaload, 1, (0, 0, 0, 0), 0, 0), (573, .invokevirtual 51, 3, (75, 4, 2, 0), 0, 0), (576, .aload_n 2, 1, (2, 0, 0, 0), 0, 0), (577, .aload_n 0, 1, (0, 0, 0, 0), 0, 0), (578, .iload_n 3, 1, (3, 0, 0, 0), 0, 0), (579, .iconst 1, 1, (0, 0, 0, 0), 1, 0), (580, .iadd, 1, (0, 0, 0, 0), 0, 0), (581, .iaload, 1, (0, 0, 0, 0), 0, 0)])
set_option maxRecDepth 100000 in
noncomputable def z_kL12 : Nat × List (Nat × z_E) := (612, [(582, .aload_n 0, 1, (0, 0, 0, 0), 0, 0), (583, .iload_n 3, 1, (3, 0, 0, 0), 0, 0), (584, .iconst 2, 1, (0, 0, 0, 0), 2, 0), (585, .iadd, 1, (0, 0, 0, 0), 0, 0), (586, .iaload, 1, (0, 0, 0, 0), 0, 0), (587, .invokevirtual 54, 3, (191, 4, 2, 0), 0, 0), (590, .if_icmp .eq 1473, 3, (2063, 0, 0, 0), 0, 0), (593, .iconst 0, 1, (0, 0, 0, 0), 0, 0), (594, .ireturn, 1, (1, 0, 0, 0), 0, 0), (595, .aload_n 1, 1, (1, 0, 0, 0), 0, 0), (596, .aload_n 0, 1, (0, 0, 0, 0), 0, 0), (597, .iload_n 3, 1, (3, 0, 0, 0), 0, 0), (598, .iconst 1, 1, (0, 0, 0, 0), 1, 0), (599, .iadd, 1, (0, 0, 0, 0), 0, 0), (600, .iaload, 1, (0, 0, 0, 0), 0, 0), (601, .aload_n 0, 1, (0, 0, 0, 0), 0, 0), (602, .iload_n 3, 1, (3, 0, 0, 0), 0, 0), (603, .iconst 2, 1, (0, 0, 0, 0), 2, 0), (604, .iadd, 1, (0, 0, 0, 0), 0, 0), (605, .iaload, 1, (0, 0, 0, 0), 0, 0), (606, .invokevirtual 55, 3, (76, 4, 2, 0), 0, 0), (609, .aload_n 2, 1, (2, 0, 0, 0), 0, 0), (610, .aload_n 0, 1, (0, 0, 0, 0), 0, 0), (611, .iload_n 3, 1, (3, 0, 0, 0), 0, 0)])
set_option maxRecDepth 100000 in
noncomputable def z_kL13 : Nat × List (Nat × z_E) := (640, [(612, .iconst 1, 1, (0, 0, 0, 0), 1, 0), (613, .iadd, 1, (0, 0, 0, 0), 0, 0), (614, .iaload, 1, (0, 0, 0, 0), 0, 0), (615, .aload_n 0, 1, (0, 0, 0, 0), 0, 0), (616, .iload_n 3, 1, (3, 0, 0, 0), 0, 0), (617, .iconst 2, 1, (0, 0, 0, 0), 2, 0), (618, .iadd, 1, (0, 0, 0, 0), 0, 0), (619, .iaload, 1, (0, 0, 0, 0), 0, 0), (620, .invokevirtual 58, 3, (192, 4, 2, 0), 0, 0), (623, .if_icmp .eq 1440, 3, (2063, 0, 0, 0), 0, 0), (626, .iconst 0, 1, (0, 0, 0, 0), 0, 0), (627, .ireturn, 1, (1, 0, 0, 0), 0, 0), (628, .aload_n 1, 1, (1, 0, 0, 0), 0, 0), (629, .aload_n 0, 1, (0, 0, 0, 0), 0, 0), (630, .iload_n 3, 1, (3, 0, 0, 0), 0, 0), (631, .iconst 1, 1, (0, 0, 0, 0), 1, 0), (632, .iadd, 1, (0, 0, 0, 0), 0, 0), (633, .iaload, 1, (0, 0, 0, 0), 0, 0), (634, .aload_n 0, 1, (0, 0, 0, 0), 0, 0), (635, .iload_n 3, 1, (3, 0, 0, 0), 0, 0), (636, .iconst 2, 1, (0, 0, 0, 0), 2, 0), (637, .iadd, 1, (0, 0, 0, 0), 0, 0), (638, .iaload, 1, (0, 0, 0, 0), 0, 0), (639, .aload_n 0, 1, (0, 0, 0, 0), 0, 0)])
set_option maxRecDepth 100000 in
noncomputable def z_kL14 : Nat × List (Nat × z_E) := (670, [(640, .iload_n 3, 1, (3, 0, 0, 0), 0, 0), (641, .iconst 3, 1, (0, 0, 0, 0), 3, 0), (642, .iadd, 1, (0, 0, 0, 0), 0, 0), (643, .iaload, 1, (0, 0, 0, 0), 0, 0), (644, .invokevirtual 59, 3, (77, 4, 3, 0), 0, 0), (647, .aload_n 2, 1, (2, 0, 0, 0), 0, 0), (648, .aload_n 0, 1, (0, 0, 0, 0), 0, 0), (649, .iload_n 3, 1, (3, 0, 0, 0), 0, 0), (650, .iconst 1, 1, (0, 0, 0, 0), 1, 0), (651, .iadd, 1, (0, 0, 0, 0), 0, 0), (652, .iaload, 1, (0, 0, 0, 0), 0, 0), (653, .aload_n 0, 1, (0, 0, 0, 0), 0, 0), (654, .iload_n 3, 1, (3, 0, 0, 0), 0, 0), (655, .iconst 2, 1, (0, 0, 0, 0), 2, 0), (656, .iadd, 1, (0, 0, 0, 0), 0, 0), (657, .iaload, 1, (0, 0, 0, 0), 0, 0), (658, .aload_n 0, 1, (0, 0, 0, 0), 0, 0), (659, .iload_n 3, 1, (3, 0, 0, 0), 0, 0), (660, .iconst 3, 1, (0, 0, 0, 0), 3, 0), (661, .iadd, 1, (0, 0, 0, 0), 0, 0), (662, .iaload, 1, (0, 0, 0, 0), 0, 0), (663, .invokevirtual 63, 3, (197, 4, 3, 0), 0, 0), (666, .if_icmp .eq 1397, 3, (2063, 0, 0, 0), 0, 0), (669, .iconst 0, 1, (0, 0, 0, 0), 0, 0)])
set_option maxRecDepth 100000 in
noncomputable def z_kL15 : Nat × List (Nat × z_E) := (696, [(670, .ireturn, 1, (1, 0, 0, 0), 0, 0), (671, .aload_n 1, 1, (1, 0, 0, 0), 0, 0), (672, .aload_n 0, 1, (0, 0, 0, 0), 0, 0), (673, .iload_n 3, 1, (3, 0, 0, 0), 0, 0), (674, .iconst 1, 1, (0, 0, 0, 0), 1, 0), (675, .iadd, 1, (0, 0, 0, 0), 0, 0), (676, .iaload, 1, (0, 0, 0, 0), 0, 0), (677, .aload_n 0, 1, (0, 0, 0, 0), 0, 0), (678, .iload_n 3, 1, (3, 0, 0, 0), 0, 0), (679, .iconst 2, 1, (0, 0, 0, 0), 2, 0), (680, .iadd, 1, (0, 0, 0, 0), 0, 0), (681, .iaload, 1, (0, 0, 0, 0), 0, 0), (682, .aload_n 0, 1, (0, 0, 0, 0), 0, 0), (683, .iload_n 3, 1, (3, 0, 0, 0), 0, 0), (684, .iconst 3, 1, (0, 0, 0, 0), 3, 0), (685, .iadd, 1, (0, 0, 0, 0), 0, 0), (686, .iaload, 1, (0, 0, 0, 0), 0, 0), (687, .aload_n 0, 1, (0, 0, 0, 0), 0, 0), (688, .iload_n 3, 1, (3, 0, 0, 0), 0, 0), (689, .iconst 4, 1, (0, 0, 0, 0), 4, 0), (690, .iadd, 1, (0, 0, 0, 0), 0, 0), (691, .iaload, 1, (0, 0, 0, 0), 0, 0), (692, .invokevirtual 64, 3, (78, 4, 4, 0), 0, 0), (695, .aload_n 2, 1, (2, 0, 0, 0), 0, 0)])
set_option maxRecDepth 100000 in
noncomputable def z_kL16 : Nat × List (Nat × z_E) := (724, [(696, .aload_n 0, 1, (0, 0, 0, 0), 0, 0), (697, .iload_n 3, 1, (3, 0, 0, 0), 0, 0), (698, .iconst 1, 1, (0, 0, 0, 0), 1, 0), (699, .iadd, 1, (0, 0, 0, 0), 0, 0), (700, .iaload, 1, (0, 0, 0, 0), 0, 0), (701, .aload_n 0, 1, (0, 0, 0, 0), 0, 0), (702, .iload_n 3, 1, (3, 0, 0, 0), 0, 0), (703, .iconst 2, 1, (0, 0, 0, 0), 2, 0), (704, .iadd, 1, (0, 0, 0, 0), 0, 0), (705, .iaload, 1, (0, 0, 0, 0), 0, 0), (706, .aload_n 0, 1, (0, 0, 0, 0), 0, 0), (707, .iload_n 3, 1, (3, 0, 0, 0), 0, 0), (708, .iconst 3, 1, (0, 0, 0, 0), 3, 0), (709, .iadd, 1, (0, 0, 0, 0), 0, 0), (710, .iaload, 1, (0, 0, 0, 0), 0, 0), (711, .aload_n 0, 1, (0, 0, 0, 0), 0, 0), (712, .iload_n 3, 1, (3, 0, 0, 0), 0, 0), (713, .iconst 4, 1, (0, 0, 0, 0), 4, 0), (714, .iadd, 1, (0, 0, 0, 0), 0, 0), (715, .iaload, 1, (0, 0, 0, 0), 0, 0), (716, .invokevirtual 68, 3, (200, 4, 4, 0), 0, 0), (719, .if_icmp .eq 1344, 3, (2063, 0, 0, 0), 0, 0), (722, .iconst 0, 1, (0, 0, 0, 0), 0, 0), (723, .ireturn, 1, (1, 0, 0, 0), 0, 0)])
set_option maxRecDepth 100000 in
noncomputable def z_kL17 : Nat × List (Nat × z_E) := (748, [(724, .aload_n 1, 1, (1, 0, 0, 0), 0, 0), (725, .aload_n 0, 1, (0, 0, 0, 0), 0, 0), (726, .iload_n 3, 1, (3, 0, 0, 0), 0, 0), (727, .iconst 1, 1, (0, 0, 0, 0), 1, 0), (728, .iadd, 1, (0, 0, 0, 0), 0, 0), (729, .iaload, 1, (0, 0, 0, 0), 0, 0), (730, .aload_n 0, 1, (0, 0, 0, 0), 0, 0), (731, .iload_n 3, 1, (3, 0, 0, 0), 0, 0), (732, .iconst 2, 1, (0, 0, 0, 0), 2, 0), (733, .iadd, 1, (0, 0, 0, 0), 0, 0), (734, .iaload, 1, (0, 0, 0, 0), 0, 0), (735, .aload_n 0, 1, (0, 0, 0, 0), 0, 0), (736, .iload_n 3, 1, (3, 0, 0, 0), 0, 0), (737, .iconst 3, 1, (0, 0, 0, 0), 3, 0), (738, .iadd, 1, (0, 0, 0, 0), 0, 0), (739, .iaload, 1, (0, 0, 0, 0), 0, 0), (740, .aload_n 0, 1, (0, 0, 0, 0), 0, 0), (741, .iload_n 3, 1, (3, 0, 0, 0), 0, 0), (742, .iconst 4, 1, (0, 0, 0, 0), 4, 0), (743, .iadd, 1, (0, 0, 0, 0), 0, 0), (744, .iaload, 1, (0, 0, 0, 0), 0, 0), (745, .aload_n 0, 1, (0, 0, 0, 0), 0, 0), (746, .iload_n 3, 1, (3, 0, 0, 0), 0, 0), (747, .iconst 5, 1, (0, 0, 0, 0), 5, 0)])
set_option maxRecDepth 100000 in
noncomputable def z_kL18 : Nat × List (Nat × z_E) := (774, [(748, .iadd, 1, (0, 0, 0, 0), 0, 0), (749, .iaload, 1, (0, 0, 0, 0), 0, 0), (750, .invokevirtual 69, 3, (79, 4, 5, 0), 0, 0), (753, .aload_n 2, 1, (2, 0, 0, 0), 0, 0), (754, .aload_n 0, 1, (0, 0, 0, 0), 0, 0), (755, .iload_n 3, 1, (3, 0, 0, 0), 0, 0), (756, .iconst 1, 1, (0, 0, 0, 0), 1, 0), (757, .iadd, 1, (0, 0, 0, 0), 0, 0), (758, .iaload, 1, (0, 0, 0, 0), 0, 0), (759, .aload_n 0, 1, (0, 0, 0, 0), 0, 0), (760, .iload_n 3, 1, (3, 0, 0, 0), 0, 0), (761, .iconst 2, 1, (0, 0, 0, 0), 2, 0), (762, .iadd, 1, (0, 0, 0, 0), 0, 0), (763, .iaload, 1, (0, 0, 0, 0), 0, 0), (764, .aload_n 0, 1, (0, 0, 0, 0), 0, 0), (765, .iload_n 3, 1, (3, 0, 0, 0), 0, 0), (766, .iconst 3, 1, (0, 0, 0, 0), 3, 0), (767, .iadd, 1, (0, 0, 0, 0), 0, 0), (768, .iaload, 1, (0, 0, 0, 0), 0, 0), (769, .aload_n 0, 1, (0, 0, 0, 0), 0, 0), (770, .iload_n 3, 1, (3, 0, 0, 0), 0, 0), (771, .iconst 4, 1, (0, 0, 0, 0), 4, 0), (772, .iadd, 1, (0, 0, 0, 0), 0, 0), (773, .iaload, 1, (0, 0, 0, 0), 0, 0)])
set_option maxRecDepth 100000 in
noncomputable def z_kL19 : Nat × List (Nat × z_E) := (802, [(774, .aload_n 0, 1, (0, 0, 0, 0), 0, 0), (775, .iload_n 3, 1, (3, 0, 0, 0), 0, 0), (776, .iconst 5, 1, (0, 0, 0, 0), 5, 0), (777, .iadd, 1, (0, 0, 0, 0), 0, 0), (778, .iaload, 1, (0, 0, 0, 0), 0, 0), (779, .invokevirtual 73, 3, (203, 4, 5, 0), 0, 0), (782, .if_icmp .eq 1281, 3, (2063, 0, 0, 0), 0, 0), (785, .iconst 0, 1, (0, 0, 0, 0), 0, 0), (786, .ireturn, 1, (1, 0, 0, 0), 0, 0), (787, .aload_n 1, 1, (1, 0, 0, 0), 0, 0), (788, .aload_n 0, 1, (0, 0, 0, 0), 0, 0), (789, .iload_n 3, 1, (3, 0, 0, 0), 0, 0), (790, .iconst 1, 1, (0, 0, 0, 0), 1, 0), (791, .iadd, 1, (0, 0, 0, 0), 0, 0), (792, .iaload, 1, (0, 0, 0, 0), 0, 0), (793, .aload_n 0, 1, (0, 0, 0, 0), 0, 0), (794, .iload_n 3, 1, (3, 0, 0, 0), 0, 0), (795, .iconst 2, 1, (0, 0, 0, 0), 2, 0), (796, .iadd, 1, (0, 0, 0, 0), 0, 0), (797, .iaload, 1, (0, 0, 0, 0), 0, 0), (798, .aload_n 0, 1, (0, 0, 0, 0), 0, 0), (799, .iload_n 3, 1, (3, 0, 0, 0), 0, 0), (800, .iconst 3, 1, (0, 0, 0, 0), 3, 0), (801, .iadd, 1, (0, 0, 0, 0), 0, 0)])
set_option maxRecDepth 100000 in
noncomputable def z_kL20 : Nat × List (Nat × z_E) := (834, [(802, .iaload, 1, (0, 0, 0, 0), 0, 0), (803, .ifCond .eq 7, 3, (810, 0, 0, 0), 0, 0), (806, .iconst 1, 1, (0, 0, 0, 0), 1, 0), (807, .goto 4, 3, (811, 0, 0, 0), 0, 0), (810, .iconst 0, 1, (0, 0, 0, 0), 0, 0), (811, .invokevirtual 74, 3, (80, 4, 3, 0), 0, 0), (814, .aload_n 2, 1, (2, 0, 0, 0), 0, 0), (815, .aload_n 0, 1, (0, 0, 0, 0), 0, 0), (816, .iload_n 3, 1, (3, 0, 0, 0), 0, 0), (817, .iconst 1, 1, (0, 0, 0, 0), 1, 0), (818, .iadd, 1, (0, 0, 0, 0), 0, 0), (819, .iaload, 1, (0, 0, 0, 0), 0, 0), (820, .aload_n 0, 1, (0, 0, 0, 0), 0, 0), (821, .iload_n 3, 1, (3, 0, 0, 0), 0, 0), (822, .iconst 2, 1, (0, 0, 0, 0), 2, 0), (823, .iadd, 1, (0, 0, 0, 0), 0, 0), (824, .iaload, 1, (0, 0, 0, 0), 0, 0), (825, .aload_n 0, 1, (0, 0, 0, 0), 0, 0), (826, .iload_n 3, 1, (3, 0, 0, 0), 0, 0), (827, .iconst 3, 1, (0, 0, 0, 0), 3, 0), (828, .iadd, 1, (0, 0, 0, 0), 0, 0), (829, .iaload, 1, (0, 0, 0, 0), 0, 0), (830, .ifCond .eq 7, 3, (837, 0, 0, 0), 0, 0), (833, .iconst 1, 1, (0, 0, 0, 0), 1, 0)])
set_option maxRecDepth 100000 in
noncomputable def z_kL21 : Nat × List (Nat × z_E) := (870, [(834, .goto 4, 3, (838, 0, 0, 0), 0, 0), (837, .iconst 0, 1, (0, 0, 0, 0), 0, 0), (838, .invokevirtual 78, 3, (205, 4, 3, 0), 0, 0), (841, .if_icmp .eq 1222, 3, (2063, 0, 0, 0), 0, 0), (844, .iconst 0, 1, (0, 0, 0, 0), 0, 0), (845, .ireturn, 1, (1, 0, 0, 0), 0, 0), (846, .aload_n 1, 1, (1, 0, 0, 0), 0, 0), (847, .aload_n 0, 1, (0, 0, 0, 0), 0, 0), (848, .iload_n 3, 1, (3, 0, 0, 0), 0, 0), (849, .iconst 1, 1, (0, 0, 0, 0), 1, 0), (850, .iadd, 1, (0, 0, 0, 0), 0, 0), (851, .iaload, 1, (0, 0, 0, 0), 0, 0), (852, .invokevirtual 79, 3, (81, 4, 1, 0), 0, 0), (855, .aload_n 2, 1, (2, 0, 0, 0), 0, 0), (856, .aload_n 0, 1, (0, 0, 0, 0), 0, 0), (857, .iload_n 3, 1, (3, 0, 0, 0), 0, 0), (858, .iconst 1, 1, (0, 0, 0, 0), 1, 0), (859, .iadd, 1, (0, 0, 0, 0), 0, 0), (860, .iaload, 1, (0, 0, 0, 0), 0, 0), (861, .invokevirtual 82, 3, (207, 4, 1, 0), 0, 0), (864, .if_icmp .eq 1199, 3, (2063, 0, 0, 0), 0, 0), (867, .iconst 0, 1, (0, 0, 0, 0), 0, 0), (868, .ireturn, 1, (1, 0, 0, 0), 0, 0), (869, .aload_n 1, 1, (1, 0, 0, 0), 0, 0)])
set_option maxRecDepth 100000 in
noncomputable def z_kL22 : Nat × List (Nat × z_E) := (900, [(870, .aload_n 0, 1, (0, 0, 0, 0), 0, 0), (871, .iload_n 3, 1, (3, 0, 0, 0), 0, 0), (872, .iconst 1, 1, (0, 0, 0, 0), 1, 0), (873, .iadd, 1, (0, 0, 0, 0), 0, 0), (874, .iaload, 1, (0, 0, 0, 0), 0, 0), (875, .invokevirtual 83, 3, (82, 4, 1, 0), 0, 0), (878, .aload_n 2, 1, (2, 0, 0, 0), 0, 0), (879, .aload_n 0, 1, (0, 0, 0, 0), 0, 0), (880, .iload_n 3, 1, (3, 0, 0, 0), 0, 0), (881, .iconst 1, 1, (0, 0, 0, 0), 1, 0), (882, .iadd, 1, (0, 0, 0, 0), 0, 0), (883, .iaload, 1, (0, 0, 0, 0), 0, 0), (884, .invokevirtual 86, 3, (209, 4, 1, 0), 0, 0), (887, .if_icmp .eq 1176, 3, (2063, 0, 0, 0), 0, 0), (890, .iconst 0, 1, (0, 0, 0, 0), 0, 0), (891, .ireturn, 1, (1, 0, 0, 0), 0, 0), (892, .aload_n 1, 1, (1, 0, 0, 0), 0, 0), (893, .aload_n 0, 1, (0, 0, 0, 0), 0, 0), (894, .iload_n 3, 1, (3, 0, 0, 0), 0, 0), (895, .iconst 1, 1, (0, 0, 0, 0), 1, 0), (896, .iadd, 1, (0, 0, 0, 0), 0, 0), (897, .iaload, 1, (0, 0, 0, 0), 0, 0), (898, .aload_n 0, 1, (0, 0, 0, 0), 0, 0), (899, .iload_n 3, 1, (3, 0, 0, 0), 0, 0)])
set_option maxRecDepth 100000 in
noncomputable def z_kL23 : Nat × List (Nat × z_E) := (926, [(900, .iconst 2, 1, (0, 0, 0, 0), 2, 0), (901, .iadd, 1, (0, 0, 0, 0), 0, 0), (902, .iaload, 1, (0, 0, 0, 0), 0, 0), (903, .aload_n 0, 1, (0, 0, 0, 0), 0, 0), (904, .iload_n 3, 1, (3, 0, 0, 0), 0, 0), (905, .iconst 3, 1, (0, 0, 0, 0), 3, 0), (906, .iadd, 1, (0, 0, 0, 0), 0, 0), (907, .iaload, 1, (0, 0, 0, 0), 0, 0), (908, .invokevirtual 87, 3, (83, 4, 3, 0), 0, 0), (911, .aload_n 2, 1, (2, 0, 0, 0), 0, 0), (912, .aload_n 0, 1, (0, 0, 0, 0), 0, 0), (913, .iload_n 3, 1, (3, 0, 0, 0), 0, 0), (914, .iconst 1, 1, (0, 0, 0, 0), 1, 0), (915, .iadd, 1, (0, 0, 0, 0), 0, 0), (916, .iaload, 1, (0, 0, 0, 0), 0, 0), (917, .aload_n 0, 1, (0, 0, 0, 0), 0, 0), (918, .iload_n 3, 1, (3, 0, 0, 0), 0, 0), (919, .iconst 2, 1, (0, 0, 0, 0), 2, 0), (920, .iadd, 1, (0, 0, 0, 0), 0, 0), (921, .iaload, 1, (0, 0, 0, 0), 0, 0), (922, .aload_n 0, 1, (0, 0, 0, 0), 0, 0), (923, .iload_n 3, 1, (3, 0, 0, 0), 0, 0), (924, .iconst 3, 1, (0, 0, 0, 0), 3, 0), (925, .iadd, 1, (0, 0, 0, 0), 0, 0)])
set_option maxRecDepth 100000 in
noncomputable def z_kL24 : Nat × List (Nat × z_E) := (960, [(926, .iaload, 1, (0, 0, 0, 0), 0, 0), (927, .invokevirtual 90, 3, (210, 4, 3, 0), 0, 0), (930, .if_icmp .eq 1133, 3, (2063, 0, 0, 0), 0, 0), (933, .iconst 0, 1, (0, 0, 0, 0), 0, 0), (934, .ireturn, 1, (1, 0, 0, 0), 0, 0), (935, .aload_n 1, 1, (1, 0, 0, 0), 0, 0), (936, .aload_n 0, 1, (0, 0, 0, 0), 0, 0), (937, .iload_n 3, 1, (3, 0, 0, 0), 0, 0), (938, .iconst 1, 1, (0, 0, 0, 0), 1, 0), (939, .iadd, 1, (0, 0, 0, 0), 0, 0), (940, .iaload, 1, (0, 0, 0, 0), 0, 0), (941, .invokevirtual 91, 3, (84, 4, 1, 0), 0, 0), (944, .aload_n 2, 1, (2, 0, 0, 0), 0, 0), (945, .aload_n 0, 1, (0, 0, 0, 0), 0, 0), (946, .iload_n 3, 1, (3, 0, 0, 0), 0, 0), (947, .iconst 1, 1, (0, 0, 0, 0), 1, 0), (948, .iadd, 1, (0, 0, 0, 0), 0, 0), (949, .iaload, 1, (0, 0, 0, 0), 0, 0), (950, .invokevirtual 94, 3, (211, 4, 1, 0), 0, 0), (953, .if_icmp .eq 1110, 3, (2063, 0, 0, 0), 0, 0), (956, .iconst 0, 1, (0, 0, 0, 0), 0, 0), (957, .ireturn, 1, (1, 0, 0, 0), 0, 0), (958, .aload_n 1, 1, (1, 0, 0, 0), 0, 0), (959, .aload_n 0, 1, (0, 0, 0, 0), 0, 0)])
set_option maxRecDepth 100000 in
noncomputable def z_kL25 : Nat × List (Nat × z_E) := (986, [(960, .iload_n 3, 1, (3, 0, 0, 0), 0, 0), (961, .iconst 1, 1, (0, 0, 0, 0), 1, 0), (962, .iadd, 1, (0, 0, 0, 0), 0, 0), (963, .iaload, 1, (0, 0, 0, 0), 0, 0), (964, .aload_n 0, 1, (0, 0, 0, 0), 0, 0), (965, .iload_n 3, 1, (3, 0, 0, 0), 0, 0), (966, .iconst 2, 1, (0, 0, 0, 0), 2, 0), (967, .iadd, 1, (0, 0, 0, 0), 0, 0), (968, .iaload, 1, (0, 0, 0, 0), 0, 0), (969, .aload_n 0, 1, (0, 0, 0, 0), 0, 0), (970, .iload_n 3, 1, (3, 0, 0, 0), 0, 0), (971, .iconst 3, 1, (0, 0, 0, 0), 3, 0), (972, .iadd, 1, (0, 0, 0, 0), 0, 0), (973, .iaload, 1, (0, 0, 0, 0), 0, 0), (974, .invokevirtual 95, 3, (85, 4, 3, 0), 0, 0), (977, .aload_n 2, 1, (2, 0, 0, 0), 0, 0), (978, .aload_n 0, 1, (0, 0, 0, 0), 0, 0), (979, .iload_n 3, 1, (3, 0, 0, 0), 0, 0), (980, .iconst 1, 1, (0, 0, 0, 0), 1, 0), (981, .iadd, 1, (0, 0, 0, 0), 0, 0), (982, .iaload, 1, (0, 0, 0, 0), 0, 0), (983, .aload_n 0, 1, (0, 0, 0, 0), 0, 0), (984, .iload_n 3, 1, (3, 0, 0, 0), 0, 0), (985, .iconst 2, 1, (0, 0, 0, 0), 2, 0)])
set_option maxRecDepth 100000 in
noncomputable def z_kL26 : Nat × List (Nat × z_E) := (1020, [(986, .iadd, 1, (0, 0, 0, 0), 0, 0), (987, .iaload, 1, (0, 0, 0, 0), 0, 0), (988, .aload_n 0, 1, (0, 0, 0, 0), 0, 0), (989, .iload_n 3, 1, (3, 0, 0, 0), 0, 0), (990, .iconst 3, 1, (0, 0, 0, 0), 3, 0), (991, .iadd, 1, (0, 0, 0, 0), 0, 0), (992, .iaload, 1, (0, 0, 0, 0), 0, 0), (993, .invokevirtual 98, 3, (212, 4, 3, 0), 0, 0), (996, .if_icmp .eq 1067, 3, (2063, 0, 0, 0), 0, 0), (999, .iconst 0, 1, (0, 0, 0, 0), 0, 0), (1000, .ireturn, 1, (1, 0, 0, 0), 0, 0), (1001, .aload_n 1, 1, (1, 0, 0, 0), 0, 0), (1002, .invokevirtual 99, 3, (86, 4, 0, 0), 0, 0), (1005, .aload_n 2, 1, (2, 0, 0, 0), 0, 0), (1006, .invokevirtual 103, 3, (213, 4, 0, 0), 0, 0), (1009, .if_icmp .eq 1054, 3, (2063, 0, 0, 0), 0, 0), (1012, .iconst 0, 1, (0, 0, 0, 0), 0, 0), (1013, .ireturn, 1, (1, 0, 0, 0), 0, 0), (1014, .aload_n 1, 1, (1, 0, 0, 0), 0, 0), (1015, .aload_n 0, 1, (0, 0, 0, 0), 0, 0), (1016, .iload_n 3, 1, (3, 0, 0, 0), 0, 0), (1017, .iconst 1, 1, (0, 0, 0, 0), 1, 0), (1018, .iadd, 1, (0, 0, 0, 0), 0, 0), (1019, .iaload, 1, (0, 0, 0, 0), 0, 0)])
set_option maxRecDepth 100000 in
noncomputable def z_kL27 : Nat × List (Nat × z_E) := (1046, [(1020, .aload_n 0, 1, (0, 0, 0, 0), 0, 0), (1021, .iload_n 3, 1, (3, 0, 0, 0), 0, 0), (1022, .iconst 2, 1, (0, 0, 0, 0), 2, 0), (1023, .iadd, 1, (0, 0, 0, 0), 0, 0), (1024, .iaload, 1, (0, 0, 0, 0), 0, 0), (1025, .aload_n 0, 1, (0, 0, 0, 0), 0, 0), (1026, .iload_n 3, 1, (3, 0, 0, 0), 0, 0), (1027, .iconst 3, 1, (0, 0, 0, 0), 3, 0), (1028, .iadd, 1, (0, 0, 0, 0), 0, 0), (1029, .iaload, 1, (0, 0, 0, 0), 0, 0), (1030, .invokevirtual 104, 3, (87, 4, 3, 0), 0, 0), (1033, .aload_n 2, 1, (2, 0, 0, 0), 0, 0), (1034, .aload_n 0, 1, (0, 0, 0, 0), 0, 0), (1035, .iload_n 3, 1, (3, 0, 0, 0), 0, 0), (1036, .iconst 1, 1, (0, 0, 0, 0), 1, 0), (1037, .iadd, 1, (0, 0, 0, 0), 0, 0), (1038, .iaload, 1, (0, 0, 0, 0), 0, 0), (1039, .aload_n 0, 1, (0, 0, 0, 0), 0, 0), (1040, .iload_n 3, 1, (3, 0, 0, 0), 0, 0), (1041, .iconst 2, 1, (0, 0, 0, 0), 2, 0), (1042, .iadd, 1, (0, 0, 0, 0), 0, 0), (1043, .iaload, 1, (0, 0, 0, 0), 0, 0), (1044, .aload_n 0, 1, (0, 0, 0, 0), 0, 0), (1045, .iload_n 3, 1, (3, 0, 0, 0), 0, 0)])
set_option maxRecDepth 100000 in
noncomputable def z_kL28 : Nat × List (Nat × z_E) := (1082, [(1046, .iconst 3, 1, (0, 0, 0, 0), 3, 0), (1047, .iadd, 1, (0, 0, 0, 0), 0, 0), (1048, .iaload, 1, (0, 0, 0, 0), 0, 0), (1049, .invokevirtual 108, 3, (218, 4, 3, 0), 0, 0), (1052, .lcmp, 1, (0, 0, 0, 0), 0, 0), (1053, .ifCond .eq 1010, 3, (2063, 0, 0, 0), 0, 0), (1056, .iconst 0, 1, (0, 0, 0, 0), 0, 0), (1057, .ireturn, 1, (1, 0, 0, 0), 0, 0), (1058, .aload_n 1, 1, (1, 0, 0, 0), 0, 0), (1059, .invokevirtual 109, 3, (88, 4, 0, 0), 0, 0), (1062, .aload_n 2, 1, (2, 0, 0, 0), 0, 0), (1063, .invokevirtual 112, 3, (220, 4, 0, 0), 0, 0), (1066, .if_icmp .eq 997, 3, (2063, 0, 0, 0), 0, 0), (1069, .iconst 0, 1, (0, 0, 0, 0), 0, 0), (1070, .ireturn, 1, (1, 0, 0, 0), 0, 0), (1071, .aload_n 1, 1, (1, 0, 0, 0), 0, 0), (1072, .aload_n 0, 1, (0, 0, 0, 0), 0, 0), (1073, .iload_n 3, 1, (3, 0, 0, 0), 0, 0), (1074, .iconst 1, 1, (0, 0, 0, 0), 1, 0), (1075, .iadd, 1, (0, 0, 0, 0), 0, 0), (1076, .iaload, 1, (0, 0, 0, 0), 0, 0), (1077, .invokevirtual 113, 3, (89, 4, 1, 0), 0, 0), (1080, .aload_n 2, 1, (2, 0, 0, 0), 0, 0), (1081, .aload_n 0, 1, (0, 0, 0, 0), 0, 0)])
set_option maxRecDepth 100000 in
noncomputable def z_kL29 : Nat × List (Nat × z_E) := (1112, [(1082, .iload_n 3, 1, (3, 0, 0, 0), 0, 0), (1083, .iconst 1, 1, (0, 0, 0, 0), 1, 0), (1084, .iadd, 1, (0, 0, 0, 0), 0, 0), (1085, .iaload, 1, (0, 0, 0, 0), 0, 0), (1086, .invokevirtual 116, 3, (221, 4, 1, 0), 0, 0), (1089, .if_icmp .eq 974, 3, (2063, 0, 0, 0), 0, 0), (1092, .iconst 0, 1, (0, 0, 0, 0), 0, 0), (1093, .ireturn, 1, (1, 0, 0, 0), 0, 0), (1094, .aload_n 1, 1, (1, 0, 0, 0), 0, 0), (1095, .aload_n 0, 1, (0, 0, 0, 0), 0, 0), (1096, .iload_n 3, 1, (3, 0, 0, 0), 0, 0), (1097, .iconst 1, 1, (0, 0, 0, 0), 1, 0), (1098, .iadd, 1, (0, 0, 0, 0), 0, 0), (1099, .iaload, 1, (0, 0, 0, 0), 0, 0), (1100, .aload_n 0, 1, (0, 0, 0, 0), 0, 0), (1101, .iload_n 3, 1, (3, 0, 0, 0), 0, 0), (1102, .iconst 2, 1, (0, 0, 0, 0), 2, 0), (1103, .iadd, 1, (0, 0, 0, 0), 0, 0), (1104, .iaload, 1, (0, 0, 0, 0), 0, 0), (1105, .invokevirtual 117, 3, (90, 4, 2, 0), 0, 0), (1108, .aload_n 2, 1, (2, 0, 0, 0), 0, 0), (1109, .aload_n 0, 1, (0, 0, 0, 0), 0, 0), (1110, .iload_n 3, 1, (3, 0, 0, 0), 0, 0), (1111, .iconst 1, 1, (0, 0, 0, 0), 1, 0)])
set_option maxRecDepth 100000 in
noncomputable def z_kL30 : Nat × List (Nat × z_E) := (1142, [(1112, .iadd, 1, (0, 0, 0, 0), 0, 0), (1113, .iaload, 1, (0, 0, 0, 0), 0, 0), (1114, .aload_n 0, 1, (0, 0, 0, 0), 0, 0), (1115, .iload_n 3, 1, (3, 0, 0, 0), 0, 0), (1116, .iconst 2, 1, (0, 0, 0, 0), 2, 0), (1117, .iadd, 1, (0, 0, 0, 0), 0, 0), (1118, .iaload, 1, (0, 0, 0, 0), 0, 0), (1119, .invokevirtual 120, 3, (224, 4, 2, 0), 0, 0), (1122, .if_icmp .eq 941, 3, (2063, 0, 0, 0), 0, 0), (1125, .iconst 0, 1, (0, 0, 0, 0), 0, 0), (1126, .ireturn, 1, (1, 0, 0, 0), 0, 0), (1127, .aload_n 1, 1, (1, 0, 0, 0), 0, 0), (1128, .aload_n 0, 1, (0, 0, 0, 0), 0, 0), (1129, .iload_n 3, 1, (3, 0, 0, 0), 0, 0), (1130, .iconst 1, 1, (0, 0, 0, 0), 1, 0), (1131, .iadd, 1, (0, 0, 0, 0), 0, 0), (1132, .iaload, 1, (0, 0, 0, 0), 0, 0), (1133, .aload_n 0, 1, (0, 0, 0, 0), 0, 0), (1134, .iload_n 3, 1, (3, 0, 0, 0), 0, 0), (1135, .iconst 2, 1, (0, 0, 0, 0), 2, 0), (1136, .iadd, 1, (0, 0, 0, 0), 0, 0), (1137, .iaload, 1, (0, 0, 0, 0), 0, 0), (1138, .invokevirtual 121, 3, (91, 4, 2, 0), 0, 0), (1141, .aload_n 2, 1, (2, 0, 0, 0), 0, 0)])
set_option maxRecDepth 100000 in
noncomputable def z_kL31 : Nat × List (Nat × z_E) := (1170, [(1142, .aload_n 0, 1, (0, 0, 0, 0), 0, 0), (1143, .iload_n 3, 1, (3, 0, 0, 0), 0, 0), (1144, .iconst 1, 1, (0, 0, 0, 0), 1, 0), (1145, .iadd, 1, (0, 0, 0, 0), 0, 0), (1146, .iaload, 1, (0, 0, 0, 0), 0, 0), (1147, .aload_n 0, 1, (0, 0, 0, 0), 0, 0), (1148, .iload_n 3, 1, (3, 0, 0, 0), 0, 0), (1149, .iconst 2, 1, (0, 0, 0, 0), 2, 0), (1150, .iadd, 1, (0, 0, 0, 0), 0, 0), (1151, .iaload, 1, (0, 0, 0, 0), 0, 0), (1152, .invokevirtual 124, 3, (225, 4, 2, 0), 0, 0), (1155, .if_icmp .eq 908, 3, (2063, 0, 0, 0), 0, 0), (1158, .iconst 0, 1, (0, 0, 0, 0), 0, 0), (1159, .ireturn, 1, (1, 0, 0, 0), 0, 0), (1160, .aload_n 1, 1, (1, 0, 0, 0), 0, 0), (1161, .aload_n 0, 1, (0, 0, 0, 0), 0, 0), (1162, .iload_n 3, 1, (3, 0, 0, 0), 0, 0), (1163, .iconst 1, 1, (0, 0, 0, 0), 1, 0), (1164, .iadd, 1, (0, 0, 0, 0), 0, 0), (1165, .iaload, 1, (0, 0, 0, 0), 0, 0), (1166, .aload_n 0, 1, (0, 0, 0, 0), 0, 0), (1167, .iload_n 3, 1, (3, 0, 0, 0), 0, 0), (1168, .iconst 2, 1, (0, 0, 0, 0), 2, 0), (1169, .iadd, 1, (0, 0, 0, 0), 0, 0)])
set_option maxRecDepth 100000 in
noncomputable def z_kL32 : Nat × List (Nat × z_E) := (1202, [(1170, .iaload, 1, (0, 0, 0, 0), 0, 0), (1171, .invokevirtual 125, 3, (92, 4, 2, 0), 0, 0), (1174, .aload_n 2, 1, (2, 0, 0, 0), 0, 0), (1175, .aload_n 0, 1, (0, 0, 0, 0), 0, 0), (1176, .iload_n 3, 1, (3, 0, 0, 0), 0, 0), (1177, .iconst 1, 1, (0, 0, 0, 0), 1, 0), (1178, .iadd, 1, (0, 0, 0, 0), 0, 0), (1179, .iaload, 1, (0, 0, 0, 0), 0, 0), (1180, .aload_n 0, 1, (0, 0, 0, 0), 0, 0), (1181, .iload_n 3, 1, (3, 0, 0, 0), 0, 0), (1182, .iconst 2, 1, (0, 0, 0, 0), 2, 0), (1183, .iadd, 1, (0, 0, 0, 0), 0, 0), (1184, .iaload, 1, (0, 0, 0, 0), 0, 0), (1185, .invokevirtual 128, 3, (226, 4, 2, 0), 0, 0), (1188, .if_icmp .eq 875, 3, (2063, 0, 0, 0), 0, 0), (1191, .iconst 0, 1, (0, 0, 0, 0), 0, 0), (1192, .ireturn, 1, (1, 0, 0, 0), 0, 0), (1193, .aload_n 1, 1, (1, 0, 0, 0), 0, 0), (1194, .aload_n 0, 1, (0, 0, 0, 0), 0, 0), (1195, .iload_n 3, 1, (3, 0, 0, 0), 0, 0), (1196, .iconst 1, 1, (0, 0, 0, 0), 1, 0), (1197, .iadd, 1, (0, 0, 0, 0), 0, 0), (1198, .iaload, 1, (0, 0, 0, 0), 0, 0), (1199, .invokevirtual 129, 3, (93, 4, 1, 0), 0, 0)])
set_option maxRecDepth 100000 in
noncomputable def z_kL33 : Nat × List (Nat × z_E) := (1230, [(1202, .aload_n 2, 1, (2, 0, 0, 0), 0, 0), (1203, .aload_n 0, 1, (0, 0, 0, 0), 0, 0), (1204, .iload_n 3, 1, (3, 0, 0, 0), 0, 0), (1205, .iconst 1, 1, (0, 0, 0, 0), 1, 0), (1206, .iadd, 1, (0, 0, 0, 0), 0, 0), (1207, .iaload, 1, (0, 0, 0, 0), 0, 0), (1208, .invokevirtual 132, 3, (227, 4, 1, 0), 0, 0), (1211, .if_icmp .eq 852, 3, (2063, 0, 0, 0), 0, 0), (1214, .iconst 0, 1, (0, 0, 0, 0), 0, 0), (1215, .ireturn, 1, (1, 0, 0, 0), 0, 0), (1216, .aload_n 1, 1, (1, 0, 0, 0), 0, 0), (1217, .aload_n 0, 1, (0, 0, 0, 0), 0, 0), (1218, .iload_n 3, 1, (3, 0, 0, 0), 0, 0), (1219, .iconst 1, 1, (0, 0, 0, 0), 1, 0), (1220, .iadd, 1, (0, 0, 0, 0), 0, 0), (1221, .iaload, 1, (0, 0, 0, 0), 0, 0), (1222, .aload_n 0, 1, (0, 0, 0, 0), 0, 0), (1223, .iload_n 3, 1, (3, 0, 0, 0), 0, 0), (1224, .iconst 2, 1, (0, 0, 0, 0), 2, 0), (1225, .iadd, 1, (0, 0, 0, 0), 0, 0), (1226, .iaload, 1, (0, 0, 0, 0), 0, 0), (1227, .aload_n 0, 1, (0, 0, 0, 0), 0, 0), (1228, .iload_n 3, 1, (3, 0, 0, 0), 0, 0), (1229, .iconst 3, 1, (0, 0, 0, 0), 3, 0)])
set_option maxRecDepth 100000 in
noncomputable def z_kL34 : Nat × List (Nat × z_E) := (1260, [(1230, .iadd, 1, (0, 0, 0, 0), 0, 0), (1231, .iaload, 1, (0, 0, 0, 0), 0, 0), (1232, .invokevirtual 133, 3, (94, 4, 3, 0), 0, 0), (1235, .aload_n 2, 1, (2, 0, 0, 0), 0, 0), (1236, .aload_n 0, 1, (0, 0, 0, 0), 0, 0), (1237, .iload_n 3, 1, (3, 0, 0, 0), 0, 0), (1238, .iconst 1, 1, (0, 0, 0, 0), 1, 0), (1239, .iadd, 1, (0, 0, 0, 0), 0, 0), (1240, .iaload, 1, (0, 0, 0, 0), 0, 0), (1241, .aload_n 0, 1, (0, 0, 0, 0), 0, 0), (1242, .iload_n 3, 1, (3, 0, 0, 0), 0, 0), (1243, .iconst 2, 1, (0, 0, 0, 0), 2, 0), (1244, .iadd, 1, (0, 0, 0, 0), 0, 0), (1245, .iaload, 1, (0, 0, 0, 0), 0, 0), (1246, .aload_n 0, 1, (0, 0, 0, 0), 0, 0), (1247, .iload_n 3, 1, (3, 0, 0, 0), 0, 0), (1248, .iconst 3, 1, (0, 0, 0, 0), 3, 0), (1249, .iadd, 1, (0, 0, 0, 0), 0, 0), (1250, .iaload, 1, (0, 0, 0, 0), 0, 0), (1251, .invokevirtual 136, 3, (230, 4, 3, 0), 0, 0), (1254, .if_icmp .eq 809, 3, (2063, 0, 0, 0), 0, 0), (1257, .iconst 0, 1, (0, 0, 0, 0), 0, 0), (1258, .ireturn, 1, (1, 0, 0, 0), 0, 0), (1259, .aload_n 1, 1, (1, 0, 0, 0), 0, 0)])
set_option maxRecDepth 100000 in
noncomputable def z_kL35 : Nat × List (Nat × z_E) := (1290, [(1260, .aload_n 0, 1, (0, 0, 0, 0), 0, 0), (1261, .iload_n 3, 1, (3, 0, 0, 0), 0, 0), (1262, .iconst 1, 1, (0, 0, 0, 0), 1, 0), (1263, .iadd, 1, (0, 0, 0, 0), 0, 0), (1264, .iaload, 1, (0, 0, 0, 0), 0, 0), (1265, .aload_n 0, 1, (0, 0, 0, 0), 0, 0), (1266, .iload_n 3, 1, (3, 0, 0, 0), 0, 0), (1267, .iconst 2, 1, (0, 0, 0, 0), 2, 0), (1268, .iadd, 1, (0, 0, 0, 0), 0, 0), (1269, .iaload, 1, (0, 0, 0, 0), 0, 0), (1270, .invokevirtual 137, 3, (95, 4, 2, 0), 0, 0), (1273, .aload_n 2, 1, (2, 0, 0, 0), 0, 0), (1274, .aload_n 0, 1, (0, 0, 0, 0), 0, 0), (1275, .iload_n 3, 1, (3, 0, 0, 0), 0, 0), (1276, .iconst 1, 1, (0, 0, 0, 0), 1, 0), (1277, .iadd, 1, (0, 0, 0, 0), 0, 0), (1278, .iaload, 1, (0, 0, 0, 0), 0, 0), (1279, .aload_n 0, 1, (0, 0, 0, 0), 0, 0), (1280, .iload_n 3, 1, (3, 0, 0, 0), 0, 0), (1281, .iconst 2, 1, (0, 0, 0, 0), 2, 0), (1282, .iadd, 1, (0, 0, 0, 0), 0, 0), (1283, .iaload, 1, (0, 0, 0, 0), 0, 0), (1284, .invokevirtual 140, 3, (231, 4, 2, 0), 0, 0), (1287, .if_icmp .eq 776, 3, (2063, 0, 0, 0), 0, 0)])
set_option maxRecDepth 100000 in
noncomputable def z_kL36 : Nat × List (Nat × z_E) := (1316, [(1290, .iconst 0, 1, (0, 0, 0, 0), 0, 0), (1291, .ireturn, 1, (1, 0, 0, 0), 0, 0), (1292, .aload_n 1, 1, (1, 0, 0, 0), 0, 0), (1293, .aload_n 0, 1, (0, 0, 0, 0), 0, 0), (1294, .iload_n 3, 1, (3, 0, 0, 0), 0, 0), (1295, .iconst 1, 1, (0, 0, 0, 0), 1, 0), (1296, .iadd, 1, (0, 0, 0, 0), 0, 0), (1297, .iaload, 1, (0, 0, 0, 0), 0, 0), (1298, .aload_n 0, 1, (0, 0, 0, 0), 0, 0), (1299, .iload_n 3, 1, (3, 0, 0, 0), 0, 0), (1300, .iconst 2, 1, (0, 0, 0, 0), 2, 0), (1301, .iadd, 1, (0, 0, 0, 0), 0, 0), (1302, .iaload, 1, (0, 0, 0, 0), 0, 0), (1303, .invokevirtual 141, 3, (96, 4, 2, 0), 0, 0), (1306, .aload_n 2, 1, (2, 0, 0, 0), 0, 0), (1307, .aload_n 0, 1, (0, 0, 0, 0), 0, 0), (1308, .iload_n 3, 1, (3, 0, 0, 0), 0, 0), (1309, .iconst 1, 1, (0, 0, 0, 0), 1, 0), (1310, .iadd, 1, (0, 0, 0, 0), 0, 0), (1311, .iaload, 1, (0, 0, 0, 0), 0, 0), (1312, .aload_n 0, 1, (0, 0, 0, 0), 0, 0), (1313, .iload_n 3, 1, (3, 0, 0, 0), 0, 0), (1314, .iconst 2, 1, (0, 0, 0, 0), 2, 0), (1315, .iadd, 1, (0, 0, 0, 0), 0, 0)])
set_option maxRecDepth 100000 in
noncomputable def z_kL37 : Nat × List (Nat × z_E) := (1346, [(1316, .iaload, 1, (0, 0, 0, 0), 0, 0), (1317, .invokevirtual 144, 3, (232, 4, 2, 0), 0, 0), (1320, .if_icmp .eq 743, 3, (2063, 0, 0, 0), 0, 0), (1323, .iconst 0, 1, (0, 0, 0, 0), 0, 0), (1324, .ireturn, 1, (1, 0, 0, 0), 0, 0), (1325, .aload_n 1, 1, (1, 0, 0, 0), 0, 0), (1326, .aload_n 0, 1, (0, 0, 0, 0), 0, 0), (1327, .iload_n 3, 1, (3, 0, 0, 0), 0, 0), (1328, .iconst 1, 1, (0, 0, 0, 0), 1, 0), (1329, .iadd, 1, (0, 0, 0, 0), 0, 0), (1330, .iaload, 1, (0, 0, 0, 0), 0, 0), (1331, .aload_n 0, 1, (0, 0, 0, 0), 0, 0), (1332, .iload_n 3, 1, (3, 0, 0, 0), 0, 0), (1333, .iconst 2, 1, (0, 0, 0, 0), 2, 0), (1334, .iadd, 1, (0, 0, 0, 0), 0, 0), (1335, .iaload, 1, (0, 0, 0, 0), 0, 0), (1336, .invokevirtual 145, 3, (97, 4, 2, 0), 0, 0), (1339, .aload_n 2, 1, (2, 0, 0, 0), 0, 0), (1340, .aload_n 0, 1, (0, 0, 0, 0), 0, 0), (1341, .iload_n 3, 1, (3, 0, 0, 0), 0, 0), (1342, .iconst 1, 1, (0, 0, 0, 0), 1, 0), (1343, .iadd, 1, (0, 0, 0, 0), 0, 0), (1344, .iaload, 1, (0, 0, 0, 0), 0, 0), (1345, .aload_n 0, 1, (0, 0, 0, 0), 0, 0)])
set_option maxRecDepth 100000 in
noncomputable def z_kL38 : Nat × List (Nat × z_E) := (1374, [(1346, .iload_n 3, 1, (3, 0, 0, 0), 0, 0), (1347, .iconst 2, 1, (0, 0, 0, 0), 2, 0), (1348, .iadd, 1, (0, 0, 0, 0), 0, 0), (1349, .iaload, 1, (0, 0, 0, 0), 0, 0), (1350, .invokevirtual 149, 3, (234, 4, 2, 0), 0, 0), (1353, .lcmp, 1, (0, 0, 0, 0), 0, 0), (1354, .ifCond .eq 709, 3, (2063, 0, 0, 0), 0, 0), (1357, .iconst 0, 1, (0, 0, 0, 0), 0, 0), (1358, .ireturn, 1, (1, 0, 0, 0), 0, 0), (1359, .aload_n 1, 1, (1, 0, 0, 0), 0, 0), (1360, .aload_n 0, 1, (0, 0, 0, 0), 0, 0), (1361, .iload_n 3, 1, (3, 0, 0, 0), 0, 0), (1362, .iconst 1, 1, (0, 0, 0, 0), 1, 0), (1363, .iadd, 1, (0, 0, 0, 0), 0, 0), (1364, .iaload, 1, (0, 0, 0, 0), 0, 0), (1365, .aload_n 0, 1, (0, 0, 0, 0), 0, 0), (1366, .iload_n 3, 1, (3, 0, 0, 0), 0, 0), (1367, .iconst 2, 1, (0, 0, 0, 0), 2, 0), (1368, .iadd, 1, (0, 0, 0, 0), 0, 0), (1369, .iaload, 1, (0, 0, 0, 0), 0, 0), (1370, .aload_n 0, 1, (0, 0, 0, 0), 0, 0), (1371, .iload_n 3, 1, (3, 0, 0, 0), 0, 0), (1372, .iconst 3, 1, (0, 0, 0, 0), 3, 0), (1373, .iadd, 1, (0, 0, 0, 0), 0, 0)])
set_option maxRecDepth 100000 in
noncomputable def z_kL39 : Nat × List (Nat × z_E) := (1404, [(1374, .iaload, 1, (0, 0, 0, 0), 0, 0), (1375, .invokevirtual 150, 3, (98, 4, 3, 0), 0, 0), (1378, .aload_n 2, 1, (2, 0, 0, 0), 0, 0), (1379, .aload_n 0, 1, (0, 0, 0, 0), 0, 0), (1380, .iload_n 3, 1, (3, 0, 0, 0), 0, 0), (1381, .iconst 1, 1, (0, 0, 0, 0), 1, 0), (1382, .iadd, 1, (0, 0, 0, 0), 0, 0), (1383, .iaload, 1, (0, 0, 0, 0), 0, 0), (1384, .aload_n 0, 1, (0, 0, 0, 0), 0, 0), (1385, .iload_n 3, 1, (3, 0, 0, 0), 0, 0), (1386, .iconst 2, 1, (0, 0, 0, 0), 2, 0), (1387, .iadd, 1, (0, 0, 0, 0), 0, 0), (1388, .iaload, 1, (0, 0, 0, 0), 0, 0), (1389, .aload_n 0, 1, (0, 0, 0, 0), 0, 0), (1390, .iload_n 3, 1, (3, 0, 0, 0), 0, 0), (1391, .iconst 3, 1, (0, 0, 0, 0), 3, 0), (1392, .iadd, 1, (0, 0, 0, 0), 0, 0), (1393, .iaload, 1, (0, 0, 0, 0), 0, 0), (1394, .invokevirtual 153, 3, (235, 4, 3, 0), 0, 0), (1397, .lcmp, 1, (0, 0, 0, 0), 0, 0), (1398, .ifCond .eq 665, 3, (2063, 0, 0, 0), 0, 0), (1401, .iconst 0, 1, (0, 0, 0, 0), 0, 0), (1402, .ireturn, 1, (1, 0, 0, 0), 0, 0), (1403, .aload_n 1, 1, (1, 0, 0, 0), 0, 0)])
set_option maxRecDepth 100000 in
noncomputable def z_kL40 : Nat × List (Nat × z_E) := (1432, [(1404, .aload_n 0, 1, (0, 0, 0, 0), 0, 0), (1405, .iload_n 3, 1, (3, 0, 0, 0), 0, 0), (1406, .iconst 1, 1, (0, 0, 0, 0), 1, 0), (1407, .iadd, 1, (0, 0, 0, 0), 0, 0), (1408, .iaload, 1, (0, 0, 0, 0), 0, 0), (1409, .aload_n 0, 1, (0, 0, 0, 0), 0, 0), (1410, .iload_n 3, 1, (3, 0, 0, 0), 0, 0), (1411, .iconst 2, 1, (0, 0, 0, 0), 2, 0), (1412, .iadd, 1, (0, 0, 0, 0), 0, 0), (1413, .iaload, 1, (0, 0, 0, 0), 0, 0), (1414, .invokevirtual 154, 3, (99, 4, 2, 0), 0, 0), (1417, .aload_n 2, 1, (2, 0, 0, 0), 0, 0), (1418, .aload_n 0, 1, (0, 0, 0, 0), 0, 0), (1419, .iload_n 3, 1, (3, 0, 0, 0), 0, 0), (1420, .iconst 1, 1, (0, 0, 0, 0), 1, 0), (1421, .iadd, 1, (0, 0, 0, 0), 0, 0), (1422, .iaload, 1, (0, 0, 0, 0), 0, 0), (1423, .aload_n 0, 1, (0, 0, 0, 0), 0, 0), (1424, .iload_n 3, 1, (3, 0, 0, 0), 0, 0), (1425, .iconst 2, 1, (0, 0, 0, 0), 2, 0), (1426, .iadd, 1, (0, 0, 0, 0), 0, 0), (1427, .iaload, 1, (0, 0, 0, 0), 0, 0), (1428, .invokevirtual 157, 3, (236, 4, 2, 0), 0, 0), (1431, .lcmp, 1, (0, 0, 0, 0), 0, 0)])
set_option maxRecDepth 100000 in
noncomputable def z_kL41 : Nat × List (Nat × z_E) := (1460, [(1432, .ifCond .eq 631, 3, (2063, 0, 0, 0), 0, 0), (1435, .iconst 0, 1, (0, 0, 0, 0), 0, 0), (1436, .ireturn, 1, (1, 0, 0, 0), 0, 0), (1437, .aload_n 1, 1, (1, 0, 0, 0), 0, 0), (1438, .aload_n 0, 1, (0, 0, 0, 0), 0, 0), (1439, .iload_n 3, 1, (3, 0, 0, 0), 0, 0), (1440, .iconst 1, 1, (0, 0, 0, 0), 1, 0), (1441, .iadd, 1, (0, 0, 0, 0), 0, 0), (1442, .iaload, 1, (0, 0, 0, 0), 0, 0), (1443, .aload_n 0, 1, (0, 0, 0, 0), 0, 0), (1444, .iload_n 3, 1, (3, 0, 0, 0), 0, 0), (1445, .iconst 2, 1, (0, 0, 0, 0), 2, 0), (1446, .iadd, 1, (0, 0, 0, 0), 0, 0), (1447, .iaload, 1, (0, 0, 0, 0), 0, 0), (1448, .aload_n 0, 1, (0, 0, 0, 0), 0, 0), (1449, .iload_n 3, 1, (3, 0, 0, 0), 0, 0), (1450, .iconst 3, 1, (0, 0, 0, 0), 3, 0), (1451, .iadd, 1, (0, 0, 0, 0), 0, 0), (1452, .iaload, 1, (0, 0, 0, 0), 0, 0), (1453, .invokevirtual 158, 3, (100, 4, 3, 0), 0, 0), (1456, .aload_n 2, 1, (2, 0, 0, 0), 0, 0), (1457, .aload_n 0, 1, (0, 0, 0, 0), 0, 0), (1458, .iload_n 3, 1, (3, 0, 0, 0), 0, 0), (1459, .iconst 1, 1, (0, 0, 0, 0), 1, 0)])
set_option maxRecDepth 100000 in
noncomputable def z_kL42 : Nat × List (Nat × z_E) := (1488, [(1460, .iadd, 1, (0, 0, 0, 0), 0, 0), (1461, .iaload, 1, (0, 0, 0, 0), 0, 0), (1462, .aload_n 0, 1, (0, 0, 0, 0), 0, 0), (1463, .iload_n 3, 1, (3, 0, 0, 0), 0, 0), (1464, .iconst 2, 1, (0, 0, 0, 0), 2, 0), (1465, .iadd, 1, (0, 0, 0, 0), 0, 0), (1466, .iaload, 1, (0, 0, 0, 0), 0, 0), (1467, .aload_n 0, 1, (0, 0, 0, 0), 0, 0), (1468, .iload_n 3, 1, (3, 0, 0, 0), 0, 0), (1469, .iconst 3, 1, (0, 0, 0, 0), 3, 0), (1470, .iadd, 1, (0, 0, 0, 0), 0, 0), (1471, .iaload, 1, (0, 0, 0, 0), 0, 0), (1472, .invokevirtual 161, 3, (239, 4, 3, 0), 0, 0), (1475, .lcmp, 1, (0, 0, 0, 0), 0, 0), (1476, .ifCond .eq 587, 3, (2063, 0, 0, 0), 0, 0), (1479, .iconst 0, 1, (0, 0, 0, 0), 0, 0), (1480, .ireturn, 1, (1, 0, 0, 0), 0, 0), (1481, .aload_n 1, 1, (1, 0, 0, 0), 0, 0), (1482, .aload_n 0, 1, (0, 0, 0, 0), 0, 0), (1483, .iload_n 3, 1, (3, 0, 0, 0), 0, 0), (1484, .iconst 1, 1, (0, 0, 0, 0), 1, 0), (1485, .iadd, 1, (0, 0, 0, 0), 0, 0), (1486, .iaload, 1, (0, 0, 0, 0), 0, 0), (1487, .aload_n 0, 1, (0, 0, 0, 0), 0, 0)])
set_option maxRecDepth 100000 in
noncomputable def z_kL43 : Nat × List (Nat × z_E) := (1514, [(1488, .iload_n 3, 1, (3, 0, 0, 0), 0, 0), (1489, .iconst 2, 1, (0, 0, 0, 0), 2, 0), (1490, .iadd, 1, (0, 0, 0, 0), 0, 0), (1491, .iaload, 1, (0, 0, 0, 0), 0, 0), (1492, .aload_n 0, 1, (0, 0, 0, 0), 0, 0), (1493, .iload_n 3, 1, (3, 0, 0, 0), 0, 0), (1494, .iconst 3, 1, (0, 0, 0, 0), 3, 0), (1495, .iadd, 1, (0, 0, 0, 0), 0, 0), (1496, .iaload, 1, (0, 0, 0, 0), 0, 0), (1497, .aload_n 0, 1, (0, 0, 0, 0), 0, 0), (1498, .iload_n 3, 1, (3, 0, 0, 0), 0, 0), (1499, .iconst 4, 1, (0, 0, 0, 0), 4, 0), (1500, .iadd, 1, (0, 0, 0, 0), 0, 0), (1501, .iaload, 1, (0, 0, 0, 0), 0, 0), (1502, .invokevirtual 162, 3, (101, 4, 4, 0), 0, 0), (1505, .aload_n 2, 1, (2, 0, 0, 0), 0, 0), (1506, .aload_n 0, 1, (0, 0, 0, 0), 0, 0), (1507, .iload_n 3, 1, (3, 0, 0, 0), 0, 0), (1508, .iconst 1, 1, (0, 0, 0, 0), 1, 0), (1509, .iadd, 1, (0, 0, 0, 0), 0, 0), (1510, .iaload, 1, (0, 0, 0, 0), 0, 0), (1511, .aload_n 0, 1, (0, 0, 0, 0), 0, 0), (1512, .iload_n 3, 1, (3, 0, 0, 0), 0, 0), (1513, .iconst 2, 1, (0, 0, 0, 0), 2, 0)])
set_option maxRecDepth 100000 in
noncomputable def z_kL44 : Nat × List (Nat × z_E) := (1542, [(1514, .iadd, 1, (0, 0, 0, 0), 0, 0), (1515, .iaload, 1, (0, 0, 0, 0), 0, 0), (1516, .aload_n 0, 1, (0, 0, 0, 0), 0, 0), (1517, .iload_n 3, 1, (3, 0, 0, 0), 0, 0), (1518, .iconst 3, 1, (0, 0, 0, 0), 3, 0), (1519, .iadd, 1, (0, 0, 0, 0), 0, 0), (1520, .iaload, 1, (0, 0, 0, 0), 0, 0), (1521, .aload_n 0, 1, (0, 0, 0, 0), 0, 0), (1522, .iload_n 3, 1, (3, 0, 0, 0), 0, 0), (1523, .iconst 4, 1, (0, 0, 0, 0), 4, 0), (1524, .iadd, 1, (0, 0, 0, 0), 0, 0), (1525, .iaload, 1, (0, 0, 0, 0), 0, 0), (1526, .invokevirtual 166, 3, (240, 4, 4, 0), 0, 0), (1529, .lcmp, 1, (0, 0, 0, 0), 0, 0), (1530, .ifCond .eq 533, 3, (2063, 0, 0, 0), 0, 0), (1533, .iconst 0, 1, (0, 0, 0, 0), 0, 0), (1534, .ireturn, 1, (1, 0, 0, 0), 0, 0), (1535, .aload_n 1, 1, (1, 0, 0, 0), 0, 0), (1536, .aload_n 0, 1, (0, 0, 0, 0), 0, 0), (1537, .iload_n 3, 1, (3, 0, 0, 0), 0, 0), (1538, .iconst 1, 1, (0, 0, 0, 0), 1, 0), (1539, .iadd, 1, (0, 0, 0, 0), 0, 0), (1540, .iaload, 1, (0, 0, 0, 0), 0, 0), (1541, .aload_n 0, 1, (0, 0, 0, 0), 0, 0)])
set_option maxRecDepth 100000 in
noncomputable def z_kL45 : Nat × List (Nat × z_E) := (1572, [(1542, .iload_n 3, 1, (3, 0, 0, 0), 0, 0), (1543, .iconst 2, 1, (0, 0, 0, 0), 2, 0), (1544, .iadd, 1, (0, 0, 0, 0), 0, 0), (1545, .iaload, 1, (0, 0, 0, 0), 0, 0), (1546, .invokevirtual 167, 3, (102, 4, 2, 0), 0, 0), (1549, .aload_n 2, 1, (2, 0, 0, 0), 0, 0), (1550, .aload_n 0, 1, (0, 0, 0, 0), 0, 0), (1551, .iload_n 3, 1, (3, 0, 0, 0), 0, 0), (1552, .iconst 1, 1, (0, 0, 0, 0), 1, 0), (1553, .iadd, 1, (0, 0, 0, 0), 0, 0), (1554, .iaload, 1, (0, 0, 0, 0), 0, 0), (1555, .aload_n 0, 1, (0, 0, 0, 0), 0, 0), (1556, .iload_n 3, 1, (3, 0, 0, 0), 0, 0), (1557, .iconst 2, 1, (0, 0, 0, 0), 2, 0), (1558, .iadd, 1, (0, 0, 0, 0), 0, 0), (1559, .iaload, 1, (0, 0, 0, 0), 0, 0), (1560, .invokevirtual 170, 3, (241, 4, 2, 0), 0, 0), (1563, .if_icmp .eq 500, 3, (2063, 0, 0, 0), 0, 0), (1566, .iconst 0, 1, (0, 0, 0, 0), 0, 0), (1567, .ireturn, 1, (1, 0, 0, 0), 0, 0), (1568, .aload_n 1, 1, (1, 0, 0, 0), 0, 0), (1569, .aload_n 0, 1, (0, 0, 0, 0), 0, 0), (1570, .iload_n 3, 1, (3, 0, 0, 0), 0, 0), (1571, .iconst 1, 1, (0, 0, 0, 0), 1, 0)])
set_option maxRecDepth 100000 in
noncomputable def z_kL46 : Nat × List (Nat × z_E) := (1602, [(1572, .iadd, 1, (0, 0, 0, 0), 0, 0), (1573, .iaload, 1, (0, 0, 0, 0), 0, 0), (1574, .aload_n 0, 1, (0, 0, 0, 0), 0, 0), (1575, .iload_n 3, 1, (3, 0, 0, 0), 0, 0), (1576, .iconst 2, 1, (0, 0, 0, 0), 2, 0), (1577, .iadd, 1, (0, 0, 0, 0), 0, 0), (1578, .iaload, 1, (0, 0, 0, 0), 0, 0), (1579, .invokevirtual 171, 3, (103, 4, 2, 0), 0, 0), (1582, .aload_n 2, 1, (2, 0, 0, 0), 0, 0), (1583, .aload_n 0, 1, (0, 0, 0, 0), 0, 0), (1584, .iload_n 3, 1, (3, 0, 0, 0), 0, 0), (1585, .iconst 1, 1, (0, 0, 0, 0), 1, 0), (1586, .iadd, 1, (0, 0, 0, 0), 0, 0), (1587, .iaload, 1, (0, 0, 0, 0), 0, 0), (1588, .aload_n 0, 1, (0, 0, 0, 0), 0, 0), (1589, .iload_n 3, 1, (3, 0, 0, 0), 0, 0), (1590, .iconst 2, 1, (0, 0, 0, 0), 2, 0), (1591, .iadd, 1, (0, 0, 0, 0), 0, 0), (1592, .iaload, 1, (0, 0, 0, 0), 0, 0), (1593, .invokevirtual 174, 3, (242, 4, 2, 0), 0, 0), (1596, .if_icmp .eq 467, 3, (2063, 0, 0, 0), 0, 0), (1599, .iconst 0, 1, (0, 0, 0, 0), 0, 0), (1600, .ireturn, 1, (1, 0, 0, 0), 0, 0), (1601, .aload_n 1, 1, (1, 0, 0, 0), 0, 0)])
set_option maxRecDepth 100000 in
noncomputable def z_kL47 : Nat × List (Nat × z_E) := (1632, [(1602, .aload_n 0, 1, (0, 0, 0, 0), 0, 0), (1603, .iload_n 3, 1, (3, 0, 0, 0), 0, 0), (1604, .iconst 1, 1, (0, 0, 0, 0), 1, 0), (1605, .iadd, 1, (0, 0, 0, 0), 0, 0), (1606, .iaload, 1, (0, 0, 0, 0), 0, 0), (1607, .aload_n 0, 1, (0, 0, 0, 0), 0, 0), (1608, .iload_n 3, 1, (3, 0, 0, 0), 0, 0), (1609, .iconst 2, 1, (0, 0, 0, 0), 2, 0), (1610, .iadd, 1, (0, 0, 0, 0), 0, 0), (1611, .iaload, 1, (0, 0, 0, 0), 0, 0), (1612, .invokevirtual 175, 3, (104, 4, 2, 0), 0, 0), (1615, .aload_n 2, 1, (2, 0, 0, 0), 0, 0), (1616, .aload_n 0, 1, (0, 0, 0, 0), 0, 0), (1617, .iload_n 3, 1, (3, 0, 0, 0), 0, 0), (1618, .iconst 1, 1, (0, 0, 0, 0), 1, 0), (1619, .iadd, 1, (0, 0, 0, 0), 0, 0), (1620, .iaload, 1, (0, 0, 0, 0), 0, 0), (1621, .aload_n 0, 1, (0, 0, 0, 0), 0, 0), (1622, .iload_n 3, 1, (3, 0, 0, 0), 0, 0), (1623, .iconst 2, 1, (0, 0, 0, 0), 2, 0), (1624, .iadd, 1, (0, 0, 0, 0), 0, 0), (1625, .iaload, 1, (0, 0, 0, 0), 0, 0), (1626, .invokevirtual 178, 3, (244, 4, 2, 0), 0, 0), (1629, .if_icmp .eq 434, 3, (2063, 0, 0, 0), 0, 0)])
set_option maxRecDepth 100000 in
noncomputable def z_kL48 : Nat × List (Nat × z_E) := (1658, [(1632, .iconst 0, 1, (0, 0, 0, 0), 0, 0), (1633, .ireturn, 1, (1, 0, 0, 0), 0, 0), (1634, .aload_n 1, 1, (1, 0, 0, 0), 0, 0), (1635, .aload_n 0, 1, (0, 0, 0, 0), 0, 0), (1636, .iload_n 3, 1, (3, 0, 0, 0), 0, 0), (1637, .iconst 1, 1, (0, 0, 0, 0), 1, 0), (1638, .iadd, 1, (0, 0, 0, 0), 0, 0), (1639, .iaload, 1, (0, 0, 0, 0), 0, 0), (1640, .aload_n 0, 1, (0, 0, 0, 0), 0, 0), (1641, .iload_n 3, 1, (3, 0, 0, 0), 0, 0), (1642, .iconst 2, 1, (0, 0, 0, 0), 2, 0), (1643, .iadd, 1, (0, 0, 0, 0), 0, 0), (1644, .iaload, 1, (0, 0, 0, 0), 0, 0), (1645, .invokevirtual 179, 3, (105, 4, 2, 0), 0, 0), (1648, .aload_n 2, 1, (2, 0, 0, 0), 0, 0), (1649, .aload_n 0, 1, (0, 0, 0, 0), 0, 0), (1650, .iload_n 3, 1, (3, 0, 0, 0), 0, 0), (1651, .iconst 1, 1, (0, 0, 0, 0), 1, 0), (1652, .iadd, 1, (0, 0, 0, 0), 0, 0), (1653, .iaload, 1, (0, 0, 0, 0), 0, 0), (1654, .aload_n 0, 1, (0, 0, 0, 0), 0, 0), (1655, .iload_n 3, 1, (3, 0, 0, 0), 0, 0), (1656, .iconst 2, 1, (0, 0, 0, 0), 2, 0), (1657, .iadd, 1, (0, 0, 0, 0), 0, 0)])
set_option maxRecDepth 100000 in
noncomputable def z_kL49 : Nat × List (Nat × z_E) := (1688, [(1658, .iaload, 1, (0, 0, 0, 0), 0, 0), (1659, .invokevirtual 182, 3, (246, 4, 2, 0), 0, 0), (1662, .if_icmp .eq 401, 3, (2063, 0, 0, 0), 0, 0), (1665, .iconst 0, 1, (0, 0, 0, 0), 0, 0), (1666, .ireturn, 1, (1, 0, 0, 0), 0, 0), (1667, .aload_n 1, 1, (1, 0, 0, 0), 0, 0), (1668, .aload_n 0, 1, (0, 0, 0, 0), 0, 0), (1669, .iload_n 3, 1, (3, 0, 0, 0), 0, 0), (1670, .iconst 1, 1, (0, 0, 0, 0), 1, 0), (1671, .iadd, 1, (0, 0, 0, 0), 0, 0), (1672, .iaload, 1, (0, 0, 0, 0), 0, 0), (1673, .aload_n 0, 1, (0, 0, 0, 0), 0, 0), (1674, .iload_n 3, 1, (3, 0, 0, 0), 0, 0), (1675, .iconst 2, 1, (0, 0, 0, 0), 2, 0), (1676, .iadd, 1, (0, 0, 0, 0), 0, 0), (1677, .iaload, 1, (0, 0, 0, 0), 0, 0), (1678, .aload_n 0, 1, (0, 0, 0, 0), 0, 0), (1679, .iload_n 3, 1, (3, 0, 0, 0), 0, 0), (1680, .iconst 3, 1, (0, 0, 0, 0), 3, 0), (1681, .iadd, 1, (0, 0, 0, 0), 0, 0), (1682, .iaload, 1, (0, 0, 0, 0), 0, 0), (1683, .invokevirtual 183, 3, (106, 4, 3, 0), 0, 0), (1686, .aload_n 2, 1, (2, 0, 0, 0), 0, 0), (1687, .aload_n 0, 1, (0, 0, 0, 0), 0, 0)])
set_option maxRecDepth 100000 in
noncomputable def z_kL50 : Nat × List (Nat × z_E) := (1716, [(1688, .iload_n 3, 1, (3, 0, 0, 0), 0, 0), (1689, .iconst 1, 1, (0, 0, 0, 0), 1, 0), (1690, .iadd, 1, (0, 0, 0, 0), 0, 0), (1691, .iaload, 1, (0, 0, 0, 0), 0, 0), (1692, .aload_n 0, 1, (0, 0, 0, 0), 0, 0), (1693, .iload_n 3, 1, (3, 0, 0, 0), 0, 0), (1694, .iconst 2, 1, (0, 0, 0, 0), 2, 0), (1695, .iadd, 1, (0, 0, 0, 0), 0, 0), (1696, .iaload, 1, (0, 0, 0, 0), 0, 0), (1697, .aload_n 0, 1, (0, 0, 0, 0), 0, 0), (1698, .iload_n 3, 1, (3, 0, 0, 0), 0, 0), (1699, .iconst 3, 1, (0, 0, 0, 0), 3, 0), (1700, .iadd, 1, (0, 0, 0, 0), 0, 0), (1701, .iaload, 1, (0, 0, 0, 0), 0, 0), (1702, .invokevirtual 186, 3, (247, 4, 3, 0), 0, 0), (1705, .if_icmp .eq 358, 3, (2063, 0, 0, 0), 0, 0), (1708, .iconst 0, 1, (0, 0, 0, 0), 0, 0), (1709, .ireturn, 1, (1, 0, 0, 0), 0, 0), (1710, .aload_n 1, 1, (1, 0, 0, 0), 0, 0), (1711, .aload_n 0, 1, (0, 0, 0, 0), 0, 0), (1712, .iload_n 3, 1, (3, 0, 0, 0), 0, 0), (1713, .iconst 1, 1, (0, 0, 0, 0), 1, 0), (1714, .iadd, 1, (0, 0, 0, 0), 0, 0), (1715, .iaload, 1, (0, 0, 0, 0), 0, 0)])
set_option maxRecDepth 100000 in
noncomputable def z_kL51 : Nat × List (Nat × z_E) := (1746, [(1716, .aload_n 0, 1, (0, 0, 0, 0), 0, 0), (1717, .iload_n 3, 1, (3, 0, 0, 0), 0, 0), (1718, .iconst 2, 1, (0, 0, 0, 0), 2, 0), (1719, .iadd, 1, (0, 0, 0, 0), 0, 0), (1720, .iaload, 1, (0, 0, 0, 0), 0, 0), (1721, .invokevirtual 187, 3, (107, 4, 2, 0), 0, 0), (1724, .aload_n 2, 1, (2, 0, 0, 0), 0, 0), (1725, .aload_n 0, 1, (0, 0, 0, 0), 0, 0), (1726, .iload_n 3, 1, (3, 0, 0, 0), 0, 0), (1727, .iconst 1, 1, (0, 0, 0, 0), 1, 0), (1728, .iadd, 1, (0, 0, 0, 0), 0, 0), (1729, .iaload, 1, (0, 0, 0, 0), 0, 0), (1730, .aload_n 0, 1, (0, 0, 0, 0), 0, 0), (1731, .iload_n 3, 1, (3, 0, 0, 0), 0, 0), (1732, .iconst 2, 1, (0, 0, 0, 0), 2, 0), (1733, .iadd, 1, (0, 0, 0, 0), 0, 0), (1734, .iaload, 1, (0, 0, 0, 0), 0, 0), (1735, .invokevirtual 190, 3, (248, 4, 2, 0), 0, 0), (1738, .if_icmp .eq 325, 3, (2063, 0, 0, 0), 0, 0), (1741, .iconst 0, 1, (0, 0, 0, 0), 0, 0), (1742, .ireturn, 1, (1, 0, 0, 0), 0, 0), (1743, .aload_n 1, 1, (1, 0, 0, 0), 0, 0), (1744, .aload_n 0, 1, (0, 0, 0, 0), 0, 0), (1745, .iload_n 3, 1, (3, 0, 0, 0), 0, 0)])
set_option maxRecDepth 100000 in
noncomputable def z_kL52 : Nat × List (Nat × z_E) := (1772, [(1746, .iconst 1, 1, (0, 0, 0, 0), 1, 0), (1747, .iadd, 1, (0, 0, 0, 0), 0, 0), (1748, .iaload, 1, (0, 0, 0, 0), 0, 0), (1749, .aload_n 0, 1, (0, 0, 0, 0), 0, 0), (1750, .iload_n 3, 1, (3, 0, 0, 0), 0, 0), (1751, .iconst 2, 1, (0, 0, 0, 0), 2, 0), (1752, .iadd, 1, (0, 0, 0, 0), 0, 0), (1753, .iaload, 1, (0, 0, 0, 0), 0, 0), (1754, .aload_n 0, 1, (0, 0, 0, 0), 0, 0), (1755, .iload_n 3, 1, (3, 0, 0, 0), 0, 0), (1756, .iconst 3, 1, (0, 0, 0, 0), 3, 0), (1757, .iadd, 1, (0, 0, 0, 0), 0, 0), (1758, .iaload, 1, (0, 0, 0, 0), 0, 0), (1759, .invokevirtual 191, 3, (108, 4, 3, 0), 0, 0), (1762, .aload_n 2, 1, (2, 0, 0, 0), 0, 0), (1763, .aload_n 0, 1, (0, 0, 0, 0), 0, 0), (1764, .iload_n 3, 1, (3, 0, 0, 0), 0, 0), (1765, .iconst 1, 1, (0, 0, 0, 0), 1, 0), (1766, .iadd, 1, (0, 0, 0, 0), 0, 0), (1767, .iaload, 1, (0, 0, 0, 0), 0, 0), (1768, .aload_n 0, 1, (0, 0, 0, 0), 0, 0), (1769, .iload_n 3, 1, (3, 0, 0, 0), 0, 0), (1770, .iconst 2, 1, (0, 0, 0, 0), 2, 0), (1771, .iadd, 1, (0, 0, 0, 0), 0, 0)])
set_option maxRecDepth 100000 in
noncomputable def z_kL53 : Nat × List (Nat × z_E) := (1800, [(1772, .iaload, 1, (0, 0, 0, 0), 0, 0), (1773, .aload_n 0, 1, (0, 0, 0, 0), 0, 0), (1774, .iload_n 3, 1, (3, 0, 0, 0), 0, 0), (1775, .iconst 3, 1, (0, 0, 0, 0), 3, 0), (1776, .iadd, 1, (0, 0, 0, 0), 0, 0), (1777, .iaload, 1, (0, 0, 0, 0), 0, 0), (1778, .invokevirtual 194, 3, (250, 4, 3, 0), 0, 0), (1781, .if_icmp .eq 282, 3, (2063, 0, 0, 0), 0, 0), (1784, .iconst 0, 1, (0, 0, 0, 0), 0, 0), (1785, .ireturn, 1, (1, 0, 0, 0), 0, 0), (1786, .aload_n 1, 1, (1, 0, 0, 0), 0, 0), (1787, .aload_n 0, 1, (0, 0, 0, 0), 0, 0), (1788, .iload_n 3, 1, (3, 0, 0, 0), 0, 0), (1789, .iconst 1, 1, (0, 0, 0, 0), 1, 0), (1790, .iadd, 1, (0, 0, 0, 0), 0, 0), (1791, .iaload, 1, (0, 0, 0, 0), 0, 0), (1792, .aload_n 0, 1, (0, 0, 0, 0), 0, 0), (1793, .iload_n 3, 1, (3, 0, 0, 0), 0, 0), (1794, .iconst 2, 1, (0, 0, 0, 0), 2, 0), (1795, .iadd, 1, (0, 0, 0, 0), 0, 0), (1796, .iaload, 1, (0, 0, 0, 0), 0, 0), (1797, .aload_n 0, 1, (0, 0, 0, 0), 0, 0), (1798, .iload_n 3, 1, (3, 0, 0, 0), 0, 0), (1799, .iconst 3, 1, (0, 0, 0, 0), 3, 0)])
set_option maxRecDepth 100000 in
noncomputable def z_kL54 : Nat × List (Nat × z_E) := (1830, [(1800, .iadd, 1, (0, 0, 0, 0), 0, 0), (1801, .iaload, 1, (0, 0, 0, 0), 0, 0), (1802, .invokevirtual 195, 3, (109, 4, 3, 0), 0, 0), (1805, .aload_n 2, 1, (2, 0, 0, 0), 0, 0), (1806, .aload_n 0, 1, (0, 0, 0, 0), 0, 0), (1807, .iload_n 3, 1, (3, 0, 0, 0), 0, 0), (1808, .iconst 1, 1, (0, 0, 0, 0), 1, 0), (1809, .iadd, 1, (0, 0, 0, 0), 0, 0), (1810, .iaload, 1, (0, 0, 0, 0), 0, 0), (1811, .aload_n 0, 1, (0, 0, 0, 0), 0, 0), (1812, .iload_n 3, 1, (3, 0, 0, 0), 0, 0), (1813, .iconst 2, 1, (0, 0, 0, 0), 2, 0), (1814, .iadd, 1, (0, 0, 0, 0), 0, 0), (1815, .iaload, 1, (0, 0, 0, 0), 0, 0), (1816, .aload_n 0, 1, (0, 0, 0, 0), 0, 0), (1817, .iload_n 3, 1, (3, 0, 0, 0), 0, 0), (1818, .iconst 3, 1, (0, 0, 0, 0), 3, 0), (1819, .iadd, 1, (0, 0, 0, 0), 0, 0), (1820, .iaload, 1, (0, 0, 0, 0), 0, 0), (1821, .invokevirtual 198, 3, (251, 4, 3, 0), 0, 0), (1824, .if_icmp .eq 239, 3, (2063, 0, 0, 0), 0, 0), (1827, .iconst 0, 1, (0, 0, 0, 0), 0, 0), (1828, .ireturn, 1, (1, 0, 0, 0), 0, 0), (1829, .aload_n 1, 1, (1, 0, 0, 0), 0, 0)])
set_option maxRecDepth 100000 in
noncomputable def z_kL55 : Nat × List (Nat × z_E) := (1856, [(1830, .aload_n 0, 1, (0, 0, 0, 0), 0, 0), (1831, .iload_n 3, 1, (3, 0, 0, 0), 0, 0), (1832, .iconst 1, 1, (0, 0, 0, 0), 1, 0), (1833, .iadd, 1, (0, 0, 0, 0), 0, 0), (1834, .iaload, 1, (0, 0, 0, 0), 0, 0), (1835, .aload_n 0, 1, (0, 0, 0, 0), 0, 0), (1836, .iload_n 3, 1, (3, 0, 0, 0), 0, 0), (1837, .iconst 2, 1, (0, 0, 0, 0), 2, 0), (1838, .iadd, 1, (0, 0, 0, 0), 0, 0), (1839, .iaload, 1, (0, 0, 0, 0), 0, 0), (1840, .aload_n 0, 1, (0, 0, 0, 0), 0, 0), (1841, .iload_n 3, 1, (3, 0, 0, 0), 0, 0), (1842, .iconst 3, 1, (0, 0, 0, 0), 3, 0), (1843, .iadd, 1, (0, 0, 0, 0), 0, 0), (1844, .iaload, 1, (0, 0, 0, 0), 0, 0), (1845, .invokevirtual 199, 3, (110, 4, 3, 0), 0, 0), (1848, .aload_n 2, 1, (2, 0, 0, 0), 0, 0), (1849, .aload_n 0, 1, (0, 0, 0, 0), 0, 0), (1850, .iload_n 3, 1, (3, 0, 0, 0), 0, 0), (1851, .iconst 1, 1, (0, 0, 0, 0), 1, 0), (1852, .iadd, 1, (0, 0, 0, 0), 0, 0), (1853, .iaload, 1, (0, 0, 0, 0), 0, 0), (1854, .aload_n 0, 1, (0, 0, 0, 0), 0, 0), (1855, .iload_n 3, 1, (3, 0, 0, 0), 0, 0)])
set_option maxRecDepth 100000 in
noncomputable def z_kL56 : Nat × List (Nat × z_E) := (1884, [(1856, .iconst 2, 1, (0, 0, 0, 0), 2, 0), (1857, .iadd, 1, (0, 0, 0, 0), 0, 0), (1858, .iaload, 1, (0, 0, 0, 0), 0, 0), (1859, .aload_n 0, 1, (0, 0, 0, 0), 0, 0), (1860, .iload_n 3, 1, (3, 0, 0, 0), 0, 0), (1861, .iconst 3, 1, (0, 0, 0, 0), 3, 0), (1862, .iadd, 1, (0, 0, 0, 0), 0, 0), (1863, .iaload, 1, (0, 0, 0, 0), 0, 0), (1864, .invokevirtual 202, 3, (253, 4, 3, 0), 0, 0), (1867, .if_icmp .eq 196, 3, (2063, 0, 0, 0), 0, 0), (1870, .iconst 0, 1, (0, 0, 0, 0), 0, 0), (1871, .ireturn, 1, (1, 0, 0, 0), 0, 0), (1872, .aload_n 1, 1, (1, 0, 0, 0), 0, 0), (1873, .aload_n 0, 1, (0, 0, 0, 0), 0, 0), (1874, .iload_n 3, 1, (3, 0, 0, 0), 0, 0), (1875, .iconst 1, 1, (0, 0, 0, 0), 1, 0), (1876, .iadd, 1, (0, 0, 0, 0), 0, 0), (1877, .iaload, 1, (0, 0, 0, 0), 0, 0), (1878, .aload_n 0, 1, (0, 0, 0, 0), 0, 0), (1879, .iload_n 3, 1, (3, 0, 0, 0), 0, 0), (1880, .iconst 2, 1, (0, 0, 0, 0), 2, 0), (1881, .iadd, 1, (0, 0, 0, 0), 0, 0), (1882, .iaload, 1, (0, 0, 0, 0), 0, 0), (1883, .aload_n 0, 1, (0, 0, 0, 0), 0, 0)])
set_option maxRecDepth 100000 in
noncomputable def z_kL57 : Nat × List (Nat × z_E) := (1914, [(1884, .iload_n 3, 1, (3, 0, 0, 0), 0, 0), (1885, .iconst 3, 1, (0, 0, 0, 0), 3, 0), (1886, .iadd, 1, (0, 0, 0, 0), 0, 0), (1887, .iaload, 1, (0, 0, 0, 0), 0, 0), (1888, .invokevirtual 203, 3, (111, 4, 3, 0), 0, 0), (1891, .aload_n 2, 1, (2, 0, 0, 0), 0, 0), (1892, .aload_n 0, 1, (0, 0, 0, 0), 0, 0), (1893, .iload_n 3, 1, (3, 0, 0, 0), 0, 0), (1894, .iconst 1, 1, (0, 0, 0, 0), 1, 0), (1895, .iadd, 1, (0, 0, 0, 0), 0, 0), (1896, .iaload, 1, (0, 0, 0, 0), 0, 0), (1897, .aload_n 0, 1, (0, 0, 0, 0), 0, 0), (1898, .iload_n 3, 1, (3, 0, 0, 0), 0, 0), (1899, .iconst 2, 1, (0, 0, 0, 0), 2, 0), (1900, .iadd, 1, (0, 0, 0, 0), 0, 0), (1901, .iaload, 1, (0, 0, 0, 0), 0, 0), (1902, .aload_n 0, 1, (0, 0, 0, 0), 0, 0), (1903, .iload_n 3, 1, (3, 0, 0, 0), 0, 0), (1904, .iconst 3, 1, (0, 0, 0, 0), 3, 0), (1905, .iadd, 1, (0, 0, 0, 0), 0, 0), (1906, .iaload, 1, (0, 0, 0, 0), 0, 0), (1907, .invokevirtual 206, 3, (255, 4, 3, 0), 0, 0), (1910, .if_icmp .eq 153, 3, (2063, 0, 0, 0), 0, 0), (1913, .iconst 0, 1, (0, 0, 0, 0), 0, 0)])
set_option maxRecDepth 100000 in
noncomputable def z_kL58 : Nat × List (Nat × z_E) := (1940, [(1914, .ireturn, 1, (1, 0, 0, 0), 0, 0), (1915, .aload_n 1, 1, (1, 0, 0, 0), 0, 0), (1916, .aload_n 0, 1, (0, 0, 0, 0), 0, 0), (1917, .iload_n 3, 1, (3, 0, 0, 0), 0, 0), (1918, .iconst 1, 1, (0, 0, 0, 0), 1, 0), (1919, .iadd, 1, (0, 0, 0, 0), 0, 0), (1920, .iaload, 1, (0, 0, 0, 0), 0, 0), (1921, .aload_n 0, 1, (0, 0, 0, 0), 0, 0), (1922, .iload_n 3, 1, (3, 0, 0, 0), 0, 0), (1923, .iconst 2, 1, (0, 0, 0, 0), 2, 0), (1924, .iadd, 1, (0, 0, 0, 0), 0, 0), (1925, .iaload, 1, (0, 0, 0, 0), 0, 0), (1926, .invokevirtual 207, 3, (112, 4, 2, 0), 0, 0), (1929, .aload_n 2, 1, (2, 0, 0, 0), 0, 0), (1930, .aload_n 0, 1, (0, 0, 0, 0), 0, 0), (1931, .iload_n 3, 1, (3, 0, 0, 0), 0, 0), (1932, .iconst 1, 1, (0, 0, 0, 0), 1, 0), (1933, .iadd, 1, (0, 0, 0, 0), 0, 0), (1934, .iaload, 1, (0, 0, 0, 0), 0, 0), (1935, .aload_n 0, 1, (0, 0, 0, 0), 0, 0), (1936, .iload_n 3, 1, (3, 0, 0, 0), 0, 0), (1937, .iconst 2, 1, (0, 0, 0, 0), 2, 0), (1938, .iadd, 1, (0, 0, 0, 0), 0, 0), (1939, .iaload, 1, (0, 0, 0, 0), 0, 0)])
set_option maxRecDepth 100000 in
noncomputable def z_kL59 : Nat × List (Nat × z_E) := (1970, [(1940, .invokevirtual 210, 3, (258, 4, 2, 0), 0, 0), (1943, .if_icmp .eq 120, 3, (2063, 0, 0, 0), 0, 0), (1946, .iconst 0, 1, (0, 0, 0, 0), 0, 0), (1947, .ireturn, 1, (1, 0, 0, 0), 0, 0), (1948, .aload_n 1, 1, (1, 0, 0, 0), 0, 0), (1949, .aload_n 0, 1, (0, 0, 0, 0), 0, 0), (1950, .iload_n 3, 1, (3, 0, 0, 0), 0, 0), (1951, .iconst 1, 1, (0, 0, 0, 0), 1, 0), (1952, .iadd, 1, (0, 0, 0, 0), 0, 0), (1953, .iaload, 1, (0, 0, 0, 0), 0, 0), (1954, .aload_n 0, 1, (0, 0, 0, 0), 0, 0), (1955, .iload_n 3, 1, (3, 0, 0, 0), 0, 0), (1956, .iconst 2, 1, (0, 0, 0, 0), 2, 0), (1957, .iadd, 1, (0, 0, 0, 0), 0, 0), (1958, .iaload, 1, (0, 0, 0, 0), 0, 0), (1959, .aload_n 0, 1, (0, 0, 0, 0), 0, 0), (1960, .iload_n 3, 1, (3, 0, 0, 0), 0, 0), (1961, .iconst 3, 1, (0, 0, 0, 0), 3, 0), (1962, .iadd, 1, (0, 0, 0, 0), 0, 0), (1963, .iaload, 1, (0, 0, 0, 0), 0, 0), (1964, .invokevirtual 211, 3, (113, 4, 3, 0), 0, 0), (1967, .aload_n 2, 1, (2, 0, 0, 0), 0, 0), (1968, .aload_n 0, 1, (0, 0, 0, 0), 0, 0), (1969, .iload_n 3, 1, (3, 0, 0, 0), 0, 0)])
set_option maxRecDepth 100000 in
noncomputable def z_kL60 : Nat × List (Nat × z_E) := (2000, [(1970, .iconst 1, 1, (0, 0, 0, 0), 1, 0), (1971, .iadd, 1, (0, 0, 0, 0), 0, 0), (1972, .iaload, 1, (0, 0, 0, 0), 0, 0), (1973, .aload_n 0, 1, (0, 0, 0, 0), 0, 0), (1974, .iload_n 3, 1, (3, 0, 0, 0), 0, 0), (1975, .iconst 2, 1, (0, 0, 0, 0), 2, 0), (1976, .iadd, 1, (0, 0, 0, 0), 0, 0), (1977, .iaload, 1, (0, 0, 0, 0), 0, 0), (1978, .aload_n 0, 1, (0, 0, 0, 0), 0, 0), (1979, .iload_n 3, 1, (3, 0, 0, 0), 0, 0), (1980, .iconst 3, 1, (0, 0, 0, 0), 3, 0), (1981, .iadd, 1, (0, 0, 0, 0), 0, 0), (1982, .iaload, 1, (0, 0, 0, 0), 0, 0), (1983, .invokevirtual 214, 3, (268, 4, 3, 0), 0, 0), (1986, .if_icmp .eq 77, 3, (2063, 0, 0, 0), 0, 0), (1989, .iconst 0, 1, (0, 0, 0, 0), 0, 0), (1990, .ireturn, 1, (1, 0, 0, 0), 0, 0), (1991, .aload_n 1, 1, (1, 0, 0, 0), 0, 0), (1992, .aload_n 0, 1, (0, 0, 0, 0), 0, 0), (1993, .iload_n 3, 1, (3, 0, 0, 0), 0, 0), (1994, .iconst 1, 1, (0, 0, 0, 0), 1, 0), (1995, .iadd, 1, (0, 0, 0, 0), 0, 0), (1996, .iaload, 1, (0, 0, 0, 0), 0, 0), (1997, .invokevirtual 215, 3, (114, 4, 1, 0), 0, 0)])
set_option maxRecDepth 100000 in
noncomputable def z_kL61 : Nat × List (Nat × z_E) := (2032, [(2000, .aload_n 2, 1, (2, 0, 0, 0), 0, 0), (2001, .aload_n 0, 1, (0, 0, 0, 0), 0, 0), (2002, .iload_n 3, 1, (3, 0, 0, 0), 0, 0), (2003, .iconst 1, 1, (0, 0, 0, 0), 1, 0), (2004, .iadd, 1, (0, 0, 0, 0), 0, 0), (2005, .iaload, 1, (0, 0, 0, 0), 0, 0), (2006, .invokevirtual 218, 3, (269, 4, 1, 0), 0, 0), (2009, .if_icmp .eq 54, 3, (2063, 0, 0, 0), 0, 0), (2012, .iconst 0, 1, (0, 0, 0, 0), 0, 0), (2013, .ireturn, 1, (1, 0, 0, 0), 0, 0), (2014, .aload_n 1, 1, (1, 0, 0, 0), 0, 0), (2015, .aload_n 0, 1, (0, 0, 0, 0), 0, 0), (2016, .iload_n 3, 1, (3, 0, 0, 0), 0, 0), (2017, .iconst 1, 1, (0, 0, 0, 0), 1, 0), (2018, .iadd, 1, (0, 0, 0, 0), 0, 0), (2019, .iaload, 1, (0, 0, 0, 0), 0, 0), (2020, .invokevirtual 219, 3, (115, 4, 1, 0), 0, 0), (2023, .aload_n 2, 1, (2, 0, 0, 0), 0, 0), (2024, .aload_n 0, 1, (0, 0, 0, 0), 0, 0), (2025, .iload_n 3, 1, (3, 0, 0, 0), 0, 0), (2026, .iconst 1, 1, (0, 0, 0, 0), 1, 0), (2027, .iadd, 1, (0, 0, 0, 0), 0, 0), (2028, .iaload, 1, (0, 0, 0, 0), 0, 0), (2029, .invokevirtual 222, 3, (270, 4, 1, 0), 0, 0)])
set_option maxRecDepth 100000 in
noncomputable def z_kL62 : Nat × List (Nat × z_E) := (1000000, [(2032, .if_icmp .eq 31, 3, (2063, 0, 0, 0), 0, 0), (2035, .iconst 0, 1, (0, 0, 0, 0), 0, 0), (2036, .ireturn, 1, (1, 0, 0, 0), 0, 0), (2037, .aload_n 1, 1, (1, 0, 0, 0), 0, 0), (2038, .invokevirtual 223, 3, (116, 4, 0, 0), 0, 0), (2041, .aload_n 2, 1, (2, 0, 0, 0), 0, 0), (2042, .invokevirtual 226, 3, (273, 4, 0, 0), 0, 0), (2045, .if_icmp .eq 18, 3, (2063, 0, 0, 0), 0, 0), (2048, .iconst 0, 1, (0, 0, 0, 0), 0, 0), (2049, .ireturn, 1, (1, 0, 0, 0), 0, 0), (2050, .aload_n 1, 1, (1, 0, 0, 0), 0, 0), (2051, .invokevirtual 227, 3, (117, 4, 0, 0), 0, 0), (2054, .aload_n 2, 1, (2, 0, 0, 0), 0, 0), (2055, .invokevirtual 230, 3, (274, 4, 0, 0), 0, 0), (2058, .if_icmp .eq 5, 3, (2063, 0, 0, 0), 0, 0), (2061, .iconst 0, 1, (0, 0, 0, 0), 0, 0), (2062, .ireturn, 1, (1, 0, 0, 0), 0, 0), (2063, .iinc 3 6, 3, (3, 0, 0, 0), 6, 0), (2066, .goto (-2048), 3, (18, 0, 0, 0), 0, 0), (2069, .iconst 1, 1, (0, 0, 0, 0), 1, 0), (2070, .ireturn, 1, (1, 0, 0, 0), 0, 0)])
set_option maxRecDepth 100000 in
noncomputable def z_k285 : List (Nat × List (Nat × z_E)) := [z_kL0,
  z_kL1,
  z_kL2,
  z_kL3,
  z_kL4,
  z_kL5,
  z_kL6,
  z_kL7,
  z_kL8,
  z_kL9,
  z_kL10,
  z_kL11,
  z_kL12,
  z_kL13,
  z_kL14,
  z_kL15,
  z_kL16,
  z_kL17,
  z_kL18,
  z_kL19,
  z_kL20,
  z_kL21,
  z_kL22,
  z_kL23,
  z_kL24,
  z_kL25,
  z_kL26,
  z_kL27,
  z_kL28,
  z_kL29,
  z_kL30,
  z_kL31,
  z_kL32,
  z_kL33,
  z_kL34,
  z_kL35,
  z_kL36,
  z_kL37,
  z_kL38,
  z_kL39,
  z_kL40,
  z_kL41,
  z_kL42,
  z_kL43,
  z_kL44,
  z_kL45,
  z_kL46,
  z_kL47,
  z_kL48,
  z_kL49,
  z_kL50,
  z_kL51,
  z_kL52,
  z_kL53,
  z_kL54,
  z_kL55,
  z_kL56,
  z_kL57,
  z_kL58,
  z_kL59,
  z_kL60,
  z_kL61,
  z_kL62]
noncomputable def z_kl (y : Nat) : List (Nat × List (Nat × z_E)) := ((([[z_k0, z_k1, z_k2, z_k3, z_k4, z_k5, z_k6, z_k7, z_k8, z_k9, z_k10, z_k11, z_k12, z_k13, z_k14, z_k15], [z_k16, z_k17, z_k18, z_k19, z_k20, z_k21, z_k22, z_k23, z_k24, z_k25, z_k26, z_k27, z_k28, z_k29, z_k30, z_k31], [z_k32, z_k33, z_k34, z_k35, z_k36, z_k37, z_k38, z_k39, z_k40, z_k41, z_k42, z_k43, z_k44, z_k45, z_k46, z_k47], [z_k48, z_k49, z_k50, z_k51, z_k52, z_k53, z_k54, z_k55, z_k56, z_k57, z_k58, z_k59, z_k60, z_k61, z_k62, z_k63], [z_k64, z_k65, z_k66, z_k67, z_k68, z_k69, z_k70, z_k71, z_k72, z_k73, z_k74, z_k75, z_k76, z_k77, z_k78, z_k79], [z_k80, z_k81, z_k82, z_k83, z_k84, z_k85, z_k86, z_k87, z_k88, z_k89, z_k90, z_k91, z_k92, z_k93, z_k94, z_k95], [z_k96, z_k97, z_k98, z_k99, z_k100, z_k101, z_k102, z_k103, z_k104, z_k105, z_k106, z_k107, z_k108, z_k109, z_k110, z_k111], [z_k112, z_k113, z_k114, z_k115, z_k116, z_k117, z_k118, z_k119, z_k120, z_k121, z_k122, z_k123, z_k124, z_k125, z_k126, z_k127], [z_k128, z_k129, z_k130, z_k131, z_k132, z_k133, z_k134, z_k135, z_k136, z_k137, z_k138, z_k139, z_k140, z_k141, z_k142, z_k143], [z_k144, z_k145, z_k146, z_k147, z_k148, z_k149, z_k150, z_k151, z_k152, z_k153, z_k154, z_k155, z_k156, z_k157, z_k158, z_k159], [z_k160, z_k161, z_k162, z_k163, z_k164, z_k165, z_k166, z_k167, z_k168, z_k169, z_k170, z_k171, z_k172, z_k173, z_k174, z_k175], [z_k176, z_k177, z_k178, z_k179, z_k180, z_k181, z_k182, z_k183, z_k184, z_k185, z_k186, z_k187, z_k188, z_k189, z_k190, z_k191], [z_k192, z_k193, z_k194, z_k195, z_k196, z_k197, z_k198, z_k199, z_k200, z_k201, z_k202, z_k203, z_k204, z_k205, z_k206, z_k207], [z_k208, z_k209, z_k210, z_k211, z_k212, z_k213, z_k214, z_k215, z_k216, z_k217, z_k218, z_k219, z_k220, z_k221, z_k222, z_k223], [z_k224, z_k225, z_k226, z_k227, z_k228, z_k229, z_k230, z_k231, z_k232, z_k233, z_k234, z_k235, z_k236, z_k237, z_k238, z_k239], [z_k240, z_k241, z_k242, z_k243, z_k244, z_k245, z_k246, z_k247, z_k248, z_k249, z_k250, z_k251, z_k252, z_k253, z_k254, z_k255], [z_k256, z_k257, z_k258, z_k259, z_k260, z_k261, z_k262, z_k263, z_k264, z_k265, z_k266, z_k267, z_k268, z_k269, z_k270, z_k271], [z_k272, z_k273, z_k274, z_k275, z_k276, z_k277, z_k278, z_k279, z_k280, z_k281, z_k282, z_k283, z_k284, z_k285]] : List (List (List (Nat × List (Nat × z_E))))).getD (y / 16) []).getD (y % 16) [])
def z_lk1 (pc : Nat) : List (Nat × z_E) → Option z_E
  | [] => none
  | (q, e) :: l => bif Nat.beq q pc then some e else z_lk1 pc l
def z_lk2 (pc : Nat) : List (Nat × List (Nat × z_E)) → Option z_E
  | [] => none
  | (u, l) :: r => bif Nat.blt pc u then z_lk1 pc l else z_lk2 pc r
/-- the entry at a place of a method -/
noncomputable def z_cd (y pc : Nat) : Option z_E := z_lk2 pc (z_kl y)
end
section
noncomputable def z_nm (y : Nat) : MethodName := (z_mi y).1
noncomputable def z_cw (y : Nat) : Cond := .code (z_mi y).1 (z_mi y).2.1 (z_mi y).2.2.1 (z_mi y).2.2.2
def z_ec (a : Nat) : String := if a = 2 then "ShareNets$Net" else if a = 3 then "ShareNets$Share" else "ShareNets$Sheet"
def z_fd (e a : Nat) : String × String × String × Bool := (z_cl.getD e ("", z_T0, 0)).2.1 a
def z_fn (e : Nat) : Nat := (z_cl.getD e ("", z_T0, 0)).2.2
/-- the words that an entry asks for -/
noncomputable def z_need (y : Nat) (q : z_E) : List Cond :=
  match q with
  | (ins, _, (a, b, e, f), ki, kj) => match ins with
    | .ldc ix | .ldc_w ix => if a = 1 then [.stringRef (z_nm y).cls ix (z_stx b)] else [.constant (z_nm y).cls ix ki]
    | .ldc2_w ix => [.constantLong (z_nm y).cls ix kj]
    | .getfield ix | .putfield ix =>
      if e = 99 then [.fieldLink (z_nm y).cls ix "java/lang/String" (if a = 0 then "value" else "coder") (if a = 0 then "[B" else "B")]
      else if f = 0 then [.fieldLink (z_nm y).cls ix (z_fd e a).1 (z_fd e a).2.1 (z_fd e a).2.2.1]
      else [.fieldLink (z_nm y).cls ix (z_nm y).cls (z_fd e a).2.1 (z_fd e a).2.2.1, .sameField (z_nm y).cls (z_fd e a).1 (z_fd e a).2.1 (z_fd e a).2.2.1]
    | .getstatic ix => if f = 1 then [.fieldLinkNest (z_nm y).cls ix (z_stn a).1 (z_stn a).2.1 (z_stn a).2.2 "ShareNets"] else [.fieldLink (z_nm y).cls ix (z_stn a).1 (z_stn a).2.1 (z_stn a).2.2]
    | .invokestatic ix | .invokespecial ix | .invokevirtual ix =>
      if b = 9 then [.methodLink (z_nm y).cls ix Lib.objectInit, .instanceMethod Lib.objectInit, .code Lib.objectInit ⟨#[0xb1]⟩ 1 none]
      else if b = 6 then [.methodLink (z_nm y).cls ix (z_vx a), .sameMethod (z_vx a).cls (z_nm (z_vo a)).cls (z_vx a).name (z_vx a).desc, .instanceMethod (z_nm (z_vo a))] ++
        ([3, 6, 5, 0] : List Nat).flatMap (fun ci => match z_vt a ci with
          | none => []
          | some y' => [.selects (z_cn ci) (z_vx a) (z_nm y'), .instanceMethod (z_nm y'), .initialized (z_nm y').cls])
      else if b = 7 then [.methodLink (z_nm y).cls ix ⟨z_cn f, (z_nm a).name, (z_nm a).desc⟩, .sameMethod (z_cn f) (z_nm a).cls (z_nm a).name (z_nm a).desc, .superclass (z_nm y).cls (z_cn f), .instanceMethod (z_nm a), .initialized (z_nm a).cls]
      else [if b = 1 ∨ b = 3 then .methodLinkNest (z_nm y).cls ix (z_nm a) "ShareNets" else .methodLink (z_nm y).cls ix (z_nm a), .initialized (z_nm a).cls] ++
        (if b < 2 then [.static (z_nm a)] else if b < 4 then [.instanceMethod (z_nm a)] else [.instanceMethod (z_nm a), .selects (z_nm a).cls (z_nm a) (z_nm a)])
    | .new ix => [.classLink (z_nm y).cls ix (z_cn a), .instantiable (z_cn a) (z_fn a), .initialized (z_cn a)]
    | .newarray _ => [.arrayClass (if a = 0 then .int else .long)]
    | .anewarray ix => [.classLink (z_nm y).cls ix (z_ec a), .arrayOver (.object (z_ec a))]
    | .instanceof ix => [.classLink (z_nm y).cls ix (z_cn a)]
    | _ => []
def z_tok (pc : Nat) (off : Int) (a : Nat) : Bool := decide ((pc : Int) + off = (a : Int))
def z_pn (m : MethodName) (n : Nat) : Bool := decide (m.cls ≠ "java/lang/invoke/MethodHandle" ∧ m.cls ≠ "java/lang/invoke/VarHandle" ∧ (parseMethodDescriptor m.desc).map (fun d => d.parameters.length) = some n)
/-- what a program sees of an entry, the bytes apart -/
noncomputable def z_oke (y pc : Nat) (q : z_E) : Bool :=
  match q with
  | (ins, len, (a, b, e, f), ki, kj) => match ins with
    | .iconst n => Nat.beq len 1 && decide (Int32.ofInt n = ki)
    | .bipush n => Nat.beq len 2 && decide ((Int8.ofInt n).toInt32 = ki)
    | .sipush n => Nat.beq len 3 && decide ((Int16.ofInt n).toInt32 = ki)
    | .ldc ix => Nat.beq len 2 && (bif Nat.beq a 1 then Nat.blt b 4 && decide ((z_nm y).cls = "ShareNets$Tape") && Nat.beq ix (([39, 60, 62, 64] : List Nat).getD b 0) else true)
    | .ldc_w _ => Nat.beq len 3
    | .ldc2_w _ => Nat.beq len 3
    | .lconst n => Nat.beq len 1 && decide (Int64.ofNat (n : Nat) = kj)
    | .aconst_null => Nat.beq len 1
    | .iload i | .lload i | .aload i => Nat.beq len 2 && Nat.beq a i
    | .istore i | .astore i => Nat.beq len 2 && Nat.beq a i && Nat.blt a (z_ml y)
    | .lstore i => Nat.beq len 2 && Nat.beq a i && Nat.blt (a + 1) (z_ml y)
    | .iload_n k | .lload_n k | .aload_n k => Nat.beq len 1 && Nat.beq a k.val
    | .istore_n k | .astore_n k => Nat.beq len 1 && Nat.beq a k.val && Nat.blt a (z_ml y)
    | .lstore_n k => Nat.beq len 1 && Nat.beq a k.val && Nat.blt (a + 1) (z_ml y)
    | .iinc i n => Nat.beq len 3 && Nat.beq a i && decide (Int32.ofInt n = ki) && Nat.blt a (z_ml y)
    | .ifCond _ off | .if_icmp _ off | .goto off | .ifnull off | .ifnonnull off => Nat.beq len 3 && z_tok pc off a
    | .tableswitch d lo hi os => decide (hi + 1 - lo = os.size) && decide (-1000 ≤ lo) && decide (lo ≤ hi) && decide (hi ≤ 1000) && decide (0 ≤ (pc : Int) + d) && os.toList.all (fun o => decide (0 ≤ (pc : Int) + o))
    | .lookupswitch d ps => (ps.toList.zip (ps.toList.drop 1)).all (fun (a, next) => a.1 < next.1) && decide (0 ≤ (pc : Int) + d) && ps.toList.all (fun o => decide (-1000 ≤ o.1) && decide (o.1 ≤ 1000) && decide (0 ≤ (pc : Int) + o.2))
    | .getfield _ => Nat.beq len 3 && (bif Nat.beq e 99 then Nat.blt a 2 else Nat.blt e 13 && Nat.blt a (z_fn e) && Nat.beq b ((z_ftl.getD e []).getD a 9))
    | .putfield _ => Nat.beq len 3 && Nat.blt e 13 && Nat.blt a (z_fn e) && Nat.beq b ((z_ftl.getD e []).getD a 9) && Nat.beq f 0 && (bif (z_fd e a).2.2.2 then decide ((z_nm y).name = "<init>") && decide ((z_fd e a).1 = (z_nm y).cls) else true)
    | .getstatic _ => Nat.beq len 3 && Nat.blt a 6 && (bif Nat.beq f 1 then Nat.blt a 4 else Nat.beq f 0)
    | .invokestatic _ => Nat.beq len 3 && Nat.blt b 2 && Nat.blt a 285 && z_pn (z_nm a) e
    | .invokespecial _ => Nat.beq len 3 && ((Nat.beq b 9 && Nat.beq e 0) || ((Nat.beq b 2 || Nat.beq b 3) && Nat.blt a 285 && decide ((z_nm a).name = "<init>") && z_pn (z_nm a) e && decide ((z_mi a).2.2.2 = none)) || (Nat.beq b 7 && Nat.blt a 285 && decide ((z_nm a).name ≠ "<init>") && z_pn (z_nm a) e))
    | .invokevirtual _ => Nat.beq len 3 && ((Nat.beq b 4 && Nat.blt a 285 && z_pn (z_nm a) e) || (Nat.beq b 6 && Nat.blt a 5 && z_pn (z_vx a) e && z_pn (z_nm (z_vo a)) e))
    | .new _ => Nat.beq len 3 && Nat.blt a 13
    | .newarray t => Nat.beq len 2 && ((decide (t = .int) && Nat.beq a 0) || (decide (t = .long) && Nat.beq a 1))
    | .anewarray _ => Nat.beq len 3 && (Nat.beq a 2 || Nat.beq a 3 || Nat.beq a 4)
    | .instanceof _ => Nat.beq len 3 && Nat.blt a 13
    | .ireturn => Nat.beq len 1 && ((Nat.beq a 0 && decide ((z_mi y).2.2.2 = some .int)) || (Nat.beq a 1 && decide ((z_mi y).2.2.2 = some .boolean)) || (Nat.beq a 2 && decide ((z_mi y).2.2.2 = some .byte)) || (Nat.beq a 3 && decide ((z_mi y).2.2.2 = some .char)))
    | .lreturn => Nat.beq len 1 && decide ((z_mi y).2.2.2 = some .long)
    | .areturn => Nat.beq len 1 && decide ((z_mi y).2.2.2 = some (.object "ShareNets$Share"))
    | .return_ => Nat.beq len 1 && decide ((z_mi y).2.2.2 = none)
    | _ => Nat.beq len 1
noncomputable def z_ck1 (y : Nat) (p : Nat × List (Nat × z_E)) : Bool := p.2.all (fun r => decide (decode (z_mi y).2.1 r.1 = .ok (r.2.1, r.2.2.1)) && z_oke y r.1 r.2)
noncomputable def z_cka (y : Nat) : Bool := (z_kl y).all (z_ck1 y)
noncomputable def z_nda (y : Nat) : List Cond := (z_kl y).flatMap (fun p => p.2.flatMap (fun r => z_need y r.2))
end
section
theorem z_ckg0 : ∀ r, r < 16 → z_cka (16 * 0 + r) = true := by decide +kernel
theorem z_ckg1 : ∀ r, r < 16 → z_cka (16 * 1 + r) = true := by decide +kernel
theorem z_ckg2 : ∀ r, r < 16 → z_cka (16 * 2 + r) = true := by decide +kernel
theorem z_ckg3 : ∀ r, r < 16 → z_cka (16 * 3 + r) = true := by decide +kernel
theorem z_ckg4 : ∀ r, r < 16 → z_cka (16 * 4 + r) = true := by decide +kernel
theorem z_ckg5 : ∀ r, r < 16 → z_cka (16 * 5 + r) = true := by decide +kernel
theorem z_ckg6 : ∀ r, r < 16 → z_cka (16 * 6 + r) = true := by decide +kernel
theorem z_ckg7 : ∀ r, r < 16 → z_cka (16 * 7 + r) = true := by decide +kernel
theorem z_ckg8 : ∀ r, r < 16 → z_cka (16 * 8 + r) = true := by decide +kernel
theorem z_ckg9 : ∀ r, r < 16 → z_cka (16 * 9 + r) = true := by decide +kernel
theorem z_ckg10 : ∀ r, r < 16 → z_cka (16 * 10 + r) = true := by decide +kernel
theorem z_ckg11 : ∀ r, r < 16 → z_cka (16 * 11 + r) = true := by decide +kernel
theorem z_ckg12 : ∀ r, r < 16 → z_cka (16 * 12 + r) = true := by decide +kernel
theorem z_ckg13 : ∀ r, r < 16 → z_cka (16 * 13 + r) = true := by decide +kernel
theorem z_ckg14 : ∀ r, r < 16 → z_cka (16 * 14 + r) = true := by decide +kernel
theorem z_ckg15 : ∀ r, r < 16 → z_cka (16 * 15 + r) = true := by decide +kernel
theorem z_ckg16 : ∀ r, r < 16 → z_cka (16 * 16 + r) = true := by decide +kernel
theorem z_ckg17 : ∀ r, r < 13 → z_cka (16 * 17 + r) = true := by decide +kernel
end
section
theorem z_ckL0 : z_ck1 285 z_kL0 = true := by decide +kernel
theorem z_ckL1 : z_ck1 285 z_kL1 = true := by decide +kernel
theorem z_ckL2 : z_ck1 285 z_kL2 = true := by decide +kernel
theorem z_ckL3 : z_ck1 285 z_kL3 = true := by decide +kernel
theorem z_ckL4 : z_ck1 285 z_kL4 = true := by decide +kernel
theorem z_ckL5 : z_ck1 285 z_kL5 = true := by decide +kernel
theorem z_ckL6 : z_ck1 285 z_kL6 = true := by decide +kernel
theorem z_ckL7 : z_ck1 285 z_kL7 = true := by decide +kernel
theorem z_ckL8 : z_ck1 285 z_kL8 = true := by decide +kernel
theorem z_ckL9 : z_ck1 285 z_kL9 = true := by decide +kernel
theorem z_ckL10 : z_ck1 285 z_kL10 = true := by decide +kernel
theorem z_ckL11 : z_ck1 285 z_kL11 = true := by decide +kernel
theorem z_ckL12 : z_ck1 285 z_kL12 = true := by decide +kernel
theorem z_ckL13 : z_ck1 285 z_kL13 = true := by decide +kernel
theorem z_ckL14 : z_ck1 285 z_kL14 = true := by decide +kernel
theorem z_ckL15 : z_ck1 285 z_kL15 = true := by decide +kernel
theorem z_ckL16 : z_ck1 285 z_kL16 = true := by decide +kernel
theorem z_ckL17 : z_ck1 285 z_kL17 = true := by decide +kernel
theorem z_ckL18 : z_ck1 285 z_kL18 = true := by decide +kernel
theorem z_ckL19 : z_ck1 285 z_kL19 = true := by decide +kernel
theorem z_ckL20 : z_ck1 285 z_kL20 = true := by decide +kernel
theorem z_ckL21 : z_ck1 285 z_kL21 = true := by decide +kernel
theorem z_ckL22 : z_ck1 285 z_kL22 = true := by decide +kernel
theorem z_ckL23 : z_ck1 285 z_kL23 = true := by decide +kernel
theorem z_ckL24 : z_ck1 285 z_kL24 = true := by decide +kernel
theorem z_ckL25 : z_ck1 285 z_kL25 = true := by decide +kernel
theorem z_ckL26 : z_ck1 285 z_kL26 = true := by decide +kernel
theorem z_ckL27 : z_ck1 285 z_kL27 = true := by decide +kernel
theorem z_ckL28 : z_ck1 285 z_kL28 = true := by decide +kernel
theorem z_ckL29 : z_ck1 285 z_kL29 = true := by decide +kernel
theorem z_ckL30 : z_ck1 285 z_kL30 = true := by decide +kernel
theorem z_ckL31 : z_ck1 285 z_kL31 = true := by decide +kernel
theorem z_ckL32 : z_ck1 285 z_kL32 = true := by decide +kernel
theorem z_ckL33 : z_ck1 285 z_kL33 = true := by decide +kernel
theorem z_ckL34 : z_ck1 285 z_kL34 = true := by decide +kernel
theorem z_ckL35 : z_ck1 285 z_kL35 = true := by decide +kernel
theorem z_ckL36 : z_ck1 285 z_kL36 = true := by decide +kernel
theorem z_ckL37 : z_ck1 285 z_kL37 = true := by decide +kernel
theorem z_ckL38 : z_ck1 285 z_kL38 = true := by decide +kernel
theorem z_ckL39 : z_ck1 285 z_kL39 = true := by decide +kernel
theorem z_ckL40 : z_ck1 285 z_kL40 = true := by decide +kernel
theorem z_ckL41 : z_ck1 285 z_kL41 = true := by decide +kernel
theorem z_ckL42 : z_ck1 285 z_kL42 = true := by decide +kernel
theorem z_ckL43 : z_ck1 285 z_kL43 = true := by decide +kernel
theorem z_ckL44 : z_ck1 285 z_kL44 = true := by decide +kernel
theorem z_ckL45 : z_ck1 285 z_kL45 = true := by decide +kernel
theorem z_ckL46 : z_ck1 285 z_kL46 = true := by decide +kernel
theorem z_ckL47 : z_ck1 285 z_kL47 = true := by decide +kernel
theorem z_ckL48 : z_ck1 285 z_kL48 = true := by decide +kernel
theorem z_ckL49 : z_ck1 285 z_kL49 = true := by decide +kernel
theorem z_ckL50 : z_ck1 285 z_kL50 = true := by decide +kernel
theorem z_ckL51 : z_ck1 285 z_kL51 = true := by decide +kernel
theorem z_ckL52 : z_ck1 285 z_kL52 = true := by decide +kernel
theorem z_ckL53 : z_ck1 285 z_kL53 = true := by decide +kernel
theorem z_ckL54 : z_ck1 285 z_kL54 = true := by decide +kernel
theorem z_ckL55 : z_ck1 285 z_kL55 = true := by decide +kernel
theorem z_ckL56 : z_ck1 285 z_kL56 = true := by decide +kernel
theorem z_ckL57 : z_ck1 285 z_kL57 = true := by decide +kernel
theorem z_ckL58 : z_ck1 285 z_kL58 = true := by decide +kernel
theorem z_ckL59 : z_ck1 285 z_kL59 = true := by decide +kernel
theorem z_ckL60 : z_ck1 285 z_kL60 = true := by decide +kernel
theorem z_ckL61 : z_ck1 285 z_kL61 = true := by decide +kernel
theorem z_ckL62 : z_ck1 285 z_kL62 = true := by decide +kernel
theorem z_ckg17b : z_cka 285 = true := by
  show [z_kL0, z_kL1, z_kL2, z_kL3, z_kL4, z_kL5, z_kL6, z_kL7, z_kL8, z_kL9, z_kL10, z_kL11, z_kL12, z_kL13, z_kL14, z_kL15, z_kL16, z_kL17, z_kL18, z_kL19, z_kL20, z_kL21, z_kL22, z_kL23, z_kL24, z_kL25, z_kL26, z_kL27, z_kL28, z_kL29, z_kL30, z_kL31, z_kL32, z_kL33, z_kL34, z_kL35, z_kL36, z_kL37, z_kL38, z_kL39, z_kL40, z_kL41, z_kL42, z_kL43, z_kL44, z_kL45, z_kL46, z_kL47, z_kL48, z_kL49, z_kL50, z_kL51, z_kL52, z_kL53, z_kL54, z_kL55, z_kL56, z_kL57, z_kL58, z_kL59, z_kL60, z_kL61, z_kL62].all (z_ck1 285) = true
  simp only [List.all_cons, List.all_nil, Bool.and_true, z_ckL0, z_ckL1, z_ckL2, z_ckL3, z_ckL4, z_ckL5, z_ckL6, z_ckL7, z_ckL8, z_ckL9, z_ckL10, z_ckL11, z_ckL12, z_ckL13, z_ckL14, z_ckL15, z_ckL16, z_ckL17, z_ckL18, z_ckL19, z_ckL20, z_ckL21, z_ckL22, z_ckL23, z_ckL24, z_ckL25, z_ckL26, z_ckL27, z_ckL28, z_ckL29, z_ckL30, z_ckL31, z_ckL32, z_ckL33, z_ckL34, z_ckL35, z_ckL36, z_ckL37, z_ckL38, z_ckL39, z_ckL40, z_ckL41, z_ckL42, z_ckL43, z_ckL44, z_ckL45, z_ckL46, z_ckL47, z_ckL48, z_ckL49, z_ckL50, z_ckL51, z_ckL52, z_ckL53, z_ckL54, z_ckL55, z_ckL56, z_ckL57, z_ckL58, z_ckL59, z_ckL60, z_ckL61, z_ckL62]
end
section
set_option maxRecDepth 100000 in
theorem z_cwp0 : lw_tbl[837]? = some (z_cw 0) := rfl
set_option maxRecDepth 100000 in
theorem z_cwp1 : lw_tbl[994]? = some (z_cw 1) := rfl
set_option maxRecDepth 100000 in
theorem z_cwp2 : lw_tbl[1042]? = some (z_cw 2) := rfl
set_option maxRecDepth 100000 in
theorem z_cwp3 : lw_tbl[126]? = some (z_cw 3) := rfl
set_option maxRecDepth 100000 in
theorem z_cwp4 : lw_tbl[1070]? = some (z_cw 4) := rfl
set_option maxRecDepth 100000 in
theorem z_cwp5 : lw_tbl[678]? = some (z_cw 5) := rfl
set_option maxRecDepth 100000 in
theorem z_cwp6 : lw_tbl[666]? = some (z_cw 6) := rfl
set_option maxRecDepth 100000 in
theorem z_cwp7 : lw_tbl[682]? = some (z_cw 7) := rfl
set_option maxRecDepth 100000 in
theorem z_cwp8 : lw_tbl[670]? = some (z_cw 8) := rfl
set_option maxRecDepth 100000 in
theorem z_cwp9 : lw_tbl[735]? = some (z_cw 9) := rfl
set_option maxRecDepth 100000 in
theorem z_cwp10 : lw_tbl[718]? = some (z_cw 10) := rfl
set_option maxRecDepth 100000 in
theorem z_cwp11 : lw_tbl[714]? = some (z_cw 11) := rfl
set_option maxRecDepth 100000 in
theorem z_cwp12 : lw_tbl[697]? = some (z_cw 12) := rfl
set_option maxRecDepth 100000 in
theorem z_cwp13 : lw_tbl[701]? = some (z_cw 13) := rfl
set_option maxRecDepth 100000 in
theorem z_cwp14 : lw_tbl[706]? = some (z_cw 14) := rfl
set_option maxRecDepth 100000 in
theorem z_cwp15 : lw_tbl[745]? = some (z_cw 15) := rfl
set_option maxRecDepth 100000 in
theorem z_cwp16 : lw_tbl[749]? = some (z_cw 16) := rfl
set_option maxRecDepth 100000 in
theorem z_cwp17 : lw_tbl[753]? = some (z_cw 17) := rfl
set_option maxRecDepth 100000 in
theorem z_cwp18 : lw_tbl[160]? = some (z_cw 18) := rfl
set_option maxRecDepth 100000 in
theorem z_cwp19 : lw_tbl[439]? = some (z_cw 19) := rfl
set_option maxRecDepth 100000 in
theorem z_cwp20 : lw_tbl[462]? = some (z_cw 20) := rfl
set_option maxRecDepth 100000 in
theorem z_cwp21 : lw_tbl[604]? = some (z_cw 21) := rfl
set_option maxRecDepth 100000 in
theorem z_cwp22 : lw_tbl[490]? = some (z_cw 22) := rfl
set_option maxRecDepth 100000 in
theorem z_cwp23 : lw_tbl[458]? = some (z_cw 23) := rfl
set_option maxRecDepth 100000 in
theorem z_cwp24 : lw_tbl[506]? = some (z_cw 24) := rfl
set_option maxRecDepth 100000 in
theorem z_cwp25 : lw_tbl[515]? = some (z_cw 25) := rfl
set_option maxRecDepth 100000 in
theorem z_cwp26 : lw_tbl[466]? = some (z_cw 26) := rfl
set_option maxRecDepth 100000 in
theorem z_cwp27 : lw_tbl[799]? = some (z_cw 27) := rfl
set_option maxRecDepth 100000 in
theorem z_cwp28 : lw_tbl[1008]? = some (z_cw 28) := rfl
set_option maxRecDepth 100000 in
theorem z_cwp29 : lw_tbl[1033]? = some (z_cw 29) := rfl
set_option maxRecDepth 100000 in
theorem z_cwp30 : lw_tbl[1031]? = some (z_cw 30) := rfl
set_option maxRecDepth 100000 in
theorem z_cwp31 : lw_tbl[1048]? = some (z_cw 31) := rfl
set_option maxRecDepth 100000 in
theorem z_cwp32 : lw_tbl[271]? = some (z_cw 32) := rfl
set_option maxRecDepth 100000 in
theorem z_cwp33 : lw_tbl[945]? = some (z_cw 33) := rfl
set_option maxRecDepth 100000 in
theorem z_cwp34 : lw_tbl[953]? = some (z_cw 34) := rfl
set_option maxRecDepth 100000 in
theorem z_cwp35 : lw_tbl[826]? = some (z_cw 35) := rfl
set_option maxRecDepth 100000 in
theorem z_cwp36 : lw_tbl[1004]? = some (z_cw 36) := rfl
set_option maxRecDepth 100000 in
theorem z_cwp37 : lw_tbl[1021]? = some (z_cw 37) := rfl
set_option maxRecDepth 100000 in
theorem z_cwp38 : lw_tbl[796]? = some (z_cw 38) := rfl
set_option maxRecDepth 100000 in
theorem z_cwp39 : lw_tbl[1016]? = some (z_cw 39) := rfl
set_option maxRecDepth 100000 in
theorem z_cwp40 : lw_tbl[1028]? = some (z_cw 40) := rfl
set_option maxRecDepth 100000 in
theorem z_cwp41 : lw_tbl[255]? = some (z_cw 41) := rfl
set_option maxRecDepth 100000 in
theorem z_cwp42 : lw_tbl[561]? = some (z_cw 42) := rfl
set_option maxRecDepth 100000 in
theorem z_cwp43 : lw_tbl[565]? = some (z_cw 43) := rfl
set_option maxRecDepth 100000 in
theorem z_cwp44 : lw_tbl[570]? = some (z_cw 44) := rfl
set_option maxRecDepth 100000 in
theorem z_cwp45 : lw_tbl[207]? = some (z_cw 45) := rfl
set_option maxRecDepth 100000 in
theorem z_cwp46 : lw_tbl[345]? = some (z_cw 46) := rfl
set_option maxRecDepth 100000 in
theorem z_cwp47 : lw_tbl[356]? = some (z_cw 47) := rfl
set_option maxRecDepth 100000 in
theorem z_cwp48 : lw_tbl[378]? = some (z_cw 48) := rfl
set_option maxRecDepth 100000 in
theorem z_cwp49 : lw_tbl[447]? = some (z_cw 49) := rfl
set_option maxRecDepth 100000 in
theorem z_cwp50 : lw_tbl[454]? = some (z_cw 50) := rfl
set_option maxRecDepth 100000 in
theorem z_cwp51 : lw_tbl[360]? = some (z_cw 51) := rfl
set_option maxRecDepth 100000 in
theorem z_cwp52 : lw_tbl[368]? = some (z_cw 52) := rfl
set_option maxRecDepth 100000 in
theorem z_cwp53 : lw_tbl[364]? = some (z_cw 53) := rfl
set_option maxRecDepth 100000 in
theorem z_cwp54 : lw_tbl[371]? = some (z_cw 54) := rfl
set_option maxRecDepth 100000 in
theorem z_cwp55 : lw_tbl[374]? = some (z_cw 55) := rfl
set_option maxRecDepth 100000 in
theorem z_cwp56 : lw_tbl[443]? = some (z_cw 56) := rfl
set_option maxRecDepth 100000 in
theorem z_cwp57 : lw_tbl[383]? = some (z_cw 57) := rfl
set_option maxRecDepth 100000 in
theorem z_cwp58 : lw_tbl[435]? = some (z_cw 58) := rfl
set_option maxRecDepth 100000 in
theorem z_cwp59 : lw_tbl[233]? = some (z_cw 59) := rfl
set_option maxRecDepth 100000 in
theorem z_cwp60 : lw_tbl[987]? = some (z_cw 60) := rfl
set_option maxRecDepth 100000 in
theorem z_cwp61 : lw_tbl[998]? = some (z_cw 61) := rfl
set_option maxRecDepth 100000 in
theorem z_cwp62 : lw_tbl[118]? = some (z_cw 62) := rfl
set_option maxRecDepth 100000 in
theorem z_cwp63 : lw_tbl[1065]? = some (z_cw 63) := rfl
set_option maxRecDepth 100000 in
theorem z_cwp64 : lw_tbl[618]? = some (z_cw 64) := rfl
set_option maxRecDepth 100000 in
theorem z_cwp65 : lw_tbl[761]? = some (z_cw 65) := rfl
set_option maxRecDepth 100000 in
theorem z_cwp66 : lw_tbl[110]? = some (z_cw 66) := rfl
set_option maxRecDepth 100000 in
theorem z_cwp67 : lw_tbl[341]? = some (z_cw 67) := rfl
set_option maxRecDepth 100000 in
theorem z_cwp68 : lw_tbl[349]? = some (z_cw 68) := rfl
set_option maxRecDepth 100000 in
theorem z_cwp69 : lw_tbl[477]? = some (z_cw 69) := rfl
set_option maxRecDepth 100000 in
theorem z_cwp70 : lw_tbl[482]? = some (z_cw 70) := rfl
set_option maxRecDepth 100000 in
theorem z_cwp71 : lw_tbl[495]? = some (z_cw 71) := rfl
set_option maxRecDepth 100000 in
theorem z_cwp72 : lw_tbl[499]? = some (z_cw 72) := rfl
set_option maxRecDepth 100000 in
theorem z_cwp73 : lw_tbl[511]? = some (z_cw 73) := rfl
set_option maxRecDepth 100000 in
theorem z_cwp74 : lw_tbl[519]? = some (z_cw 74) := rfl
set_option maxRecDepth 100000 in
theorem z_cwp75 : lw_tbl[539]? = some (z_cw 75) := rfl
set_option maxRecDepth 100000 in
theorem z_cwp76 : lw_tbl[547]? = some (z_cw 76) := rfl
set_option maxRecDepth 100000 in
theorem z_cwp77 : lw_tbl[554]? = some (z_cw 77) := rfl
set_option maxRecDepth 100000 in
theorem z_cwp78 : lw_tbl[576]? = some (z_cw 78) := rfl
set_option maxRecDepth 100000 in
theorem z_cwp79 : lw_tbl[596]? = some (z_cw 79) := rfl
set_option maxRecDepth 100000 in
theorem z_cwp80 : lw_tbl[614]? = some (z_cw 80) := rfl
set_option maxRecDepth 100000 in
theorem z_cwp81 : lw_tbl[623]? = some (z_cw 81) := rfl
set_option maxRecDepth 100000 in
theorem z_cwp82 : lw_tbl[635]? = some (z_cw 82) := rfl
set_option maxRecDepth 100000 in
theorem z_cwp83 : lw_tbl[643]? = some (z_cw 83) := rfl
set_option maxRecDepth 100000 in
theorem z_cwp84 : lw_tbl[662]? = some (z_cw 84) := rfl
set_option maxRecDepth 100000 in
theorem z_cwp85 : lw_tbl[674]? = some (z_cw 85) := rfl
set_option maxRecDepth 100000 in
theorem z_cwp86 : lw_tbl[687]? = some (z_cw 86) := rfl
set_option maxRecDepth 100000 in
theorem z_cwp87 : lw_tbl[691]? = some (z_cw 87) := rfl
set_option maxRecDepth 100000 in
theorem z_cwp88 : lw_tbl[723]? = some (z_cw 88) := rfl
set_option maxRecDepth 100000 in
theorem z_cwp89 : lw_tbl[731]? = some (z_cw 89) := rfl
set_option maxRecDepth 100000 in
theorem z_cwp90 : lw_tbl[741]? = some (z_cw 90) := rfl
set_option maxRecDepth 100000 in
theorem z_cwp91 : lw_tbl[766]? = some (z_cw 91) := rfl
set_option maxRecDepth 100000 in
theorem z_cwp92 : lw_tbl[770]? = some (z_cw 92) := rfl
set_option maxRecDepth 100000 in
theorem z_cwp93 : lw_tbl[778]? = some (z_cw 93) := rfl
set_option maxRecDepth 100000 in
theorem z_cwp94 : lw_tbl[782]? = some (z_cw 94) := rfl
set_option maxRecDepth 100000 in
theorem z_cwp95 : lw_tbl[855]? = some (z_cw 95) := rfl
set_option maxRecDepth 100000 in
theorem z_cwp96 : lw_tbl[863]? = some (z_cw 96) := rfl
set_option maxRecDepth 100000 in
theorem z_cwp97 : lw_tbl[867]? = some (z_cw 97) := rfl
set_option maxRecDepth 100000 in
theorem z_cwp98 : lw_tbl[883]? = some (z_cw 98) := rfl
set_option maxRecDepth 100000 in
theorem z_cwp99 : lw_tbl[888]? = some (z_cw 99) := rfl
set_option maxRecDepth 100000 in
theorem z_cwp100 : lw_tbl[892]? = some (z_cw 100) := rfl
set_option maxRecDepth 100000 in
theorem z_cwp101 : lw_tbl[906]? = some (z_cw 101) := rfl
set_option maxRecDepth 100000 in
theorem z_cwp102 : lw_tbl[910]? = some (z_cw 102) := rfl
set_option maxRecDepth 100000 in
theorem z_cwp103 : lw_tbl[914]? = some (z_cw 103) := rfl
set_option maxRecDepth 100000 in
theorem z_cwp104 : lw_tbl[918]? = some (z_cw 104) := rfl
set_option maxRecDepth 100000 in
theorem z_cwp105 : lw_tbl[922]? = some (z_cw 105) := rfl
set_option maxRecDepth 100000 in
theorem z_cwp106 : lw_tbl[930]? = some (z_cw 106) := rfl
set_option maxRecDepth 100000 in
theorem z_cwp107 : lw_tbl[934]? = some (z_cw 107) := rfl
set_option maxRecDepth 100000 in
theorem z_cwp108 : lw_tbl[938]? = some (z_cw 108) := rfl
set_option maxRecDepth 100000 in
theorem z_cwp109 : lw_tbl[949]? = some (z_cw 109) := rfl
set_option maxRecDepth 100000 in
theorem z_cwp110 : lw_tbl[957]? = some (z_cw 110) := rfl
set_option maxRecDepth 100000 in
theorem z_cwp111 : lw_tbl[961]? = some (z_cw 111) := rfl
set_option maxRecDepth 100000 in
theorem z_cwp112 : lw_tbl[972]? = some (z_cw 112) := rfl
set_option maxRecDepth 100000 in
theorem z_cwp113 : lw_tbl[983]? = some (z_cw 113) := rfl
set_option maxRecDepth 100000 in
theorem z_cwp114 : lw_tbl[1053]? = some (z_cw 114) := rfl
set_option maxRecDepth 100000 in
theorem z_cwp115 : lw_tbl[1057]? = some (z_cw 115) := rfl
set_option maxRecDepth 100000 in
theorem z_cwp116 : lw_tbl[1061]? = some (z_cw 116) := rfl
set_option maxRecDepth 100000 in
theorem z_cwp117 : lw_tbl[1074]? = some (z_cw 117) := rfl
set_option maxRecDepth 100000 in
theorem z_cwp118 : lw_tbl[352]? = some (z_cw 118) := rfl
set_option maxRecDepth 100000 in
theorem z_cwp119 : lw_tbl[486]? = some (z_cw 119) := rfl
set_option maxRecDepth 100000 in
theorem z_cwp120 : lw_tbl[859]? = some (z_cw 120) := rfl
set_option maxRecDepth 100000 in
theorem z_cwp121 : lw_tbl[579]? = some (z_cw 121) := rfl
set_option maxRecDepth 100000 in
theorem z_cwp122 : lw_tbl[502]? = some (z_cw 122) := rfl
set_option maxRecDepth 100000 in
theorem z_cwp123 : lw_tbl[941]? = some (z_cw 123) := rfl
set_option maxRecDepth 100000 in
theorem z_cwp124 : lw_tbl[964]? = some (z_cw 124) := rfl
set_option maxRecDepth 100000 in
theorem z_cwp125 : lw_tbl[926]? = some (z_cw 125) := rfl
set_option maxRecDepth 100000 in
theorem z_cwp126 : lw_tbl[526]? = some (z_cw 126) := rfl
set_option maxRecDepth 100000 in
theorem z_cwp127 : lw_tbl[550]? = some (z_cw 127) := rfl
set_option maxRecDepth 100000 in
theorem z_cwp128 : lw_tbl[557]? = some (z_cw 128) := rfl
set_option maxRecDepth 100000 in
theorem z_cwp129 : lw_tbl[788]? = some (z_cw 129) := rfl
set_option maxRecDepth 100000 in
theorem z_cwp130 : lw_tbl[582]? = some (z_cw 130) := rfl
set_option maxRecDepth 100000 in
theorem z_cwp131 : lw_tbl[585]? = some (z_cw 131) := rfl
set_option maxRecDepth 100000 in
theorem z_cwp132 : lw_tbl[591]? = some (z_cw 132) := rfl
set_option maxRecDepth 100000 in
theorem z_cwp133 : lw_tbl[773]? = some (z_cw 133) := rfl
set_option maxRecDepth 100000 in
theorem z_cwp134 : lw_tbl[523]? = some (z_cw 134) := rfl
set_option maxRecDepth 100000 in
theorem z_cwp135 : lw_tbl[531]? = some (z_cw 135) := rfl
set_option maxRecDepth 100000 in
theorem z_cwp136 : lw_tbl[535]? = some (z_cw 136) := rfl
set_option maxRecDepth 100000 in
theorem z_cwp137 : lw_tbl[627]? = some (z_cw 137) := rfl
set_option maxRecDepth 100000 in
theorem z_cwp138 : lw_tbl[631]? = some (z_cw 138) := rfl
set_option maxRecDepth 100000 in
theorem z_cwp139 : lw_tbl[639]? = some (z_cw 139) := rfl
set_option maxRecDepth 100000 in
theorem z_cwp140 : lw_tbl[600]? = some (z_cw 140) := rfl
set_option maxRecDepth 100000 in
theorem z_cwp141 : lw_tbl[658]? = some (z_cw 141) := rfl
set_option maxRecDepth 100000 in
theorem z_cwp142 : lw_tbl[647]? = some (z_cw 142) := rfl
set_option maxRecDepth 100000 in
theorem z_cwp143 : lw_tbl[651]? = some (z_cw 143) := rfl
set_option maxRecDepth 100000 in
theorem z_cwp144 : lw_tbl[727]? = some (z_cw 144) := rfl
set_option maxRecDepth 100000 in
theorem z_cwp145 : lw_tbl[757]? = some (z_cw 145) := rfl
set_option maxRecDepth 100000 in
theorem z_cwp146 : lw_tbl[785]? = some (z_cw 146) := rfl
set_option maxRecDepth 100000 in
theorem z_cwp147 : lw_tbl[791]? = some (z_cw 147) := rfl
set_option maxRecDepth 100000 in
theorem z_cwp148 : lw_tbl[870]? = some (z_cw 148) := rfl
set_option maxRecDepth 100000 in
theorem z_cwp149 : lw_tbl[873]? = some (z_cw 149) := rfl
set_option maxRecDepth 100000 in
theorem z_cwp150 : lw_tbl[876]? = some (z_cw 150) := rfl
set_option maxRecDepth 100000 in
theorem z_cwp151 : lw_tbl[879]? = some (z_cw 151) := rfl
set_option maxRecDepth 100000 in
theorem z_cwp152 : lw_tbl[901]? = some (z_cw 152) := rfl
set_option maxRecDepth 100000 in
theorem z_cwp153 : lw_tbl[896]? = some (z_cw 153) := rfl
set_option maxRecDepth 100000 in
theorem z_cwp154 : lw_tbl[968]? = some (z_cw 154) := rfl
set_option maxRecDepth 100000 in
theorem z_cwp155 : lw_tbl[976]? = some (z_cw 155) := rfl
set_option maxRecDepth 100000 in
theorem z_cwp156 : lw_tbl[979]? = some (z_cw 156) := rfl
set_option maxRecDepth 100000 in
theorem z_cwp157 : lw_tbl[1079]? = some (z_cw 157) := rfl
set_option maxRecDepth 100000 in
theorem z_cwp158 : lw_tbl[1265]? = some (z_cw 158) := rfl
set_option maxRecDepth 100000 in
theorem z_cwp159 : lw_tbl[1083]? = some (z_cw 159) := rfl
set_option maxRecDepth 100000 in
theorem z_cwp160 : lw_tbl[1089]? = some (z_cw 160) := rfl
set_option maxRecDepth 100000 in
theorem z_cwp161 : lw_tbl[1086]? = some (z_cw 161) := rfl
set_option maxRecDepth 100000 in
theorem z_cwp162 : lw_tbl[1273]? = some (z_cw 162) := rfl
set_option maxRecDepth 100000 in
theorem z_cwp163 : lw_tbl[1356]? = some (z_cw 163) := rfl
set_option maxRecDepth 100000 in
theorem z_cwp164 : lw_tbl[1341]? = some (z_cw 164) := rfl
set_option maxRecDepth 100000 in
theorem z_cwp165 : lw_tbl[1386]? = some (z_cw 165) := rfl
set_option maxRecDepth 100000 in
theorem z_cwp166 : lw_tbl[1398]? = some (z_cw 166) := rfl
set_option maxRecDepth 100000 in
theorem z_cwp167 : lw_tbl[1345]? = some (z_cw 167) := rfl
set_option maxRecDepth 100000 in
theorem z_cwp168 : lw_tbl[1349]? = some (z_cw 168) := rfl
set_option maxRecDepth 100000 in
theorem z_cwp169 : lw_tbl[1333]? = some (z_cw 169) := rfl
set_option maxRecDepth 100000 in
theorem z_cwp170 : lw_tbl[1325]? = some (z_cw 170) := rfl
set_option maxRecDepth 100000 in
theorem z_cwp171 : lw_tbl[1322]? = some (z_cw 171) := rfl
set_option maxRecDepth 100000 in
theorem z_cwp172 : lw_tbl[1262]? = some (z_cw 172) := rfl
set_option maxRecDepth 100000 in
theorem z_cwp173 : lw_tbl[1281]? = some (z_cw 173) := rfl
set_option maxRecDepth 100000 in
theorem z_cwp174 : lw_tbl[1284]? = some (z_cw 174) := rfl
set_option maxRecDepth 100000 in
theorem z_cwp175 : lw_tbl[1287]? = some (z_cw 175) := rfl
set_option maxRecDepth 100000 in
theorem z_cwp176 : lw_tbl[1277]? = some (z_cw 176) := rfl
set_option maxRecDepth 100000 in
theorem z_cwp177 : lw_tbl[1295]? = some (z_cw 177) := rfl
set_option maxRecDepth 100000 in
theorem z_cwp178 : lw_tbl[1299]? = some (z_cw 178) := rfl
set_option maxRecDepth 100000 in
theorem z_cwp179 : lw_tbl[1303]? = some (z_cw 179) := rfl
set_option maxRecDepth 100000 in
theorem z_cwp180 : lw_tbl[1318]? = some (z_cw 180) := rfl
set_option maxRecDepth 100000 in
theorem z_cwp181 : lw_tbl[1314]? = some (z_cw 181) := rfl
set_option maxRecDepth 100000 in
theorem z_cwp182 : lw_tbl[1308]? = some (z_cw 182) := rfl
set_option maxRecDepth 100000 in
theorem z_cwp183 : lw_tbl[1270]? = some (z_cw 183) := rfl
set_option maxRecDepth 100000 in
theorem z_cwp184 : lw_tbl[1329]? = some (z_cw 184) := rfl
set_option maxRecDepth 100000 in
theorem z_cwp185 : lw_tbl[1337]? = some (z_cw 185) := rfl
set_option maxRecDepth 100000 in
theorem z_cwp186 : lw_tbl[1353]? = some (z_cw 186) := rfl
set_option maxRecDepth 100000 in
theorem z_cwp187 : lw_tbl[1360]? = some (z_cw 187) := rfl
set_option maxRecDepth 100000 in
theorem z_cwp188 : lw_tbl[1371]? = some (z_cw 188) := rfl
set_option maxRecDepth 100000 in
theorem z_cwp189 : lw_tbl[1379]? = some (z_cw 189) := rfl
set_option maxRecDepth 100000 in
theorem z_cwp190 : lw_tbl[1375]? = some (z_cw 190) := rfl
set_option maxRecDepth 100000 in
theorem z_cwp191 : lw_tbl[1383]? = some (z_cw 191) := rfl
set_option maxRecDepth 100000 in
theorem z_cwp192 : lw_tbl[1390]? = some (z_cw 192) := rfl
set_option maxRecDepth 100000 in
theorem z_cwp193 : lw_tbl[1410]? = some (z_cw 193) := rfl
set_option maxRecDepth 100000 in
theorem z_cwp194 : lw_tbl[1406]? = some (z_cw 194) := rfl
set_option maxRecDepth 100000 in
theorem z_cwp195 : lw_tbl[1417]? = some (z_cw 195) := rfl
set_option maxRecDepth 100000 in
theorem z_cwp196 : lw_tbl[1402]? = some (z_cw 196) := rfl
set_option maxRecDepth 100000 in
theorem z_cwp197 : lw_tbl[1394]? = some (z_cw 197) := rfl
set_option maxRecDepth 100000 in
theorem z_cwp198 : lw_tbl[1421]? = some (z_cw 198) := rfl
set_option maxRecDepth 100000 in
theorem z_cwp199 : lw_tbl[1425]? = some (z_cw 199) := rfl
set_option maxRecDepth 100000 in
theorem z_cwp200 : lw_tbl[1414]? = some (z_cw 200) := rfl
set_option maxRecDepth 100000 in
theorem z_cwp201 : lw_tbl[1437]? = some (z_cw 201) := rfl
set_option maxRecDepth 100000 in
theorem z_cwp202 : lw_tbl[1433]? = some (z_cw 202) := rfl
set_option maxRecDepth 100000 in
theorem z_cwp203 : lw_tbl[1429]? = some (z_cw 203) := rfl
set_option maxRecDepth 100000 in
theorem z_cwp204 : lw_tbl[1445]? = some (z_cw 204) := rfl
set_option maxRecDepth 100000 in
theorem z_cwp205 : lw_tbl[1441]? = some (z_cw 205) := rfl
set_option maxRecDepth 100000 in
theorem z_cwp206 : lw_tbl[1453]? = some (z_cw 206) := rfl
set_option maxRecDepth 100000 in
theorem z_cwp207 : lw_tbl[1449]? = some (z_cw 207) := rfl
set_option maxRecDepth 100000 in
theorem z_cwp208 : lw_tbl[1461]? = some (z_cw 208) := rfl
set_option maxRecDepth 100000 in
theorem z_cwp209 : lw_tbl[1457]? = some (z_cw 209) := rfl
set_option maxRecDepth 100000 in
theorem z_cwp210 : lw_tbl[1465]? = some (z_cw 210) := rfl
set_option maxRecDepth 100000 in
theorem z_cwp211 : lw_tbl[1469]? = some (z_cw 211) := rfl
set_option maxRecDepth 100000 in
theorem z_cwp212 : lw_tbl[1473]? = some (z_cw 212) := rfl
set_option maxRecDepth 100000 in
theorem z_cwp213 : lw_tbl[1477]? = some (z_cw 213) := rfl
set_option maxRecDepth 100000 in
theorem z_cwp214 : lw_tbl[1498]? = some (z_cw 214) := rfl
set_option maxRecDepth 100000 in
theorem z_cwp215 : lw_tbl[1490]? = some (z_cw 215) := rfl
set_option maxRecDepth 100000 in
theorem z_cwp216 : lw_tbl[1486]? = some (z_cw 216) := rfl
set_option maxRecDepth 100000 in
theorem z_cwp217 : lw_tbl[1494]? = some (z_cw 217) := rfl
set_option maxRecDepth 100000 in
theorem z_cwp218 : lw_tbl[1481]? = some (z_cw 218) := rfl
set_option maxRecDepth 100000 in
theorem z_cwp219 : lw_tbl[1506]? = some (z_cw 219) := rfl
set_option maxRecDepth 100000 in
theorem z_cwp220 : lw_tbl[1502]? = some (z_cw 220) := rfl
set_option maxRecDepth 100000 in
theorem z_cwp221 : lw_tbl[1510]? = some (z_cw 221) := rfl
set_option maxRecDepth 100000 in
theorem z_cwp222 : lw_tbl[1522]? = some (z_cw 222) := rfl
set_option maxRecDepth 100000 in
theorem z_cwp223 : lw_tbl[1518]? = some (z_cw 223) := rfl
set_option maxRecDepth 100000 in
theorem z_cwp224 : lw_tbl[1514]? = some (z_cw 224) := rfl
set_option maxRecDepth 100000 in
theorem z_cwp225 : lw_tbl[1527]? = some (z_cw 225) := rfl
set_option maxRecDepth 100000 in
theorem z_cwp226 : lw_tbl[1531]? = some (z_cw 226) := rfl
set_option maxRecDepth 100000 in
theorem z_cwp227 : lw_tbl[1535]? = some (z_cw 227) := rfl
set_option maxRecDepth 100000 in
theorem z_cwp228 : lw_tbl[1547]? = some (z_cw 228) := rfl
set_option maxRecDepth 100000 in
theorem z_cwp229 : lw_tbl[1551]? = some (z_cw 229) := rfl
set_option maxRecDepth 100000 in
theorem z_cwp230 : lw_tbl[1539]? = some (z_cw 230) := rfl
set_option maxRecDepth 100000 in
theorem z_cwp231 : lw_tbl[1543]? = some (z_cw 231) := rfl
set_option maxRecDepth 100000 in
theorem z_cwp232 : lw_tbl[1555]? = some (z_cw 232) := rfl
set_option maxRecDepth 100000 in
theorem z_cwp233 : lw_tbl[1563]? = some (z_cw 233) := rfl
set_option maxRecDepth 100000 in
theorem z_cwp234 : lw_tbl[1559]? = some (z_cw 234) := rfl
set_option maxRecDepth 100000 in
theorem z_cwp235 : lw_tbl[1568]? = some (z_cw 235) := rfl
set_option maxRecDepth 100000 in
theorem z_cwp236 : lw_tbl[1573]? = some (z_cw 236) := rfl
set_option maxRecDepth 100000 in
theorem z_cwp237 : lw_tbl[1585]? = some (z_cw 237) := rfl
set_option maxRecDepth 100000 in
theorem z_cwp238 : lw_tbl[1581]? = some (z_cw 238) := rfl
set_option maxRecDepth 100000 in
theorem z_cwp239 : lw_tbl[1577]? = some (z_cw 239) := rfl
set_option maxRecDepth 100000 in
theorem z_cwp240 : lw_tbl[1591]? = some (z_cw 240) := rfl
set_option maxRecDepth 100000 in
theorem z_cwp241 : lw_tbl[1595]? = some (z_cw 241) := rfl
set_option maxRecDepth 100000 in
theorem z_cwp242 : lw_tbl[1599]? = some (z_cw 242) := rfl
set_option maxRecDepth 100000 in
theorem z_cwp243 : lw_tbl[1607]? = some (z_cw 243) := rfl
set_option maxRecDepth 100000 in
theorem z_cwp244 : lw_tbl[1603]? = some (z_cw 244) := rfl
set_option maxRecDepth 100000 in
theorem z_cwp245 : lw_tbl[1615]? = some (z_cw 245) := rfl
set_option maxRecDepth 100000 in
theorem z_cwp246 : lw_tbl[1611]? = some (z_cw 246) := rfl
set_option maxRecDepth 100000 in
theorem z_cwp247 : lw_tbl[1619]? = some (z_cw 247) := rfl
set_option maxRecDepth 100000 in
theorem z_cwp248 : lw_tbl[1623]? = some (z_cw 248) := rfl
set_option maxRecDepth 100000 in
theorem z_cwp249 : lw_tbl[1363]? = some (z_cw 249) := rfl
set_option maxRecDepth 100000 in
theorem z_cwp250 : lw_tbl[1627]? = some (z_cw 250) := rfl
set_option maxRecDepth 100000 in
theorem z_cwp251 : lw_tbl[1631]? = some (z_cw 251) := rfl
set_option maxRecDepth 100000 in
theorem z_cwp252 : lw_tbl[1367]? = some (z_cw 252) := rfl
set_option maxRecDepth 100000 in
theorem z_cwp253 : lw_tbl[1635]? = some (z_cw 253) := rfl
set_option maxRecDepth 100000 in
theorem z_cwp254 : lw_tbl[1643]? = some (z_cw 254) := rfl
set_option maxRecDepth 100000 in
theorem z_cwp255 : lw_tbl[1639]? = some (z_cw 255) := rfl
set_option maxRecDepth 100000 in
theorem z_cwp256 : lw_tbl[1651]? = some (z_cw 256) := rfl
set_option maxRecDepth 100000 in
theorem z_cwp257 : lw_tbl[1654]? = some (z_cw 257) := rfl
set_option maxRecDepth 100000 in
theorem z_cwp258 : lw_tbl[1647]? = some (z_cw 258) := rfl
set_option maxRecDepth 100000 in
theorem z_cwp259 : lw_tbl[1666]? = some (z_cw 259) := rfl
set_option maxRecDepth 100000 in
theorem z_cwp260 : lw_tbl[1662]? = some (z_cw 260) := rfl
set_option maxRecDepth 100000 in
theorem z_cwp261 : lw_tbl[1678]? = some (z_cw 261) := rfl
set_option maxRecDepth 100000 in
theorem z_cwp262 : lw_tbl[1674]? = some (z_cw 262) := rfl
set_option maxRecDepth 100000 in
theorem z_cwp263 : lw_tbl[1670]? = some (z_cw 263) := rfl
set_option maxRecDepth 100000 in
theorem z_cwp264 : lw_tbl[1686]? = some (z_cw 264) := rfl
set_option maxRecDepth 100000 in
theorem z_cwp265 : lw_tbl[1682]? = some (z_cw 265) := rfl
set_option maxRecDepth 100000 in
theorem z_cwp266 : lw_tbl[1694]? = some (z_cw 266) := rfl
set_option maxRecDepth 100000 in
theorem z_cwp267 : lw_tbl[1690]? = some (z_cw 267) := rfl
set_option maxRecDepth 100000 in
theorem z_cwp268 : lw_tbl[1658]? = some (z_cw 268) := rfl
set_option maxRecDepth 100000 in
theorem z_cwp269 : lw_tbl[1698]? = some (z_cw 269) := rfl
set_option maxRecDepth 100000 in
theorem z_cwp270 : lw_tbl[1702]? = some (z_cw 270) := rfl
set_option maxRecDepth 100000 in
theorem z_cwp271 : lw_tbl[1714]? = some (z_cw 271) := rfl
set_option maxRecDepth 100000 in
theorem z_cwp272 : lw_tbl[1710]? = some (z_cw 272) := rfl
set_option maxRecDepth 100000 in
theorem z_cwp273 : lw_tbl[1706]? = some (z_cw 273) := rfl
set_option maxRecDepth 100000 in
theorem z_cwp274 : lw_tbl[1718]? = some (z_cw 274) := rfl
set_option maxRecDepth 100000 in
theorem z_cwp275 : lw_tbl[469]? = some (z_cw 275) := rfl
set_option maxRecDepth 100000 in
theorem z_cwp276 : lw_tbl[588]? = some (z_cw 276) := rfl
set_option maxRecDepth 100000 in
theorem z_cwp277 : lw_tbl[654]? = some (z_cw 277) := rfl
set_option maxRecDepth 100000 in
theorem z_cwp278 : lw_tbl[387]? = some (z_cw 278) := rfl
set_option maxRecDepth 100000 in
theorem z_cwp279 : lw_tbl[397]? = some (z_cw 279) := rfl
set_option maxRecDepth 100000 in
theorem z_cwp280 : lw_tbl[391]? = some (z_cw 280) := rfl
set_option maxRecDepth 100000 in
theorem z_cwp281 : lw_tbl[401]? = some (z_cw 281) := rfl
set_option maxRecDepth 100000 in
theorem z_cwp282 : lw_tbl[407]? = some (z_cw 282) := rfl
set_option maxRecDepth 100000 in
theorem z_cwp283 : lw_tbl[404]? = some (z_cw 283) := rfl
set_option maxRecDepth 100000 in
theorem z_cwp284 : lw_tbl[412]? = some (z_cw 284) := rfl
end
section
theorem z_ndg0 : (List.range 16).flatMap (fun r => z_nda (16 * 0 + r)) = ([838, 103, 795, 995, 92, 996, 997, 999, 1000, 843, 989, 102, 995, 92, 996, 997, 1043, 1044, 843, 1037, 102, 127, 112, 113, 153, 128, 153, 129, 130, 154, 132, 153, 134, 153, 136, 153, 137, 130, 130, 128, 128, 128, 129, 129, 129, 130, 130, 128, 130, 130, 667, 89, 668, 669, 129, 129, 129, 130, 168, 736, 89, 664, 665, 737, 90, 488, 489, 667, 89, 668, 669, 130, 128, 715, 89, 716, 717, 702, 87, 525, 719, 132, 698, 89, 700, 21, 702, 87, 525, 703, 89, 705, 22, 130, 134, 134, 128, 698, 89, 700, 21, 707, 132, 708, 134, 707, 134, 709, 710, 89, 680, 681, 703, 89, 705, 22, 703, 89, 705, 22, 746, 89, 748, 24, 750, 89, 752, 25, 136, 137, 130, 136, 134] : List Nat).filterMap (fun i => lw_tbl[i]?) := by decide +kernel
theorem z_ndg1 : (List.range 16).flatMap (fun r => z_nda (16 * 1 + r)) = ([715, 89, 716, 717, 130, 136, 128, 137, 128, 136, 130, 137, 137, 161, 112, 113, 153, 162, 164, 164, 162, 164, 164, 162, 162, 605, 90, 437, 438, 606, 87, 525, 607, 607, 609, 507, 90, 456, 457, 162, 162, 162, 162, 162, 507, 90, 456, 457, 164, 164, 162, 164, 162, 467, 100, 468, 800, 112, 113, 801, 803, 807, 811, 1009, 92, 996, 997, 803, 1009, 92, 996, 997, 1034, 991, 989, 990, 989, 102, 1007, 989, 102, 1002, 1003, 104, 992, 993, 105, 1009, 92, 996, 997, 807, 803, 240, 1009, 92, 996, 997, 1049, 1013, 1011, 1012, 1011, 102, 1032, 1015, 103, 1019, 1020, 104, 1014, 1015, 103, 807] : List Nat).filterMap (fun i => lw_tbl[i]?) := by decide +kernel
theorem z_ndg2 : (List.range 16).flatMap (fun r => z_nda (16 * 2 + r)) = ([272, 112, 113, 154, 273, 275, 277, 275, 277, 273, 275, 827, 103, 795, 1005, 92, 996, 997, 1006, 1000, 832, 989, 102, 1005, 92, 996, 997, 1022, 1720, 832, 1015, 103, 804, 805, 1023, 1024, 1027, 1026, 1027, 103, 797, 102, 798, 1017, 92, 996, 997, 1018, 1013, 821, 1011, 102, 808, 809, 1017, 92, 996, 997, 1029, 1721, 821, 1030, 102, 256, 112, 113, 153, 257, 153, 259, 257, 562, 93, 564, 13, 257, 566, 165, 259, 567, 93, 568, 569, 562, 93, 564, 13, 259, 571, 90, 488, 489, 572, 87, 525, 208, 112, 113, 209, 157, 90, 210, 90, 159, 211, 213, 153, 215, 216, 217, 213, 215, 213, 213, 213, 213, 217, 357, 91, 359, 0, 375, 91, 377, 3, 216, 213] : List Nat).filterMap (fun i => lw_tbl[i]?) := by decide +kernel
theorem z_ndg3 : (List.range 16).flatMap (fun r => z_nda (16 * 3 + r)) = ([379, 380, 91, 382, 4, 357, 91, 359, 0, 432, 91, 434, 5, 211, 436, 90, 437, 438, 357, 91, 359, 0, 440, 91, 442, 6, 357, 91, 359, 0, 216, 213, 444, 91, 446, 7, 448, 380, 91, 382, 4, 449, 380, 91, 382, 4, 450, 380, 91, 382, 4, 357, 91, 359, 0, 440, 91, 442, 6, 432, 91, 434, 5, 211, 166, 451, 91, 453, 8, 357, 91, 359, 0, 440, 91, 442, 6, 211, 455, 90, 456, 457, 357, 91, 359, 0, 211, 166, 211, 455, 90, 456, 457, 217, 216, 216, 361, 91, 363, 1, 216, 216, 216, 213, 216, 216, 217, 217, 365, 91, 367, 2, 217, 217, 216, 361, 91, 363, 1, 361, 91, 363, 1, 369, 91, 370, 369, 91, 370, 372, 91, 373, 372, 91, 373, 213, 215, 216, 361, 91, 363, 1, 217, 216, 384, 96, 385, 386, 384, 96, 385, 386, 216, 361, 91, 363, 1, 394, 96, 395, 396, 216, 361, 91, 363, 1, 372, 91, 373, 217, 216, 216, 217, 361, 91, 363, 1, 234, 112, 113, 153, 235, 237, 239, 237, 239, 237, 235, 237, 237, 237, 119, 112, 113, 120, 121, 174, 153, 176, 122, 123, 89, 124, 89, 125, 178, 155, 156, 180, 153, 182, 184, 186, 174, 120, 157, 90, 158, 90, 159, 174, 174, 1066, 90, 460, 461, 176, 176, 176, 178, 178, 1067, 89, 1068, 1069, 180, 180, 182, 182, 184, 184, 186, 186] : List Nat).filterMap (fun i => lw_tbl[i]?) := by decide +kernel
theorem z_ndg4 : (List.range 16).flatMap (fun r => z_nda (16 * 4 + r)) = ([176, 619, 100, 468, 186, 762, 186, 186, 111, 112, 113, 114, 115, 88, 116, 88, 117, 286, 114, 115, 88, 116, 88, 117, 287, 288, 203, 204, 91, 205, 91, 206, 289, 229, 230, 92, 231, 92, 232, 290, 153, 291, 153, 292, 293, 249, 250, 294, 153, 295, 153, 296, 251, 252, 93, 253, 93, 254, 297, 251, 252, 93, 253, 93, 254, 298, 266, 157, 90, 267, 90, 159, 299, 153, 300, 153, 301, 153, 302, 294, 249, 268, 94, 269, 94, 270, 295, 289, 342, 91, 343, 344, 350, 87, 351, 289, 353, 91, 354, 355, 286, 175, 289, 212, 459, 90, 460, 461, 286, 175, 463, 90, 464, 465, 350, 87, 351, 286, 175, 478, 90, 437, 438, 483, 87, 485, 9, 483, 87, 485, 9, 286, 175, 487, 90, 488, 489, 286, 175, 491, 90, 456, 457, 350, 87, 351, 286, 175, 167, 463, 90, 464, 465, 483, 87, 485, 9, 163, 350, 87, 351, 500, 87, 501, 294, 276, 276, 286, 175, 167, 478, 90, 437, 438, 167, 278, 274, 503, 90, 504, 505, 463, 90, 464, 465, 350, 87, 351, 286, 175, 512, 90, 513, 514, 286, 175, 463, 90, 464, 465, 350, 87, 351, 350, 87, 351, 286, 175, 286, 175, 167, 167, 463, 90, 464, 465, 463, 90, 464, 465, 520, 87, 522, 10, 528, 87, 530, 11, 524, 87, 525, 540, 542, 548, 87, 549, 540, 555, 87, 556, 350, 87, 351, 297, 286, 175, 558, 93, 559, 560, 297, 258, 555, 87, 556, 350, 87, 351, 577, 87, 578, 286, 175, 167, 297, 558, 93, 559, 560, 297, 258, 167, 580, 87, 581, 583, 87, 584, 555, 87, 556, 555, 87, 556, 577, 87, 578, 597, 87, 599, 14, 580, 87, 581, 583, 87, 584] : List Nat).filterMap (fun i => lw_tbl[i]?) := by decide +kernel
theorem z_ndg5 : (List.range 16).flatMap (fun r => z_nda (16 * 5 + r)) = ([555, 87, 556, 286, 177, 286, 615, 88, 616, 617, 286, 177, 350, 87, 351, 286, 175, 624, 87, 626, 15, 636, 87, 638, 17, 555, 87, 556, 636, 87, 638, 17, 644, 87, 646, 18, 655, 87, 657, 20, 286, 179, 131, 286, 179, 663, 89, 664, 665, 286, 179, 675, 89, 676, 677, 675, 89, 676, 677, 679, 89, 680, 681, 683, 89, 668, 669, 286, 179, 131, 286, 179, 131, 555, 87, 556, 577, 87, 578, 692, 286, 179, 131, 693, 286, 179, 694, 89, 695, 696, 286, 179, 133, 286, 179, 711, 89, 712, 713, 583, 87, 584, 286, 179, 131, 724, 87, 726, 23, 350, 87, 351, 286, 175, 167, 286, 179, 286, 175, 732, 89, 733, 734, 286, 179, 131, 350, 87, 351, 286, 179, 131, 286, 175, 478, 90, 437, 438, 742, 89, 743, 744, 135, 135, 679, 89, 680, 681, 754, 87, 756, 26, 491, 90, 456, 457, 463, 90, 464, 465, 350, 87, 351, 286, 175, 167, 286, 758, 88, 759, 760, 491, 90, 456, 457, 463, 90, 464, 465, 350, 87, 351, 286, 175, 167, 167, 286, 758, 88, 759, 760, 167, 771, 87, 772, 297, 260, 297, 774, 93, 568, 569, 540, 542, 286, 187, 286, 187, 783, 87, 784, 286, 185, 286, 185, 286, 181, 789, 87, 790, 286, 183, 286, 185, 856, 87, 858, 27, 286, 181, 802, 810, 812, 286, 183] : List Nat).filterMap (fun i => lw_tbl[i]?) := by decide +kernel
theorem z_ndg6 : (List.range 16).flatMap (fun r => z_nda (16 * 6 + r)) = ([856, 87, 858, 27, 286, 183, 286, 183, 856, 87, 858, 27, 592, 286, 181, 868, 87, 869, 856, 87, 858, 27, 350, 87, 351, 577, 87, 578, 286, 175, 167, 592, 297, 286, 175, 558, 93, 559, 560, 286, 181, 868, 87, 869, 297, 258, 884, 286, 175, 167, 580, 87, 581, 583, 87, 584, 856, 87, 858, 27, 577, 87, 578, 286, 179, 131, 592, 286, 179, 694, 89, 695, 696, 286, 181, 868, 87, 869, 286, 179, 133, 884, 286, 179, 711, 89, 712, 713, 583, 87, 584, 786, 87, 787, 577, 87, 578, 592, 636, 87, 638, 17, 592, 893, 87, 895, 28, 902, 583, 87, 584, 786, 87, 787, 577, 87, 578, 592, 636, 87, 638, 17, 592, 893, 87, 895, 28, 898, 87, 900, 29, 902, 583, 87, 584, 786, 87, 787, 636, 87, 638, 17, 893, 87, 895, 28, 898, 87, 900, 29, 786, 87, 787, 555, 87, 556, 636, 87, 638, 17, 286, 179, 131, 724, 87, 726, 23, 286, 179, 694, 89, 695, 696, 893, 87, 895, 28, 286, 179, 133, 902, 286, 179, 711, 89, 712, 713, 350, 87, 351, 297, 286, 175, 558, 93, 559, 560, 293, 548, 87, 549, 297, 258, 291, 293, 540, 292, 293, 297, 258, 293, 293, 293, 923, 87, 925, 30, 291, 292, 923, 87, 925, 30, 291, 292, 350, 87, 351, 297, 286, 175, 558, 93, 559, 560, 548, 87, 549, 297, 258, 293, 291, 540, 292, 297, 258, 293, 500, 87, 501, 939, 87, 940, 294, 942, 94, 943, 944, 500, 87, 501, 294, 276, 278, 274, 950, 94, 951, 952, 500, 87, 501, 939, 87, 940, 294, 276, 276, 278, 274, 962, 87, 963, 856, 87, 858, 27, 965, 87, 967, 31, 500, 87, 501, 294, 276, 276, 278, 965, 87, 967, 31, 965, 87, 967, 31] : List Nat).filterMap (fun i => lw_tbl[i]?) := by decide +kernel
theorem z_ndg7 : (List.range 16).flatMap (fun r => z_nda (16 * 7 + r)) = ([962, 87, 963, 939, 87, 940, 295, 295, 296, 973, 87, 975, 32, 977, 87, 978, 806, 290, 984, 92, 985, 986, 973, 87, 975, 32, 290, 988, 991, 989, 990, 989, 102, 1007, 989, 102, 1002, 1003, 104, 992, 993, 105, 290, 1010, 1013, 1011, 1012, 1011, 102, 1032, 1015, 103, 1019, 1020, 104, 1014, 1015, 103, 290, 1035, 1721, 1030, 1723, 1030, 102, 1725, 1027, 103, 1724, 1027, 103, 1722, 1027, 103, 290, 1036, 1039, 1037, 1038, 1037, 102, 1047, 1037, 102, 1046, 1037, 102, 1040, 1041, 105, 290, 241, 290, 238, 290, 236, 286, 179, 131, 286, 185, 286, 615, 88, 616, 617, 293, 289, 214, 290, 238, 287, 286, 1062, 88, 1063, 1064, 288, 288, 286, 287, 1062, 88, 1063, 1064, 350, 87, 351, 286, 175, 167, 286, 185, 293] : List Nat).filterMap (fun i => lw_tbl[i]?) := by decide +kernel
theorem z_ndg8 : (List.range 16).flatMap (fun r => z_nda (16 * 8 + r)) = ([548, 87, 549, 540, 555, 87, 556, 586, 101, 587, 589, 87, 590, 592, 463, 90, 464, 465, 167, 524, 87, 525, 167, 167, 163, 163, 527, 100, 468, 301, 167, 163, 301, 532, 87, 534, 12, 167, 163, 163, 527, 100, 468, 527, 100, 468, 302, 528, 87, 530, 11, 301, 302, 286, 177, 298, 558, 93, 559, 560, 628, 87, 630, 16, 548, 87, 549, 286, 177, 298, 258, 548, 87, 549, 299, 540, 601, 90, 602, 603, 299, 624, 87, 626, 15, 299, 540, 601, 90, 602, 603, 298, 299, 558, 93, 559, 560, 298, 258, 548, 87, 549, 597, 87, 599, 14, 652, 101, 653, 300, 597, 87, 599, 14, 299, 540, 601, 90, 602, 603, 299, 167, 299, 503, 90, 504, 505, 648, 87, 650, 19, 652, 101, 653, 298, 299, 558, 93, 559, 560, 298, 258, 298, 258, 300] : List Nat).filterMap (fun i => lw_tbl[i]?) := by decide +kernel
theorem z_ndg9 : (List.range 16).flatMap (fun r => z_nda (16 * 9 + r)) = ([286, 177, 286, 179, 694, 89, 695, 696, 548, 87, 549, 286, 177, 286, 179, 133, 286, 758, 88, 759, 760, 786, 87, 787, 792, 793, 103, 794, 103, 795, 822, 823, 104, 824, 104, 825, 833, 834, 105, 835, 105, 836, 844, 845, 102, 846, 102, 798, 802, 810, 812, 871, 87, 872, 540, 810, 812, 874, 87, 875, 810, 877, 87, 878, 540, 871, 87, 872, 286, 185, 286, 181, 802, 286, 183, 286, 181, 868, 87, 869, 897, 898, 87, 900, 29, 652, 101, 653, 295, 296, 962, 87, 963, 295, 296, 856, 87, 858, 27, 286, 181, 296, 792, 822, 833, 1080, 112, 113, 153, 1090, 153, 1091, 153, 1093, 153, 1095, 153, 1096, 1097, 153, 1099, 153, 1100, 153, 1101, 153, 1102, 153, 1103, 153, 1112, 153, 1113, 153, 1115, 153, 1118, 153, 1119, 153, 1120, 153, 1121, 153, 1122, 153, 1123, 153, 1126, 153, 1128, 153, 1130, 153, 1131, 154, 1132, 153, 1133, 153, 1134, 153, 1135, 153, 1139, 153, 1143, 153, 1145, 1081, 95, 1082, 1084, 95, 1085, 1100, 1101, 1102, 1102] : List Nat).filterMap (fun i => lw_tbl[i]?) := by decide +kernel
theorem z_ndg10 : (List.range 16).flatMap (fun r => z_nda (16 * 10 + r)) = ([1081, 95, 1082, 1081, 95, 1082, 1087, 95, 1088, 1087, 95, 1088, 1263, 95, 1264, 1263, 95, 1264, 1090, 1263, 95, 1264, 1263, 95, 1264, 1263, 95, 1264, 1081, 95, 1082, 1263, 95, 1264, 1384, 95, 1385, 1100, 1091, 1091, 1091, 1091, 1091, 1091, 1091, 1090, 1091, 1090, 1091, 1323, 95, 1324, 1263, 95, 1264, 1104, 1103, 1104, 1266, 1104, 1104, 1104, 1104, 1103, 1263, 95, 1264, 1263, 95, 1264] : List Nat).filterMap (fun i => lw_tbl[i]?) := by decide +kernel
theorem z_ndg11 : (List.range 16).flatMap (fun r => z_nda (16 * 11 + r)) = ([1107, 1106, 1106, 1278, 95, 1280, 34, 1106, 1106, 1106, 1107, 1106, 1278, 95, 1280, 34, 1282, 95, 1283, 1285, 95, 1286, 1105, 1108, 1105, 1109, 1105, 1107, 1107, 1105, 1107, 1278, 95, 1280, 34, 1282, 95, 1283, 1107, 1106, 1288, 1108, 1107, 1278, 95, 1280, 34, 1289, 1290, 1108, 1107, 1107, 1105, 1107, 1278, 95, 1280, 34, 1285, 95, 1286, 1107, 1106, 1109, 1107, 1278, 95, 1280, 34, 1109, 1107, 1107, 1105, 1108, 1109, 1110, 1105, 1263, 95, 1264, 1110, 1110, 1274, 95, 1276, 33, 1110, 1105, 1109, 1110, 1110, 1274, 95, 1276, 33, 1112, 1112, 1114, 1113, 1109, 1110, 1105, 1110, 1111, 1296, 95, 1298, 36, 1110, 1113, 1114, 1114, 1114, 1309, 1292, 95, 1294, 35, 1310, 1292, 95, 1294, 35, 1274, 95, 1276, 33, 1114, 1110, 1114, 1105, 1311, 95, 1313, 39, 1300, 95, 1302, 37, 1114, 1110, 1113, 1113, 1315, 95, 1317, 40, 1110, 1113, 1113, 1114, 1315, 95, 1317, 40, 1271, 95, 1272, 1107, 1274, 95, 1276, 33, 1291, 1292, 95, 1294, 35, 1110, 1110, 1274, 95, 1276, 33, 1296, 95, 1298, 36, 1111, 1300, 95, 1302, 37, 1112, 1110, 1105, 1304, 1292, 95, 1294, 35, 1305, 95, 1307, 38, 1309, 1292, 95, 1294, 35, 1305, 95, 1307, 38, 1310, 1292, 95, 1294, 35, 1305, 95, 1307, 38, 1110, 1104, 1110, 1106, 1090, 1111, 1091, 1112, 1319, 95, 1321, 41, 1271, 95, 1272, 1263, 95, 1264, 1330, 95, 1332, 42, 1271, 95, 1272, 1338, 95, 1340, 43, 1338, 95, 1340, 43, 1342, 95, 1344, 44, 1346, 95, 1348, 45, 1271, 95, 1272, 1354, 95, 1355, 1338, 95, 1340, 43, 1090, 1319, 95, 1321, 41, 1091, 1271, 95, 1272, 1361, 95, 1362, 1364, 95, 1366, 46, 1090, 1330, 95, 1332, 42, 1090, 1131, 1132, 1346, 95, 1348, 45, 1319, 95, 1321, 41, 1271, 95, 1272, 1090, 1091, 1091, 1090, 1319, 95, 1321, 41, 1091, 1323, 95, 1324, 1091, 1115, 1323, 95, 1324, 1115, 1115, 1342, 95, 1344, 44, 1115, 1115, 1342, 95, 1344, 44, 1271, 95, 1272, 1271, 95, 1272, 1090, 1090, 1115, 1115, 1115, 1376, 95, 1378, 47, 1115, 1384, 95, 1385, 1100] : List Nat).filterMap (fun i => lw_tbl[i]?) := by decide +kernel
theorem z_ndg12 : (List.range 16).flatMap (fun r => z_nda (16 * 12 + r)) = ([1263, 95, 1264, 1102, 1101, 1087, 95, 1088, 1100, 1323, 95, 1324, 1407, 95, 1409, 51, 1091, 1090, 1403, 95, 1405, 50, 1271, 95, 1272, 1395, 95, 1397, 48, 1399, 95, 1401, 49, 1116, 1117, 1116, 1117, 1271, 95, 1272, 1395, 95, 1397, 48, 1354, 95, 1355, 1090, 1399, 95, 1401, 49, 1090, 1415, 95, 1416, 1418, 95, 1420, 52, 1422, 95, 1424, 53, 1118, 1087, 95, 1088, 1118, 1118, 1434, 95, 1436, 55, 1118, 1403, 95, 1405, 50, 1395, 95, 1397, 48, 1263, 95, 1264, 1395, 95, 1397, 48, 1354, 95, 1355, 1430, 95, 1432, 54, 1415, 95, 1416, 1418, 95, 1420, 52, 1422, 95, 1424, 53, 1092, 1093, 1093, 1263, 95, 1264, 1395, 95, 1397, 48, 1442, 95, 1444, 56, 1092, 1093, 1092, 1093, 1092, 1092, 1092, 1092, 1092, 1093, 1093, 1092, 1093, 1093, 1092, 1092, 1093, 1093, 1403, 95, 1405, 50, 1271, 95, 1272, 1091, 1090, 1450, 95, 1452, 57] : List Nat).filterMap (fun i => lw_tbl[i]?) := by decide +kernel
theorem z_ndg13 : (List.range 16).flatMap (fun r => z_nda (16 * 13 + r)) = ([1102, 1101, 1434, 95, 1436, 55, 1118, 1450, 95, 1452, 57, 1263, 95, 1264, 1458, 95, 1460, 58, 1263, 95, 1264, 1395, 95, 1397, 48, 1081, 95, 1082, 1434, 95, 1436, 55, 1118, 1450, 95, 1452, 57, 1118, 1403, 95, 1405, 50, 1263, 95, 1264, 1094, 1095, 1094, 1094, 1096, 1094, 1096, 1094, 1094, 1094, 1094, 1094, 1263, 95, 1264, 1094, 1263, 95, 1264, 1263, 95, 1264, 1096, 1096, 1096, 1094, 1094, 1094, 1095, 1096, 1119, 1119, 1087, 95, 1088, 1094, 1119, 1094, 1095, 1119, 1094, 1081, 95, 1082, 1100, 1487, 95, 1489, 60, 1081, 95, 1082, 1495, 95, 1497, 62, 1395, 95, 1397, 48, 1354, 95, 1355, 1290, 1094, 1482, 1483, 95, 1485, 59, 1491, 95, 1493, 61, 1418, 95, 1420, 52, 1422, 95, 1424, 53, 1092, 1093, 1093, 1483, 95, 1485, 59, 1094, 1503, 95, 1505, 63, 1271, 95, 1272, 1090, 1090, 1094, 1094, 1095, 1094, 1096, 1342, 95, 1344, 44, 1094, 1097, 1523, 1097, 1097, 1495, 95, 1497, 62, 1094, 1120, 1095, 1121, 1095, 1120, 1094, 1121, 1121, 1120, 1121] : List Nat).filterMap (fun i => lw_tbl[i]?) := by decide +kernel
theorem z_ndg14 : (List.range 16).flatMap (fun r => z_nda (16 * 14 + r)) = ([1271, 95, 1272, 1263, 95, 1264, 1094, 1515, 95, 1517, 64, 1330, 95, 1332, 42, 1094, 1120, 1122, 1096, 1122, 1122, 1519, 95, 1521, 65, 1346, 95, 1348, 45, 1319, 95, 1321, 41, 1271, 95, 1272, 1263, 95, 1264, 1090, 1519, 95, 1521, 65, 1346, 95, 1348, 45, 1319, 95, 1321, 41, 1271, 95, 1272, 1263, 95, 1264, 1090, 1519, 95, 1521, 65, 1090, 1091, 1407, 95, 1409, 51, 1097, 1097, 1098, 1263, 95, 1264, 1099, 1263, 95, 1264, 1395, 95, 1397, 48, 1263, 95, 1264, 1263, 95, 1264, 1263, 95, 1264, 1098, 1099, 1098, 1099, 1098, 1099, 1098, 1099, 1098, 1098, 1098, 1098, 1544, 95, 1546, 66, 1263, 95, 1264, 1548, 95, 1550, 67, 1544, 95, 1546, 66, 1263, 95, 1264, 1548, 95, 1550, 67, 1099, 1548, 95, 1550, 67, 1548, 95, 1550, 67, 1101, 1548, 95, 1550, 67, 1430, 95, 1432, 54, 1415, 95, 1416, 1544, 95, 1546, 66, 1263, 95, 1264, 1560, 95, 1562, 68, 1564, 1544, 95, 1546, 66, 1271, 95, 1272, 1354, 95, 1355, 1090, 1564, 1560, 95, 1562, 68, 1101, 1399, 95, 1401, 49, 1569, 1090, 1415, 95, 1416, 1418, 95, 1420, 52, 1422, 95, 1424, 53, 1544, 95, 1546, 66, 1354, 95, 1355, 1094, 1564, 1560, 95, 1562, 68, 1101, 1483, 95, 1485, 59, 1569, 1491, 95, 1493, 61, 1418, 95, 1420, 52, 1422, 95, 1424, 53, 1458, 95, 1460, 58, 1125, 1586, 1124, 1123, 1101, 1430, 95, 1432, 54, 1415, 95, 1416, 1098, 1123, 1548, 95, 1550, 67, 1548, 95, 1550, 67, 1560, 95, 1562, 68, 1125, 1123, 1124, 1123, 1124, 1124, 1125, 1263, 95, 1264, 1395, 95, 1397, 48, 1578, 95, 1580, 69, 1354, 95, 1355, 1582, 95, 1584, 70, 1564, 1124, 1587, 1418, 95, 1420, 52, 1422, 95, 1424, 53] : List Nat).filterMap (fun i => lw_tbl[i]?) := by decide +kernel
theorem z_ndg15 : (List.range 16).flatMap (fun r => z_nda (16 * 15 + r)) = ([1578, 95, 1580, 69, 1263, 95, 1264, 1354, 95, 1355, 1582, 95, 1584, 70, 1125, 1564, 1124, 1123, 1587, 1418, 95, 1420, 52, 1422, 95, 1424, 53, 1578, 95, 1580, 69, 1582, 95, 1584, 70, 1125, 1123, 1124, 1578, 95, 1580, 69, 1582, 95, 1584, 70, 1094, 1503, 95, 1505, 63, 1587, 1483, 95, 1485, 59, 1124, 1491, 95, 1493, 61, 1129, 1102, 1101, 1399, 95, 1401, 49, 1128, 1129, 1101, 1128, 1129, 1129, 1129, 1271, 95, 1272, 1263, 95, 1264, 1604, 95, 1606, 71, 1129, 1127, 1127, 1126, 1128, 1127, 1127, 1263, 95, 1264, 1354, 95, 1355, 1612, 95, 1614, 72, 1126, 1612, 95, 1614, 72, 1126, 1126, 1271, 95, 1272, 1263, 95, 1264, 1604, 95, 1606, 71, 1127, 1129, 1126, 1128, 1126, 1128, 1127, 1129, 1263, 95, 1264, 1361, 95, 1362, 1263, 95, 1264, 1130, 1131, 1132, 1361, 95, 1362, 1130, 1131, 1263, 95, 1264, 1132, 1130, 1130, 1130, 1130, 1361, 95, 1362, 1263, 95, 1264, 1364, 95, 1366, 46, 1131, 1263, 95, 1264, 1132, 1544, 95, 1546, 66, 1361, 95, 1362, 1361, 95, 1362, 1640, 95, 1642, 73, 1133, 1130, 1134, 1130, 1135, 1131] : List Nat).filterMap (fun i => lw_tbl[i]?) := by decide +kernel
theorem z_ndg16 : (List.range 16).flatMap (fun r => z_nda (16 * 16 + r)) = ([1133, 1133, 1134, 1544, 95, 1546, 66, 1134, 1548, 95, 1550, 67, 1361, 95, 1362, 1263, 95, 1264, 1263, 95, 1264, 1648, 95, 1650, 74, 1134, 1135, 1652, 95, 1653, 1134, 1140, 1139, 1140, 1140, 1140, 1136, 1136, 1663, 95, 1665, 76, 1663, 95, 1665, 76, 1137, 1663, 95, 1665, 76, 1659, 95, 1661, 75, 1663, 95, 1665, 76, 1675, 95, 1677, 79, 1138, 1136, 1663, 95, 1665, 76, 1671, 95, 1673, 78, 1137, 1679, 95, 1681, 80, 1136, 1675, 95, 1677, 79, 1671, 95, 1673, 78, 1663, 95, 1665, 76, 1138, 1137, 1141, 1138, 1137, 1136, 1683, 95, 1685, 81, 1663, 95, 1665, 76, 1683, 95, 1685, 81, 1663, 95, 1665, 76, 1667, 95, 1669, 77, 1138, 1136, 1663, 95, 1665, 76, 1691, 95, 1693, 83, 1691, 95, 1693, 83, 1140, 1361, 95, 1362, 1648, 95, 1650, 74, 1263, 95, 1264, 1263, 95, 1264, 1136, 1134, 1137, 1137, 1548, 95, 1550, 67, 1138, 1141, 1659, 95, 1661, 75, 1667, 95, 1669, 77, 1679, 95, 1681, 80, 1687, 95, 1689, 82, 1141, 1140, 1263, 95, 1264, 1139, 1094, 1098, 1092, 1127, 1104, 1140, 1143, 1144, 1143, 1144, 1144, 1144] : List Nat).filterMap (fun i => lw_tbl[i]?) := by decide +kernel
theorem z_ndg17 : (List.range 16).flatMap (fun r => z_nda (16 * 17 + r)) = ([1144, 1145, 1092, 1145, 1094, 1145, 1098, 1145, 1097, 1145, 1711, 95, 1713, 85, 1090, 1711, 95, 1713, 85, 1091, 1711, 95, 1713, 85, 1093, 1711, 95, 1713, 85, 1095, 1711, 95, 1713, 85, 1096, 1711, 95, 1713, 85, 1099, 1711, 95, 1713, 85, 1707, 95, 1709, 84, 1142, 1142, 1707, 95, 1709, 84, 1145, 1092, 1145, 1094, 1145, 1098, 1145, 1097, 470, 471, 471, 472, 1731, 388, 96, 389, 390, 398, 96, 399, 400, 1731, 402, 97, 403, 1731, 392, 1732, 392, 1732, 408, 410, 98, 411, 405, 96, 406, 106, 107, 87, 108, 87, 109, 1075, 1076, 95, 1077, 95, 1078, 1719, 338, 87, 339, 340, 1719, 1259, 95, 1260, 1261, 346, 87, 347, 348, 1267, 95, 1268, 1269, 474, 87, 475, 476, 1326, 95, 1327, 1328, 479, 87, 480, 481, 1334, 95, 1335, 1336, 492, 87, 493, 494, 1350, 95, 1351, 1352, 496, 87, 497, 498, 1357, 95, 1358, 1359, 508, 87, 509, 510, 1368, 95, 1369, 1370, 516, 87, 517, 518, 1372, 95, 1373, 1374, 536, 87, 537, 538, 1380, 95, 1381, 1382, 544, 87, 545, 546, 1387, 95, 1388, 1389, 551, 87, 552, 553, 1391, 95, 1392, 1393, 573, 87, 574, 575, 1411, 95, 1412, 1413, 593, 87, 594, 595, 1426, 95, 1427, 1428, 611, 87, 612, 613, 1438, 95, 1439, 1440, 620, 87, 621, 622, 1446, 95, 1447, 1448, 632, 87, 633, 634, 1454, 95, 1455, 1456, 640, 87, 641, 642, 1462, 95, 1463, 1464, 659, 87, 660, 661, 1466, 95, 1467, 1468, 671, 87, 672, 673, 1470, 95, 1471, 1472, 684, 87, 685, 686, 1474, 95, 1475, 1476, 688, 87, 689, 690, 1478, 95, 1479, 1480, 720, 87, 721, 722, 1499, 95, 1500, 1501, 728, 87, 729, 730, 1507, 95, 1508, 1509, 738, 87, 739, 740, 1511, 95, 1512, 1513, 763, 87, 764, 765, 1524, 95, 1525, 1526, 767, 87, 768, 769, 1528, 95, 1529, 1530, 775, 87, 776, 777, 1532, 95, 1533, 1534, 779, 87, 780, 781, 1536, 95, 1537, 1538, 852, 87, 853, 854, 1540, 95, 1541, 1542, 860, 87, 861, 862, 1552, 95, 1553, 1554, 864, 87, 865, 866, 1556, 95, 1557, 1558, 880, 87, 881, 882, 1565, 95, 1566, 1567, 885, 87, 886, 887, 1570, 95, 1571, 1572, 889, 87, 890, 891, 1574, 95, 1575, 1576, 903, 87, 904, 905, 1588, 95, 1589, 1590, 907, 87, 908, 909, 1592, 95, 1593, 1594, 911, 87, 912, 913, 1596, 95, 1597, 1598, 915, 87, 916, 917, 1600, 95, 1601, 1602, 919, 87, 920, 921, 1608, 95, 1609, 1610, 927, 87, 928, 929, 1616, 95, 1617, 1618, 931, 87, 932, 933, 1620, 95, 1621, 1622, 935, 87, 936, 937, 1624, 95, 1625, 1626, 946, 87, 947, 948, 1628, 95, 1629, 1630, 954, 87, 955, 956, 1632, 95, 1633, 1634, 958, 87, 959, 960, 1636, 95, 1637, 1638, 969, 87, 970, 971, 1644, 95, 1645, 1646, 980, 87, 981, 982, 1655, 95, 1656, 1657, 1050, 87, 1051, 1052, 1695, 95, 1696, 1697, 1054, 87, 1055, 1056, 1699, 95, 1700, 1701, 1058, 87, 1059, 1060, 1703, 95, 1704, 1705, 1071, 87, 1072, 1073, 1715, 95, 1716, 1717] : List Nat).filterMap (fun i => lw_tbl[i]?) := by decide +kernel
end
section
/-- the class of an object tag -/
def z_tc (t : Nat) : Option Nat := ([some 11, some 10, none, none, some 1, none, none, none, none, none, none, none, none, some 2, none, some 8, none, some 9, none, none, none, none, none, none, some 7, none, none, none, none, none, some 4, none, none, some 12, none, none, none, none, none, none, none, none, none, none, none, none, none, none, none, none, none, none, none, none, none, none, none, none, none, none, none, none, none, none] : List (Option Nat)).getD t none
/-- element code and length of an array tag: 0 int, 1 long, 2 Net, 3 Share, 4 Sheet -/
def z_ta (t : Nat) : Option (Nat × Nat) := ([none, none, some (2, 4), some (0, 5), none, some (0, 5), some (0, 25), some (1, 11), some (0, 10), some (0, 5), some (0, 5), some (3, 6), some (0, 6), none, some (0, 10), none, some (0, 160), none, some (0, 30), some (0, 11), some (0, 11), some (4, 4), some (0, 4), some (0, 4), none, some (0, 11), some (0, 4), some (0, 11), some (0, 10), some (0, 10), none, some (1, 40), none, none, some (0, 4), some (0, 40), some (0, 8), some (0, 5), some (0, 25), some (0, 24), some (0, 320), some (0, 55), some (0, 5), some (0, 160), some (0, 10), some (0, 10), some (0, 10), some (0, 5), some (0, 4), some (0, 5), some (0, 5), some (0, 10), some (0, 4), some (0, 22), some (0, 22), some (0, 4), some (0, 4), some (1, 160), some (0, 4), some (0, 4), some (0, 4), some (0, 30), some (0, 120), some (0, 4)] : List (Option (Nat × Nat))).getD t none
/-- how many of a tag -/
def z_cnt (t : Nat) : Nat := ([1, 2, 2, 2, 2, 2, 2, 2, 2, 2, 2, 2, 2, 10, 10, 1, 1, 1, 1, 1, 1, 1, 1, 1, 2, 2, 2, 1, 1, 1, 4, 4, 0, 1, 1, 1, 1, 1, 1, 1, 1, 1, 1, 1, 1, 1, 1, 1, 1, 1, 1, 1, 1, 1, 1, 1, 1, 1, 1, 1, 1, 1, 1, 1] : List Nat).getD t 0
def z_unl : List (Nat × Nat) := [(0, 0), (1, 0), (2, 0), (3, 0), (4, 0), (5, 0), (6, 0), (7, 0), (8, 0), (9, 0), (10, 0), (11, 0), (12, 0), (13, 0), (14, 0), (13, 1), (14, 1), (13, 2), (14, 2), (13, 3), (14, 3), (1, 1), (2, 1), (3, 1), (4, 1), (5, 1), (6, 1), (7, 1), (8, 1), (9, 1), (10, 1), (11, 1), (12, 1), (13, 4), (14, 4), (13, 5), (14, 5), (13, 6), (14, 6), (13, 7), (14, 7), (15, 0), (13, 8), (14, 8), (16, 0), (17, 0), (18, 0), (19, 0), (20, 0), (21, 0), (22, 0), (23, 0), (24, 0), (25, 0), (26, 0), (24, 1), (25, 1), (26, 1), (13, 9), (14, 9), (27, 0), (28, 0), (29, 0), (30, 0), (31, 0), (30, 1), (31, 1), (30, 2), (31, 2), (30, 3), (31, 3), (33, 0), (34, 0), (35, 0), (36, 0), (37, 0), (38, 0), (39, 0), (40, 0), (41, 0), (42, 0), (43, 0), (44, 0), (45, 0), (46, 0), (47, 0), (48, 0), (49, 0), (50, 0), (51, 0), (52, 0), (53, 0), (54, 0), (55, 0), (56, 0), (57, 0), (58, 0), (59, 0), (60, 0), (61, 0), (62, 0), (63, 0)]
/-- the k-th cell -/
def z_un (k : Nat) : Nat × Nat := bif Nat.blt k 102 then z_unl.getD k (0, 0) else (32, k - 102)
def z_offl : List (List Nat) := [[0], [1, 21], [2, 22], [3, 23], [4, 24], [5, 25], [6, 26], [7, 27], [8, 28], [9, 29], [10, 30], [11, 31], [12, 32], [13, 15, 17, 19, 33, 35, 37, 39, 42, 58], [14, 16, 18, 20, 34, 36, 38, 40, 43, 59], [41], [44], [45], [46], [47], [48], [49], [50], [51], [52, 55], [53, 56], [54, 57], [60], [61], [62], [63, 65, 67, 69], [64, 66, 68, 70], [], [71], [72], [73], [74], [75], [76], [77], [78], [79], [80], [81], [82], [83], [84], [85], [86], [87], [88], [89], [90], [91], [92], [93], [94], [95], [96], [97], [98], [99], [100], [101]]
/-- the place of a cell -/
def z_off (t i : Nat) : Nat := bif Nat.beq t 32 then 102 + i else (z_offl.getD t []).getD i 0
def z_ft (t j : Nat) : Option Nat := (([[some 1, some 1, none, some 15, some 17, some 19, some 20, none, some 21, some 22, some 23, some 24, some 24, some 13, some 27, some 28, some 29], [some 2, some 3, some 4, some 11, some 12, none, none], [some 13, some 13, some 13, some 13], [], [some 5, some 6, none, some 7, some 8, some 9, some 10], [], [], [], [], [], [], [], [], [some 14, none], [], [some 13, none, some 16, none, none], [], [some 18, none, none], [], [], [], [some 30, some 30, some 30, some 30], [], [], [some 25, some 26], [], [], [], [], [], [some 31, none, none], [], [], [some 34, some 35, none, some 36, none, some 37, some 38, none, none, some 39, some 40, some 41, some 42, some 43, none, none, none, none, none, none, none, none, some 44, some 45, none, some 46, none, none, some 47, some 48, some 49, some 50, some 51, some 52, none, none, some 53, none, some 54, none, some 55, some 56, some 57, some 58, some 59, some 60, none, none, none, some 61, none, none, none, some 62, none, some 63], [], [], [], [], [], [], [], [], [], [], [], [], [], [], [], [], [], [], [], [], [], [], [], [], [], [], [], [], [], []] : List (List (Option Nat))).getD t []).getD j none
def z_fi (t i j : Nat) : Nat := ([(fun _ j => ([0, 1, 0, 0, 0, 0, 0, 0, 0, 0, 0, 0, 1, 9, 0, 0, 0] : List Nat).getD j 0), (fun i _ => i), (fun i j => 4 * i + j), (fun _ _ => 0), (fun i _ => i), (fun _ _ => 0), (fun _ _ => 0), (fun _ _ => 0), (fun _ _ => 0), (fun _ _ => 0), (fun _ _ => 0), (fun _ _ => 0), (fun _ _ => 0), (fun i _ => i), (fun _ _ => 0), (fun _ j => ([8, 0, 0, 0, 0] : List Nat).getD j 0), (fun _ _ => 0), (fun _ _ => 0), (fun _ _ => 0), (fun _ _ => 0), (fun _ _ => 0), (fun _ j => j), (fun _ _ => 0), (fun _ _ => 0), (fun i _ => i), (fun _ _ => 0), (fun _ _ => 0), (fun _ _ => 0), (fun _ _ => 0), (fun _ _ => 0), (fun i _ => i), (fun _ _ => 0), (fun _ _ => 0), (fun _ _ => 0), (fun _ _ => 0), (fun _ _ => 0), (fun _ _ => 0), (fun _ _ => 0), (fun _ _ => 0), (fun _ _ => 0), (fun _ _ => 0), (fun _ _ => 0), (fun _ _ => 0), (fun _ _ => 0), (fun _ _ => 0), (fun _ _ => 0), (fun _ _ => 0), (fun _ _ => 0), (fun _ _ => 0), (fun _ _ => 0), (fun _ _ => 0), (fun _ _ => 0), (fun _ _ => 0), (fun _ _ => 0), (fun _ _ => 0), (fun _ _ => 0), (fun _ _ => 0), (fun _ _ => 0), (fun _ _ => 0), (fun _ _ => 0), (fun _ _ => 0), (fun _ _ => 0), (fun _ _ => 0), (fun _ _ => 0)] : List (Nat → Nat → Nat)).getD t (fun _ _ => 0) i j
/-- the references that never change once all is made -/
def z_fin (t i j : Nat) : Option (Nat × Nat) := (z_ft t j).map (fun u => (u, z_fi t i j))
/-- which (tag, number, slot) hold such a reference -/
def z_fdom : List (Nat × Nat × Nat) := [(0, 0, 0), (0, 0, 1), (0, 0, 3), (0, 0, 4), (0, 0, 5), (0, 0, 6), (0, 0, 8), (0, 0, 9), (0, 0, 10), (0, 0, 11), (0, 0, 12), (0, 0, 13), (0, 0, 14), (0, 0, 15), (0, 0, 16), (1, 0, 0), (1, 0, 1), (1, 0, 2), (1, 0, 3), (1, 0, 4), (1, 1, 0), (1, 1, 1), (1, 1, 2), (1, 1, 3), (1, 1, 4), (2, 0, 0), (2, 0, 1), (2, 0, 2), (2, 0, 3), (2, 1, 0), (2, 1, 1), (2, 1, 2), (2, 1, 3), (4, 0, 0), (4, 0, 1), (4, 0, 3), (4, 0, 4), (4, 0, 5), (4, 0, 6), (4, 1, 0), (4, 1, 1), (4, 1, 3), (4, 1, 4), (4, 1, 5), (4, 1, 6), (13, 0, 0), (13, 1, 0), (13, 2, 0), (13, 3, 0), (13, 4, 0), (13, 5, 0), (13, 6, 0), (13, 7, 0), (13, 8, 0), (13, 9, 0), (15, 0, 0), (15, 0, 2), (17, 0, 0), (21, 0, 0), (21, 0, 1), (21, 0, 2), (21, 0, 3), (24, 0, 0), (24, 0, 1), (24, 1, 0), (24, 1, 1), (30, 0, 0), (30, 1, 0), (30, 2, 0), (30, 3, 0), (33, 0, 0), (33, 0, 1), (33, 0, 3), (33, 0, 5), (33, 0, 6), (33, 0, 9), (33, 0, 10), (33, 0, 11), (33, 0, 12), (33, 0, 13), (33, 0, 22), (33, 0, 23), (33, 0, 25), (33, 0, 28), (33, 0, 29), (33, 0, 30), (33, 0, 31), (33, 0, 32), (33, 0, 33), (33, 0, 36), (33, 0, 38), (33, 0, 40), (33, 0, 41), (33, 0, 42), (33, 0, 43), (33, 0, 44), (33, 0, 45), (33, 0, 49), (33, 0, 53), (33, 0, 55)]
/-- the class number of a method; 13: none of ours -/
def z_yc (y : Nat) : Nat := ((([[0, 0, 0, 1, 1, 1, 1, 1, 1, 1, 1, 1, 1, 1, 1, 1], [1, 1, 2, 2, 2, 2, 2, 2, 2, 2, 2, 3, 3, 3, 3, 3], [4, 4, 4, 5, 5, 5, 6, 6, 6, 7, 7, 7, 7, 8, 8, 8], [8, 8, 8, 8, 8, 8, 8, 8, 8, 8, 8, 9, 9, 9, 10, 10], [10, 10, 11, 11, 11, 11, 11, 11, 11, 11, 11, 11, 11, 11, 11, 11], [11, 11, 11, 11, 11, 11, 11, 11, 11, 11, 11, 11, 11, 11, 11, 11], [11, 11, 11, 11, 11, 11, 11, 11, 11, 11, 11, 11, 11, 11, 11, 11], [11, 11, 11, 11, 11, 11, 11, 11, 11, 11, 11, 11, 11, 11, 11, 11], [11, 11, 11, 11, 11, 11, 11, 11, 11, 11, 11, 11, 11, 11, 11, 11], [11, 11, 11, 11, 11, 11, 11, 11, 11, 11, 11, 11, 11, 12, 12, 12], [12, 12, 12, 12, 12, 12, 12, 12, 12, 12, 12, 12, 12, 12, 12, 12], [12, 12, 12, 12, 12, 12, 12, 12, 12, 12, 12, 12, 12, 12, 12, 12], [12, 12, 12, 12, 12, 12, 12, 12, 12, 12, 12, 12, 12, 12, 12, 12], [12, 12, 12, 12, 12, 12, 12, 12, 12, 12, 12, 12, 12, 12, 12, 12], [12, 12, 12, 12, 12, 12, 12, 12, 12, 12, 12, 12, 12, 12, 12, 12], [12, 12, 12, 12, 12, 12, 12, 12, 12, 12, 12, 12, 12, 12, 12, 12], [12, 12, 12, 12, 12, 12, 12, 12, 12, 12, 12, 12, 12, 12, 12, 12], [12, 12, 12, 13, 13, 13, 13, 13, 13, 13, 13, 13, 13, 13]] : List (List Nat)).getD (y / 16) []).getD (y % 16) 13)
/-- the methods of a text -/
def z_strm : List Nat := [278, 279, 280, 281]
end
section
/-! the interpreter -/
def z_up {α : Type} (f : Nat → Nat → Nat → α) (t i j : Nat) (v : α) : Nat → Nat → Nat → α := fun a b c => if a = t ∧ b = i ∧ c = j then v else f a b c
def z_zr {α : Type} (f : Nat → Nat → Nat → α) (t i : Nat) (v : α) : Nat → Nat → Nat → α := fun a b c => if a = t ∧ b = i then v else f a b c
def z_u1 (f : Nat → Nat) (k v : Nat) : Nat → Nat := fun a => if a = k then v else f a
abbrev z_S : Type := z_C ⊕ (Option z_V × z_M) ⊕ (Nat × List z_V × z_C) ⊕ Unit
abbrev z_nx (c : z_C) : z_S := Sum.inl c
abbrev z_rt (v : Option z_V) (M : z_M) : z_S := Sum.inr (Sum.inl (v, M))
abbrev z_ca (y : Nat) (as : List z_V) (c : z_C) : z_S := Sum.inr (Sum.inr (Sum.inl (y, as, c)))
abbrev z_er : z_S := Sum.inr (Sum.inr (Sum.inr ()))
/-- the class of an object -/
def z_co (M : z_M) (t i : Nat) : Option Nat := bif Nat.beq t 32 then some (M.2.1.2.2.1 i) else z_tc t
/-- there is such a cell -/
def z_g (M : z_M) (t i : Nat) : Bool := bif Nat.beq t 32 then (M.1 && decide (i < M.2.1.1)) else bif M.1 then decide (i < z_cnt t) else (decide (z_off t i < M.2.1.1) && decide (z_un (z_off t i) = (t, i)))
/-- a reference that a cell holds -/
def z_gr (M : z_M) (t i j : Nat) : Option (Nat × Nat) := bif M.1 then (bif Nat.beq t 11 then M.2.1.2.2.2 t i j else z_fin t i j) else M.2.1.2.2.2 t i j
def z_rf (o : Option (Nat × Nat)) : z_V := match o with
  | none => z_n
  | some q => Sum.inr (Sum.inr (Sum.inl q))
/-- a value of type code ty out of a slot -/
def z_fg (M : z_M) (t i j ty : Nat) : z_V := bif Nat.beq ty 1 then z_j (M.2.2.2 t i j) else bif Nat.beq ty 2 then z_rf (z_gr M t i j) else z_i (M.2.2.1 t i j)
/-- the constant rows: FORMS, FORM_INDEX, PAIR_LOW, PAIR_HIGH -/
def z_stc : List (List Int32) := [[0, 1, 3, 7, 11, 12, 13, 15, 30, 31, 63], [0, 1, 1, 2, 1, 2, 2, 3, 1, 2, 2, 4, 5, 6, 6, 7, 1, 2, 5, 6, 2, 4, 6, 7, 2, 3, 6, 7, 6, 7, 8, 9, 1, 5, 2, 6, 2, 6, 4, 7, 2, 6, 3, 7, 6, 8, 7, 9, 2, 6, 6, 8, 3, 7, 7, 9, 4, 7, 7, 9, 7, 9, 9, 10], [0, 0, 1, 0, 1, 2], [1, 2, 2, 3, 3, 3]]
/-- the bytes of the texts: posts, all, ring, road -/
def z_sby : List (List Int32) := [[112, 111, 115, 116, 115], [97, 108, 108], [114, 105, 110, 103], [114, 111, 97, 100]]
def z_in (x : Int32) (n : Nat) : Bool := decide (¬ (x < 0 ∨ n ≤ x.toNatClampNeg))
def z_ct : List z_V → Nat
  | [] => 0
  | Sum.inr (Sum.inl _) :: l => 2 + z_ct l
  | _ :: l => 1 + z_ct l
def z_tk : Nat → List z_V → List z_V → Option (List z_V × List z_V)
  | 0, st, acc => some (acc, st)
  | n + 1, v :: st, acc => z_tk n st (v :: acc)
  | _ + 1, [], _ => none
/-- an answer of a small type as its type keeps it: 0 int, 1 boolean, 2 byte, 3 char -/
def z_nr (a : Nat) (v : Int32) : Bool := bif Nat.beq a 0 then true else bif Nat.beq a 1 then (v == 0 || v == 1) else bif Nat.beq a 2 then decide (v.toInt8.toInt32 = v) else decide (v.toUInt32.toUInt16.toUInt32.toInt32 = v)
def z_tg (pc : Nat) (o : Int) : Nat := ((pc : Int) + o).toNat
def z_tsel (pc : Nat) (x : Int32) (d : Int) : List Int → Int → Nat
  | [], _ => z_tg pc d
  | o :: os, k => if x = Int32.ofInt k then z_tg pc o else z_tsel pc x d os (k + 1)
def z_lsel (pc : Nat) (x : Int32) (d : Int) : List (Int × Int) → Nat
  | [] => z_tg pc d
  | o :: os => if x = Int32.ofInt o.1 then z_tg pc o.2 else z_lsel pc x d os
/-- one value stored; a long is never cut in two -/
def z_lst (ls : List (Option z_V)) (i : Nat) (v : z_V) : Option (List (Option z_V)) :=
  match (bif Nat.beq i 0 then none else (ls.getD (i - 1) none)) with
  | some (Sum.inr (Sum.inl _)) => none
  | _ => match v with
    | Sum.inr (Sum.inl _) => some ((ls.set i (some v)).set (i + 1) none)
    | _ => some (ls.set i (some v))
/-- all is made, and every lasting reference is as it must be -/
def z_done (n : Nat) (R : Nat → Nat → Nat → Option (Nat × Nat)) : Bool := Nat.beq n 102 && z_fdom.all (fun q => decide (R q.1 q.2.1 q.2.2 = z_fin q.1 q.2.1 q.2.2))
def z_new (M : z_M) (c : Nat) : Option (z_M × Nat × Nat) :=
  let N := (z_ftl.getD c []).length
  bif M.1 then
    bif (([0, 3, 5, 6] : List Nat).contains c) then
      some ((true, (M.2.1.1 + 1, M.2.1.2.1 + N, z_u1 M.2.1.2.2.1 M.2.1.1 c, M.2.1.2.2.2), z_zr M.2.2.1 32 M.2.1.1 0, M.2.2.2), 32, M.2.1.1)
    else none
  else
    let q := z_un M.2.1.1
    bif decide (z_tc q.1 = some c) then
      some ((false, (M.2.1.1 + 1, M.2.1.2.1 + N, M.2.1.2.2.1, z_zr M.2.1.2.2.2 q.1 q.2 none), z_zr M.2.2.1 q.1 q.2 0, z_zr M.2.2.2 q.1 q.2 0), q.1, q.2)
    else none
def z_newa (M : z_M) (a : Nat) (x : Int32) : Option (z_M × Nat × Nat) :=
  bif M.1 then none else
    let q := z_un M.2.1.1
    match z_ta q.1 with
    | none => none
    | some (e, n) =>
      bif Nat.beq e a && z_in x (n + 1) && Nat.beq x.toNatClampNeg n then
        some ((false, (M.2.1.1 + 1, M.2.1.2.1 + n, M.2.1.2.2.1, z_zr M.2.1.2.2.2 q.1 q.2 none), z_zr M.2.2.1 q.1 q.2 0, z_zr M.2.2.2 q.1 q.2 0), q.1, q.2)
      else none
/-- may a value lie in a row of references of element code e -/
def z_fit (M : z_M) (e : Nat) (v : z_V) : Option (Option (Nat × Nat)) := match v with
  | Sum.inr (Sum.inr (Sum.inr ())) => some none
  | Sum.inr (Sum.inr (Sum.inl (t, i))) => bif z_g M t i then (match z_co M t i with
      | none => none
      | some c => bif (bif Nat.beq e 2 then Nat.beq c 2 else bif Nat.beq e 4 then Nat.beq c 4 else (([0, 3, 5, 6] : List Nat).contains c)) then some (some (t, i)) else none) else none
  | _ => none
/-- the receiver that a method asks for -/
def z_rc (M : z_M) (t i a : Nat) : Bool := bif Nat.beq (z_yc a) 13 then (Nat.beq t 64 && z_strm.contains a && decide (i < 4)) else (decide (z_co M t i = some (z_yc a)) && z_g M t i)
/-- Math.max and Math.abs are one step each -/
def z_math (a : Nat) (as : List z_V) : Option z_V := bif Nat.beq a 277 then (match as with
    | [Sum.inl x, Sum.inl w] => some (z_i (if x < w then w else x))
    | _ => none) else bif Nat.beq a 276 then (match as with
    | [Sum.inr (Sum.inl x)] => some (z_j (if 0 < x then x else -x))
    | _ => none) else none
def z_pl (a : Nat) : Bool := !(Nat.beq a 276 || Nat.beq a 277)
/-- a call: the arguments are taken off, then the receiver -/
def z_inv (a b e : Nat) (y pc : Nat) (ls : List (Option z_V)) (st : List z_V) (M : z_M) : z_S :=
  match z_tk e st [] with
  | none => z_er
  | some (as, r0) =>
    bif Nat.blt b 2 then (bif Nat.blt 8 (z_ct r0) then z_er else (match z_math a as with
      | some v => bif Nat.beq b 0 then z_nx (y, pc + 3, ls, v :: r0, M) else z_er
      | none => z_ca a as (y, pc + 3, ls, r0, M))) else
    match r0 with
    | Sum.inr (Sum.inr (Sum.inl (t, i))) :: rest =>
      bif Nat.blt 8 (z_ct rest) then z_er else
      bif Nat.beq b 9 then (bif Nat.blt t 64 then z_nx (y, pc + 3, ls, rest, M) else z_er) else
      bif Nat.blt b 4 then (bif Nat.blt t 64 then z_ca a (z_r t i :: as) (y, pc + 3, ls, rest, M) else z_er) else
      bif Nat.beq b 4 then (bif z_rc M t i a then z_ca a (z_r t i :: as) (y, pc + 3, ls, rest, M) else z_er) else
      bif z_g M t i then
        (match z_co M t i with
        | none => z_er
        | some c => bif Nat.beq b 7 then (bif Nat.blt c 7 then z_ca a (z_r t i :: as) (y, pc + 3, ls, rest, M) else z_er) else
          (match z_vt a c with
          | none => z_er
          | some y' => z_ca y' (z_r t i :: as) (y, pc + 3, ls, rest, M)))
      else z_er
    | _ => z_er
noncomputable def z_step (c : z_C) : z_S :=
  match c with
  | (y, pc, ls, st, M) =>
    match z_cd y pc with
    | none => z_er
    | some (ins, len, (a, b, e, _), ki, kj) =>
      match ins with
      | .iconst _ | .bipush _ | .sipush _ => z_nx (y, pc + len, ls, z_i ki :: st, M)
      | .ldc _ => z_nx (y, pc + len, ls, (bif Nat.beq a 1 then z_r 64 b else z_i ki) :: st, M)
      | .ldc_w _ => bif Nat.beq a 1 then z_er else z_nx (y, pc + len, ls, z_i ki :: st, M)
      | .lconst _ | .ldc2_w _ => z_nx (y, pc + len, ls, z_j kj :: st, M)
      | .aconst_null => z_nx (y, pc + len, ls, z_n :: st, M)
      | .iload _ | .iload_n _ => (match ls.getD a none with
        | some (Sum.inl x) => z_nx (y, pc + len, ls, z_i x :: st, M)
        | _ => z_er)
      | .lload _ | .lload_n _ => (match ls.getD a none with
        | some (Sum.inr (Sum.inl x)) => z_nx (y, pc + len, ls, z_j x :: st, M)
        | _ => z_er)
      | .aload _ | .aload_n _ => (match ls.getD a none with
        | some (Sum.inr (Sum.inr x)) => z_nx (y, pc + len, ls, Sum.inr (Sum.inr x) :: st, M)
        | _ => z_er)
      | .istore _ | .istore_n _ => (match st with
        | Sum.inl x :: r => (match z_lst ls a (z_i x) with
          | some ls' => z_nx (y, pc + len, ls', r, M)
          | none => z_er)
        | _ => z_er)
      | .lstore _ | .lstore_n _ => (match st with
        | Sum.inr (Sum.inl x) :: r => (match z_lst ls a (z_j x) with
          | some ls' => z_nx (y, pc + len, ls', r, M)
          | none => z_er)
        | _ => z_er)
      | .astore _ | .astore_n _ => (match st with
        | Sum.inr (Sum.inr x) :: r => (match z_lst ls a (Sum.inr (Sum.inr x)) with
          | some ls' => z_nx (y, pc + len, ls', r, M)
          | none => z_er)
        | _ => z_er)
      | .iinc _ _ => (match ls.getD a none with
        | some (Sum.inl x) => (match z_lst ls a (z_i (x + ki)) with
          | some ls' => z_nx (y, pc + len, ls', st, M)
          | none => z_er)
        | _ => z_er)
      | .pop => (match st with
        | Sum.inr (Sum.inl _) :: _ => z_er
        | _ :: r => z_nx (y, pc + len, ls, r, M)
        | _ => z_er)
      | .dup => (match st with
        | Sum.inr (Sum.inl _) :: _ => z_er
        | v :: r => z_nx (y, pc + len, ls, v :: v :: r, M)
        | _ => z_er)
      | .dup2 => (match st with
        | Sum.inl v :: Sum.inr (Sum.inr w) :: r => z_nx (y, pc + len, ls, z_i v :: Sum.inr (Sum.inr w) :: z_i v :: Sum.inr (Sum.inr w) :: r, M)
        | _ => z_er)
      | .iadd => (match st with
        | Sum.inl b :: Sum.inl a :: r => z_nx (y, pc + len, ls, z_i (a + b) :: r, M)
        | _ => z_er)
      | .isub => (match st with
        | Sum.inl b :: Sum.inl a :: r => z_nx (y, pc + len, ls, z_i (a - b) :: r, M)
        | _ => z_er)
      | .imul => (match st with
        | Sum.inl b :: Sum.inl a :: r => z_nx (y, pc + len, ls, z_i (a * b) :: r, M)
        | _ => z_er)
      | .idiv => (match st with
        | Sum.inl b :: Sum.inl a :: r => if b = 0 then z_er else z_nx (y, pc + len, ls, z_i (a / b) :: r, M)
        | _ => z_er)
      | .irem => (match st with
        | Sum.inl b :: Sum.inl a :: r => if b = 0 then z_er else z_nx (y, pc + len, ls, z_i (a - a / b * b) :: r, M)
        | _ => z_er)
      | .iand => (match st with
        | Sum.inl b :: Sum.inl a :: r => z_nx (y, pc + len, ls, z_i (a &&& b) :: r, M)
        | _ => z_er)
      | .ior => (match st with
        | Sum.inl b :: Sum.inl a :: r => z_nx (y, pc + len, ls, z_i (a ||| b) :: r, M)
        | _ => z_er)
      | .ixor => (match st with
        | Sum.inl b :: Sum.inl a :: r => z_nx (y, pc + len, ls, z_i (a ^^^ b) :: r, M)
        | _ => z_er)
      | .ishl => (match st with
        | Sum.inl b :: Sum.inl a :: r => z_nx (y, pc + len, ls, z_i (a <<< (b &&& 31)) :: r, M)
        | _ => z_er)
      | .ishr => (match st with
        | Sum.inl b :: Sum.inl a :: r => z_nx (y, pc + len, ls, z_i (a >>> (b &&& 31)) :: r, M)
        | _ => z_er)
      | .iushr => (match st with
        | Sum.inl b :: Sum.inl a :: r => z_nx (y, pc + len, ls, z_i (a.toUInt32 >>> (b.toUInt32 &&& Int32.toUInt32 31)).toInt32 :: r, M)
        | _ => z_er)
      | .ladd => (match st with
        | Sum.inr (Sum.inl b) :: Sum.inr (Sum.inl a) :: r => z_nx (y, pc + len, ls, z_j (a + b) :: r, M)
        | _ => z_er)
      | .lsub => (match st with
        | Sum.inr (Sum.inl b) :: Sum.inr (Sum.inl a) :: r => z_nx (y, pc + len, ls, z_j (a - b) :: r, M)
        | _ => z_er)
      | .lmul => (match st with
        | Sum.inr (Sum.inl b) :: Sum.inr (Sum.inl a) :: r => z_nx (y, pc + len, ls, z_j (a * b) :: r, M)
        | _ => z_er)
      | .ldiv => (match st with
        | Sum.inr (Sum.inl b) :: Sum.inr (Sum.inl a) :: r => if b = 0 then z_er else z_nx (y, pc + len, ls, z_j (a / b) :: r, M)
        | _ => z_er)
      | .lrem => (match st with
        | Sum.inr (Sum.inl b) :: Sum.inr (Sum.inl a) :: r => if b = 0 then z_er else z_nx (y, pc + len, ls, z_j (a - a / b * b) :: r, M)
        | _ => z_er)
      | .lneg => (match st with
        | Sum.inr (Sum.inl a) :: r => z_nx (y, pc + len, ls, z_j (-a) :: r, M)
        | _ => z_er)
      | .land => (match st with
        | Sum.inr (Sum.inl b) :: Sum.inr (Sum.inl a) :: r => z_nx (y, pc + len, ls, z_j (a &&& b) :: r, M)
        | _ => z_er)
      | .lor => (match st with
        | Sum.inr (Sum.inl b) :: Sum.inr (Sum.inl a) :: r => z_nx (y, pc + len, ls, z_j (a ||| b) :: r, M)
        | _ => z_er)
      | .lshl => (match st with
        | Sum.inl b :: Sum.inr (Sum.inl a) :: r => z_nx (y, pc + len, ls, z_j (a <<< (b.toInt64 &&& 63)) :: r, M)
        | _ => z_er)
      | .lshr => (match st with
        | Sum.inl b :: Sum.inr (Sum.inl a) :: r => z_nx (y, pc + len, ls, z_j (a >>> (b.toInt64 &&& 63)) :: r, M)
        | _ => z_er)
      | .lushr => (match st with
        | Sum.inl b :: Sum.inr (Sum.inl a) :: r => z_nx (y, pc + len, ls, z_j (a.toUInt64 >>> (b.toInt64.toUInt64 &&& Int64.toUInt64 63)).toInt64 :: r, M)
        | _ => z_er)
      | .lcmp => (match st with
        | Sum.inr (Sum.inl b) :: Sum.inr (Sum.inl a) :: r => z_nx (y, pc + len, ls, z_i (lg_cmp a b) :: r, M)
        | _ => z_er)
      | .i2l => (match st with
        | Sum.inl a :: r => z_nx (y, pc + len, ls, z_j a.toInt64 :: r, M)
        | _ => z_er)
      | .l2i => (match st with
        | Sum.inr (Sum.inl a) :: r => z_nx (y, pc + len, ls, z_i a.toInt32 :: r, M)
        | _ => z_er)
      | .i2b => (match st with
        | Sum.inl a :: r => z_nx (y, pc + len, ls, z_i a.toInt8.toInt32 :: r, M)
        | _ => z_er)
      | .i2s => (match st with
        | Sum.inl a :: r => z_nx (y, pc + len, ls, z_i a.toInt16.toInt32 :: r, M)
        | _ => z_er)
      | .i2c => (match st with
        | Sum.inl a :: r => z_nx (y, pc + len, ls, z_i (a.toUInt32 % 65536).toInt32 :: r, M)
        | _ => z_er)
      | .ifCond .eq _ => (match st with
        | Sum.inl x :: r => z_nx (y, (if x = 0 then a else pc + len), ls, r, M)
        | _ => z_er)
      | .ifCond .ne _ => (match st with
        | Sum.inl x :: r => z_nx (y, (if ¬ x = 0 then a else pc + len), ls, r, M)
        | _ => z_er)
      | .ifCond .lt _ => (match st with
        | Sum.inl x :: r => z_nx (y, (if x < 0 then a else pc + len), ls, r, M)
        | _ => z_er)
      | .ifCond .ge _ => (match st with
        | Sum.inl x :: r => z_nx (y, (if 0 ≤ x then a else pc + len), ls, r, M)
        | _ => z_er)
      | .ifCond .gt _ => (match st with
        | Sum.inl x :: r => z_nx (y, (if 0 < x then a else pc + len), ls, r, M)
        | _ => z_er)
      | .ifCond .le _ => (match st with
        | Sum.inl x :: r => z_nx (y, (if x ≤ 0 then a else pc + len), ls, r, M)
        | _ => z_er)
      | .if_icmp .eq _ => (match st with
        | Sum.inl w :: Sum.inl x :: r => z_nx (y, (if x = w then a else pc + len), ls, r, M)
        | _ => z_er)
      | .if_icmp .ne _ => (match st with
        | Sum.inl w :: Sum.inl x :: r => z_nx (y, (if ¬ x = w then a else pc + len), ls, r, M)
        | _ => z_er)
      | .if_icmp .lt _ => (match st with
        | Sum.inl w :: Sum.inl x :: r => z_nx (y, (if x < w then a else pc + len), ls, r, M)
        | _ => z_er)
      | .if_icmp .ge _ => (match st with
        | Sum.inl w :: Sum.inl x :: r => z_nx (y, (if w ≤ x then a else pc + len), ls, r, M)
        | _ => z_er)
      | .if_icmp .gt _ => (match st with
        | Sum.inl w :: Sum.inl x :: r => z_nx (y, (if w < x then a else pc + len), ls, r, M)
        | _ => z_er)
      | .if_icmp .le _ => (match st with
        | Sum.inl w :: Sum.inl x :: r => z_nx (y, (if x ≤ w then a else pc + len), ls, r, M)
        | _ => z_er)
      | .goto _ => z_nx (y, a, ls, st, M)
      | .ifnull _ => (match st with
        | Sum.inr (Sum.inr (Sum.inr ())) :: r => z_nx (y, a, ls, r, M)
        | Sum.inr (Sum.inr (Sum.inl q)) :: r => bif Nat.blt q.1 64 then z_nx (y, pc + len, ls, r, M) else z_er
        | _ => z_er)
      | .ifnonnull _ => (match st with
        | Sum.inr (Sum.inr (Sum.inr ())) :: r => z_nx (y, pc + len, ls, r, M)
        | Sum.inr (Sum.inr (Sum.inl q)) :: r => bif Nat.blt q.1 64 then z_nx (y, a, ls, r, M) else z_er
        | _ => z_er)
      | .tableswitch d lo _ os => (match st with
        | Sum.inl x :: r => z_nx (y, z_tsel pc x d os.toList lo, ls, r, M)
        | _ => z_er)
      | .lookupswitch d ps => (match st with
        | Sum.inl x :: r => z_nx (y, z_lsel pc x d ps.toList, ls, r, M)
        | _ => z_er)
      | .getfield _ => (match st with
        | Sum.inr (Sum.inr (Sum.inl (t, i))) :: r =>
          bif Nat.beq e 99 then
            (bif Nat.beq t 64 && decide (i < 4) then z_nx (y, pc + len, ls, (bif Nat.beq a 0 then z_r 65 i else z_i 0) :: r, M) else z_er)
          else bif (bif Nat.beq t 32 then Nat.beq e 3 else decide (z_tc t = some e)) && z_g M t i then z_nx (y, pc + len, ls, z_fg M t i a b :: r, M) else z_er
        | _ => z_er)
      | .putfield _ => (match st with
        | Sum.inl x :: Sum.inr (Sum.inr (Sum.inl (t, i))) :: r =>
          bif (bif Nat.beq t 32 then Nat.beq e 3 else decide (z_tc t = some e)) && (Nat.beq b 0 || (Nat.beq b 3 && z_nr 1 x)) && z_g M t i then z_nx (y, pc + len, ls, r, (M.1, M.2.1, z_up M.2.2.1 t i a x, M.2.2.2)) else z_er
        | Sum.inr (Sum.inl x) :: Sum.inr (Sum.inr (Sum.inl (t, i))) :: r =>
          bif decide (z_tc t = some e) && Nat.beq b 1 && z_g M t i then z_nx (y, pc + len, ls, r, (M.1, M.2.1, M.2.2.1, z_up M.2.2.2 t i a x)) else z_er
        | Sum.inr (Sum.inr (Sum.inl x)) :: Sum.inr (Sum.inr (Sum.inl (t, i))) :: r =>
          bif decide (z_tc t = some e) && Nat.beq b 2 && Nat.blt x.1 64 && (bif M.1 then false else true) && z_g M t i then
            (let R := z_up M.2.1.2.2.2 t i a (some x)
             bif z_done M.2.1.1 R then z_nx (y, pc + len, ls, r, (true, (0, M.2.1.2.1, M.2.1.2.2.1, R), M.2.2.1, M.2.2.2))
             else z_nx (y, pc + len, ls, r, (false, (M.2.1.1, M.2.1.2.1, M.2.1.2.2.1, R), M.2.2.1, M.2.2.2)))
          else z_er
        | _ => z_er)
      | .getstatic _ => bif Nat.blt a 4 then z_nx (y, pc + len, ls, z_r 66 a :: st, M) else bif Nat.beq a 4 then z_nx (y, pc + len, ls, z_i 1 :: st, M) else z_nx (y, pc + len, ls, z_r 68 0 :: st, M)
      | .iaload => (match st with
        | Sum.inl x :: Sum.inr (Sum.inr (Sum.inl (t, i))) :: r =>
          bif Nat.beq t 66 then (bif decide (i < 4) && z_in x (z_stc.getD i []).length then z_nx (y, pc + len, ls, z_i ((z_stc.getD i []).getD x.toNatClampNeg 0) :: r, M) else z_er)
          else bif Nat.beq t 67 then (bif Nat.beq i 0 && z_in x (M.2.2.1 67 1 0).toNatClampNeg then z_nx (y, pc + len, ls, z_i (M.2.2.1 67 0 x.toNatClampNeg) :: r, M) else z_er)
          else (match z_ta t with
            | some (0, n) => bif z_g M t i && z_in x n then z_nx (y, pc + len, ls, z_i (M.2.2.1 t i x.toNatClampNeg) :: r, M) else z_er
            | _ => z_er)
        | _ => z_er)
      | .baload => (match st with
        | Sum.inl x :: Sum.inr (Sum.inr (Sum.inl (t, i))) :: r =>
          bif Nat.beq t 65 && decide (i < 4) && z_in x (z_sby.getD i []).length then z_nx (y, pc + len, ls, z_i ((z_sby.getD i []).getD x.toNatClampNeg 0) :: r, M) else z_er
        | _ => z_er)
      | .laload => (match st with
        | Sum.inl x :: Sum.inr (Sum.inr (Sum.inl (t, i))) :: r => (match z_ta t with
            | some (1, n) => bif z_g M t i && z_in x n then z_nx (y, pc + len, ls, z_j (M.2.2.2 t i x.toNatClampNeg) :: r, M) else z_er
            | _ => z_er)
        | _ => z_er)
      | .aaload => (match st with
        | Sum.inl x :: Sum.inr (Sum.inr (Sum.inl (t, i))) :: r => (match z_ta t with
            | some (k + 2, n) => bif z_g M t i && z_in x n then z_nx (y, pc + len, ls, z_rf (z_gr M t i x.toNatClampNeg) :: r, M) else z_er
            | _ => z_er)
        | _ => z_er)
      | .iastore => (match st with
        | Sum.inl v :: Sum.inl x :: Sum.inr (Sum.inr (Sum.inl (t, i))) :: r => (match z_ta t with
            | some (0, n) => bif z_g M t i && z_in x n then z_nx (y, pc + len, ls, r, (M.1, M.2.1, z_up M.2.2.1 t i x.toNatClampNeg v, M.2.2.2)) else z_er
            | _ => z_er)
        | _ => z_er)
      | .lastore => (match st with
        | Sum.inr (Sum.inl v) :: Sum.inl x :: Sum.inr (Sum.inr (Sum.inl (t, i))) :: r => (match z_ta t with
            | some (1, n) => bif z_g M t i && z_in x n then z_nx (y, pc + len, ls, r, (M.1, M.2.1, M.2.2.1, z_up M.2.2.2 t i x.toNatClampNeg v)) else z_er
            | _ => z_er)
        | _ => z_er)
      | .aastore => (match st with
        | v :: Sum.inl x :: Sum.inr (Sum.inr (Sum.inl (t, i))) :: r => (match z_ta t with
            | some (k + 2, n) => (match z_fit M (k + 2) v with
              | some o => bif z_g M t i && z_in x n && (bif M.1 then Nat.beq t 11 else true) then z_nx (y, pc + len, ls, r, (M.1, (M.2.1.1, M.2.1.2.1, M.2.1.2.2.1, z_up M.2.1.2.2.2 t i x.toNatClampNeg o), M.2.2.1, M.2.2.2)) else z_er
              | none => z_er)
            | _ => z_er)
        | _ => z_er)
      | .arraylength => (match st with
        | Sum.inr (Sum.inr (Sum.inl (t, i))) :: r =>
          bif Nat.beq t 66 then (bif decide (i < 4) then z_nx (y, pc + len, ls, z_i (Int32.ofNat (z_stc.getD i []).length) :: r, M) else z_er)
          else bif Nat.beq t 65 then (bif decide (i < 4) then z_nx (y, pc + len, ls, z_i (Int32.ofNat (z_sby.getD i []).length) :: r, M) else z_er)
          else bif Nat.beq t 67 then (bif Nat.beq i 0 then z_nx (y, pc + len, ls, z_i (M.2.2.1 67 1 0) :: r, M) else z_er)
          else (match z_ta t with
            | some (_, n) => bif z_g M t i then z_nx (y, pc + len, ls, z_i (Int32.ofNat n) :: r, M) else z_er
            | none => z_er)
        | _ => z_er)
      | .new _ => (match z_new M a with
        | some (M', t, i) => z_nx (y, pc + len, ls, z_r t i :: st, M')
        | none => z_er)
      | .newarray _ => (match st with
        | Sum.inl x :: r => (match z_newa M a x with
          | some (M', t, i) => z_nx (y, pc + len, ls, z_r t i :: r, M')
          | none => z_er)
        | _ => z_er)
      | .anewarray _ => (match st with
        | Sum.inl x :: r => (match z_newa M a x with
          | some (M', t, i) => z_nx (y, pc + len, ls, z_r t i :: r, M')
          | none => z_er)
        | _ => z_er)
      | .instanceof _ => (match st with
        | Sum.inr (Sum.inr (Sum.inl (t, i))) :: r => bif z_g M t i then (match z_co M t i with
            | some c => bif ([0, 3, 5, 6] : List Nat).contains c && ([0, 5, 6] : List Nat).contains a then z_nx (y, pc + len, ls, z_i (bif z_sub c a then 1 else 0) :: r, M) else z_er
            | none => z_er) else z_er
        | _ => z_er)
      | .invokestatic _ | .invokespecial _ | .invokevirtual _ => z_inv a b e y pc ls st M
      | .ireturn => (match st with
        | [Sum.inl v] => bif z_nr a v then z_rt (some (z_i v)) M else z_er
        | _ => z_er)
      | .lreturn => (match st with
        | [Sum.inr (Sum.inl v)] => z_rt (some (z_j v)) M
        | _ => z_er)
      | .areturn => (match st with
        | [Sum.inr (Sum.inr v)] => z_rt (some (Sum.inr (Sum.inr v))) M
        | _ => z_er)
      | .return_ => (match st with
        | [] => z_rt none M
        | _ => z_er)
      | _ => z_er
/-- a method's first place: arguments laid out, a long in two -/
def z_la : List z_V → List (Option z_V)
  | [] => []
  | Sum.inr (Sum.inl x) :: l => some (z_j x) :: none :: z_la l
  | v :: l => some v :: z_la l
def z_en (y : Nat) (as : List z_V) (M : z_M) : z_C := (y, 0, z_la as ++ List.replicate (z_ml y - (z_la as).length) none, [], M)
noncomputable def z_rn : Nat → Nat → z_C → Option (Option z_V × z_M)
  | 0, _, _ => none
  | n + 1, d, c => match z_step c with
    | Sum.inl c' => z_rn n d c'
    | Sum.inr (Sum.inl r) => some r
    | Sum.inr (Sum.inr (Sum.inl (y, as, (y0, pc, ls, st, M)))) => (match d with
      | 0 => none
      | d' + 1 => bif Nat.ble (z_la as).length (z_ml y) && z_pl y then (match z_rn n d' (z_en y as M) with
        | none => none
        | some (v, M') => z_rn n (d' + 1) (y0, pc, ls, v.toList ++ st, M')) else none)
    | Sum.inr (Sum.inr (Sum.inr ())) => none
/-- from here the program comes to its answer, with calls at most d deep -/
def z_ev (d : Nat) (c : z_C) (r : Option z_V × z_M) : Prop := ∃ n, z_rn n d c = some r
end
section
/-! what an entry of the code tables is worth -/
theorem z_lk1_mem {pc : Nat} {l : List (Nat × z_E)} {q : z_E} (h : z_lk1 pc l = some q) : (pc, q) ∈ l := by
  induction l with
  | nil => simp [z_lk1] at h
  | cons x l ih =>
    obtain ⟨k, e⟩ := x
    simp only [z_lk1] at h
    cases hb : Nat.beq k pc with
    | true =>
      rw [hb] at h
      simp only [cond_true, Option.some.injEq] at h
      have := Nat.eq_of_beq_eq_true hb
      subst this; subst h
      exact List.mem_cons_self
    | false =>
      rw [hb] at h
      exact List.mem_cons_of_mem _ (ih h)
theorem z_lk2_mem {pc : Nat} {l : List (Nat × List (Nat × z_E))} {q : z_E} (h : z_lk2 pc l = some q) : ∃ p ∈ l, (pc, q) ∈ p.2 := by
  induction l with
  | nil => simp [z_lk2] at h
  | cons x l ih =>
    obtain ⟨u, r⟩ := x
    simp only [z_lk2] at h
    cases hb : Nat.blt pc u with
    | true =>
      rw [hb] at h
      exact ⟨(u, r), List.mem_cons_self, z_lk1_mem h⟩
    | false =>
      rw [hb] at h
      obtain ⟨p, h1, h2⟩ := ih h
      exact ⟨p, List.mem_cons_of_mem _ h1, h2⟩
theorem z_kl_out {y : Nat} (h : 286 ≤ y) : z_kl y = [] := by
  unfold z_kl
  by_cases h2 : y / 16 < 18
  · have e : y / 16 = 17 := by omega
    rw [e]
    have e2 : y % 16 = 14 ∨ y % 16 = 15 := by omega
    rcases e2 with e2 | e2 <;> rw [e2] <;> rfl
  · rw [List.getD_eq_getElem?_getD (l := [_, _, _, _, _, _, _, _, _, _, _, _, _, _, _, _, _, _]), List.getElem?_eq_none (by simp; omega)]
    rfl
theorem z_cka_all (y : Nat) : z_cka y = true := by
  by_cases h : 286 ≤ y
  · unfold z_cka; rw [z_kl_out h]; rfl
  · by_cases h5 : y = 285
    · subst h5; exact z_ckg17b
    · have e : y = 16 * (y / 16) + y % 16 := by omega
      have hm : y % 16 < 16 := Nat.mod_lt _ (by decide)
      rw [e]
      generalize hg : y / 16 = g at *
      generalize hr : y % 16 = r at *
      have hg18 : g < 18 := by omega
      match g, hg18 with
      | 0, _ => exact z_ckg0 r hm
      | 1, _ => exact z_ckg1 r hm
      | 2, _ => exact z_ckg2 r hm
      | 3, _ => exact z_ckg3 r hm
      | 4, _ => exact z_ckg4 r hm
      | 5, _ => exact z_ckg5 r hm
      | 6, _ => exact z_ckg6 r hm
      | 7, _ => exact z_ckg7 r hm
      | 8, _ => exact z_ckg8 r hm
      | 9, _ => exact z_ckg9 r hm
      | 10, _ => exact z_ckg10 r hm
      | 11, _ => exact z_ckg11 r hm
      | 12, _ => exact z_ckg12 r hm
      | 13, _ => exact z_ckg13 r hm
      | 14, _ => exact z_ckg14 r hm
      | 15, _ => exact z_ckg15 r hm
      | 16, _ => exact z_ckg16 r hm
      | 17, _ => exact z_ckg17 r (by omega)
      | k + 18, h => omega
theorem z_nd_grp {g r : Nat} {ps : List Nat} (hr : r < 16) (h : (List.range 16).flatMap (fun r => z_nda (16 * g + r)) = ps.filterMap (fun i => lw_tbl[i]?)) : ∀ w ∈ z_nda (16 * g + r), w ∈ lw_tbl := by
  intro w hw
  have h1 : w ∈ (List.range 16).flatMap (fun r => z_nda (16 * g + r)) := List.mem_flatMap.mpr ⟨r, List.mem_range.mpr hr, hw⟩
  rw [h] at h1
  obtain ⟨i, -, hi⟩ := List.mem_filterMap.mp h1
  exact List.mem_of_getElem? hi
theorem z_nda_all (y : Nat) : ∀ w ∈ z_nda y, w ∈ lw_tbl := by
  by_cases h : 286 ≤ y
  · intro w hw
    unfold z_nda at hw; rw [z_kl_out h] at hw
    simp at hw
  · have e : y = 16 * (y / 16) + y % 16 := by omega
    have hm : y % 16 < 16 := Nat.mod_lt _ (by decide)
    rw [e]
    generalize hg : y / 16 = g at *
    generalize hr : y % 16 = r at *
    have hg18 : g < 18 := by omega
    match g, hg18 with
    | 0, _ => exact z_nd_grp hm z_ndg0
    | 1, _ => exact z_nd_grp hm z_ndg1
    | 2, _ => exact z_nd_grp hm z_ndg2
    | 3, _ => exact z_nd_grp hm z_ndg3
    | 4, _ => exact z_nd_grp hm z_ndg4
    | 5, _ => exact z_nd_grp hm z_ndg5
    | 6, _ => exact z_nd_grp hm z_ndg6
    | 7, _ => exact z_nd_grp hm z_ndg7
    | 8, _ => exact z_nd_grp hm z_ndg8
    | 9, _ => exact z_nd_grp hm z_ndg9
    | 10, _ => exact z_nd_grp hm z_ndg10
    | 11, _ => exact z_nd_grp hm z_ndg11
    | 12, _ => exact z_nd_grp hm z_ndg12
    | 13, _ => exact z_nd_grp hm z_ndg13
    | 14, _ => exact z_nd_grp hm z_ndg14
    | 15, _ => exact z_nd_grp hm z_ndg15
    | 16, _ => exact z_nd_grp hm z_ndg16
    | 17, _ => exact z_nd_grp hm z_ndg17
    | k + 18, h => omega
/-- the words that hold on, however a launch warms up and the heap grows -/
def z_wx (w : Cond) : Bool := match w with
  | .laysStatic .. | .stringRef .. => false
  | _ => true
def z_tbl : List Cond := lw_tbl.filter z_wx
theorem z_tbl_of {w : Cond} (h : w ∈ lw_tbl) (hx : z_wx w = true) : w ∈ z_tbl := List.mem_filter.mpr ⟨h, hx⟩
def z_wk (w : Cond) : Bool := match w with
  | .arrayClass _ => true
  | .fieldLinkNest .. | .methodLinkNest .. | .declares _ | .castable .. | .privateMethod _ => true
  | .arrayOver (.object _) => true
  | w => w.onTables && w.keeps
theorem z_wk_all : z_tbl.all z_wk = true := by decide +kernel
theorem z_cd_ok {y pc : Nat} {q : z_E} (h : z_cd y pc = some q) : decode (z_mi y).2.1 pc = .ok (q.1, q.2.1) ∧ z_oke y pc q = true ∧ ∀ w ∈ z_need y q, z_wx w = true → w ∈ z_tbl := by
  obtain ⟨p, h1, h2⟩ := z_lk2_mem h
  have h3 := z_cka_all y
  unfold z_cka at h3
  have h4 := List.all_eq_true.mp h3 p h1
  unfold z_ck1 at h4
  have h5 := List.all_eq_true.mp h4 (pc, q) h2
  simp only [Bool.and_eq_true, decide_eq_true_eq] at h5
  refine ⟨h5.1, h5.2, fun w hw hx => z_tbl_of (z_nda_all y w ?_) hx⟩
  exact List.mem_flatMap.mpr ⟨p, h1, List.mem_flatMap.mpr ⟨(pc, q), h2, hw⟩⟩
end
section
/-! the memory as a world of the kit -/
def z_nc (M : z_M) : Nat := bif M.1 then 102 + M.2.1.1 else M.2.1.1
def z_sl (M : z_M) : Nat := M.2.1.2.1
/-- the classes' numbers, the row classes by element code, where our cells begin, what lies outside -/
abbrev z_G : Type := va_G × (Nat → ClassId) × Nat × (Nat → Nat → Value)
def z_A (B : Nat) : Nat → Prop := fun q => B ≤ q
def z_addr (B : Nat) (q : Nat × Nat) : Nat := B + z_off q.1 q.2
def z_tv (G : z_G) (v : z_V) : Value := match v with
  | Sum.inl x => .int x
  | Sum.inr (Sum.inl x) => .long x
  | Sum.inr (Sum.inr (Sum.inl (t, i))) => if t < 64 then .ref (G.2.2.1 + z_off t i) else G.2.2.2 t i
  | Sum.inr (Sum.inr (Sum.inr ())) => .null
def z_fv (B : Nat) (M : z_M) (t i j ty : Nat) : Value := if ty = 1 then .long (M.2.2.2 t i j) else if ty = 2 then va_rf ((z_gr M t i j).map (z_addr B)) else .int (M.2.2.1 t i j)
def z_ac (B : Nat) (M : z_M) (t i e n : Nat) : (Nat → Int32) ⊕ (Nat → Int64) ⊕ (Nat → UInt32) ⊕ (Nat → UInt64) ⊕ (Nat → Option Nat) :=
  if e = 0 then .inl (fun j => M.2.2.1 t i j) else if e = 1 then .inr (.inl (fun j => M.2.2.2 t i j)) else .inr (.inr (.inr (.inr (fun j => if j < n then (z_gr M t i j).map (z_addr B) else none))))
def z_oc (B : Nat) (M : z_M) (t i c : Nat) : List Value := (List.range (z_fn c)).map (fun j => z_fv B M t i j ((z_ftl.getD c []).getD j 9))
def z_cE (G : z_G) (M : z_M) (t i : Nat) : va_E := match z_ta t with
  | some (e, n) => .inl (G.2.1 e, n, z_ac G.2.2.1 M t i e n)
  | none => .inr ((z_co M t i).getD 0, z_oc G.2.2.1 M t i ((z_co M t i).getD 0))
def z_wl (G : z_G) (M : z_M) : va_W := (List.range (z_nc M)).map (fun k => (G.2.2.1 + k, z_cE G M (z_un k).1 (z_un k).2))
def z_tys (G : z_G) : List (ClassId × FieldType) := [(G.2.1 0, .int), (G.2.1 1, .long), (G.2.1 2, .object "ShareNets$Net"), (G.2.1 3, .object "ShareNets$Share"), (G.2.1 4, .object "ShareNets$Sheet")]
theorem z_lay1 : ∀ t, t < 64 → t ≠ 32 → ∀ i, i < z_cnt t → z_off t i < 102 ∧ z_un (z_off t i) = (t, i) := by decide +kernel
theorem z_lay2 : ∀ k, k < 102 → z_off (z_un k).1 (z_un k).2 = k ∧ (z_un k).1 < 64 := by decide +kernel
theorem z_cnt_out {t : Nat} (h : 64 ≤ t) : z_cnt t = 0 := by
  unfold z_cnt
  rw [List.getD_eq_getElem?_getD, List.getElem?_eq_none]
  · rfl
  · exact h
theorem z_un_out {k : Nat} (h : 102 ≤ k) : z_un k = (32, k - 102) := by
  unfold z_un
  have : Nat.blt k 102 = false := by
    cases hq : Nat.blt k 102 with
    | false => rfl
    | true => exact absurd (Nat.le_of_ble_eq_true hq) (by omega)
  rw [this]
  rfl
theorem z_un_lt (k : Nat) : (z_un k).1 < 64 := by
  by_cases h : k < 102
  · exact (z_lay2 k h).2
  · rw [z_un_out (by omega)]; exact Nat.le_of_ble_eq_true rfl
theorem z_off_un (k : Nat) : z_off (z_un k).1 (z_un k).2 = k := by
  by_cases h : k < 102
  · exact (z_lay2 k h).1
  · rw [z_un_out (by omega)]
    show 102 + (k - 102) = k
    omega
theorem z_beq_f {a b : Nat} (h : a ≠ b) : Nat.beq a b = false := by
  cases hq : Nat.beq a b with
  | false => rfl
  | true => exact absurd (Nat.eq_of_beq_eq_true hq) h
theorem z_g_off {M : z_M} {t i : Nat} (h : z_g M t i = true) : z_off t i < z_nc M ∧ z_un (z_off t i) = (t, i) ∧ t < 64 ∧ (t = 32 → M.1 = true ∧ i < M.2.1.1) := by
  unfold z_g at h
  by_cases ht : t = 32
  · subst ht
    have h : (M.1 && decide (i < M.2.1.1)) = true := h
    simp only [Bool.and_eq_true, decide_eq_true_eq] at h
    refine ⟨?_, ?_, by decide, fun _ => h⟩
    · unfold z_nc; rw [h.1]; show 102 + i < 102 + M.2.1.1; omega
    · show z_un (102 + i) = _
      rw [z_un_out (by omega)]
      congr 1
      omega
  · rw [z_beq_f ht] at h
    cases hM : M.1 with
    | false =>
      rw [hM] at h
      simp only [cond_false, Bool.and_eq_true, decide_eq_true_eq] at h
      refine ⟨by unfold z_nc; rw [hM]; exact h.1, h.2, ?_, fun q => absurd q ht⟩
      have := z_un_lt (z_off t i)
      rw [h.2] at this
      exact this
    | true =>
      rw [hM] at h
      have h1 : i < z_cnt t := by simpa using h
      by_cases h64 : t < 64
      · obtain ⟨a1, a2⟩ := z_lay1 t h64 ht i h1
        refine ⟨?_, a2, h64, fun q => absurd q ht⟩
        unfold z_nc; rw [hM]; show _ < 102 + _; omega
      · rw [z_cnt_out (by omega)] at h1
        omega
theorem z_wl_len (G : z_G) (M : z_M) : (z_wl G M).length = z_nc M := by simp [z_wl]
theorem z_wl_at (G : z_G) {M : z_M} {k : Nat} (h : k < z_nc M) : (z_wl G M)[k]? = some (G.2.2.1 + k, z_cE G M (z_un k).1 (z_un k).2) := by
  simp [z_wl, h]
theorem z_wl_get (G : z_G) {M : z_M} {t i : Nat} (h : z_g M t i = true) : (z_wl G M)[z_off t i]? = some (G.2.2.1 + z_off t i, z_cE G M t i) := by
  obtain ⟨h1, h2, -, -⟩ := z_g_off h
  rw [z_wl_at G h1, h2]
theorem z_wl_set (G : z_G) {M M' : z_M} {t i : Nat} (h : z_g M t i = true) (hn : z_nc M' = z_nc M) (hc : ∀ t' i', ¬ (t' = t ∧ i' = i) → z_cE G M' t' i' = z_cE G M t' i') : z_wl G M' = (z_wl G M).set (z_off t i) (G.2.2.1 + z_off t i, z_cE G M' t i) := by
  obtain ⟨h1, h2, -, -⟩ := z_g_off h
  apply List.ext_getElem?
  intro k
  by_cases hk : k < z_nc M
  · rw [z_wl_at G (by rw [hn]; exact hk)]
    by_cases e : k = z_off t i
    · subst e
      rw [List.getElem?_set_self (by rw [z_wl_len]; exact hk), h2]
    · rw [List.getElem?_set_ne (fun q => e q.symm), z_wl_at G hk, hc]
      rintro ⟨q1, q2⟩
      apply e
      rw [← z_off_un k, q1, q2]
  · rw [List.getElem?_eq_none (by rw [z_wl_len, hn]; omega), List.getElem?_eq_none (by rw [List.length_set, z_wl_len]; omega)]
theorem z_wl_push (G : z_G) {M M' : z_M} (hn : z_nc M' = z_nc M + 1) (hc : ∀ t' i', ¬ (t', i') = z_un (z_nc M) → z_cE G M' t' i' = z_cE G M t' i') : z_wl G M' = z_wl G M ++ [(G.2.2.1 + z_nc M, z_cE G M' (z_un (z_nc M)).1 (z_un (z_nc M)).2)] := by
  unfold z_wl
  rw [hn, List.range_succ, List.map_append]
  congr 1
  apply List.map_congr_left
  intro k hk
  rw [List.mem_range] at hk
  rw [hc]
  intro q
  have := congrArg (fun z => z_off z.1 z.2) q
  simp only [z_off_un] at this
  omega
theorem z_wl_D (G : z_G) (M : z_M) : va_D (z_A G.2.2.1) (z_wl G M) := by
  have key : ∀ (k : Nat) (q : Nat × va_E), (z_wl G M)[k]? = some q → q.1 = G.2.2.1 + k := by
    intro k q h
    have hk : k < z_nc M := by
      have := (List.getElem?_eq_some_iff.mp h).1
      rwa [z_wl_len] at this
    rw [z_wl_at G hk] at h
    cases h
    rfl
  refine ⟨fun i j p q hi hj e => ?_, fun k q h => ?_⟩
  · rw [key i p hi, key j q hj] at e
    omega
  · show G.2.2.1 ≤ q.1
    rw [key k q h]
    omega
/-- every share is of one of the four classes; references are to cells of ours -/
def z_kok (M : z_M) : Prop := (M.1 = true → ∀ i, i < M.2.1.1 → M.2.1.2.2.1 i ∈ ([0, 3, 5, 6] : List Nat)) ∧ ∀ t i j q, M.2.1.2.2.2 t i j = some q → q.1 < 64
theorem z_ft_lt : ∀ t, t < 64 → ∀ j, j < 64 → ∀ u, z_ft t j = some u → u < 64 := by
  have h : ∀ t, t < 64 → ∀ j, j < 64 → (match z_ft t j with | none => true | some u => decide (u < 64)) = true := by decide +kernel
  intro t ht j hj u hu
  have := h t ht j hj
  rw [hu] at this
  simpa using this
theorem z_ft_len : ∀ t, t < 64 → ((([[some 1, some 1, none, some 15, some 17, some 19, some 20, none, some 21, some 22, some 23, some 24, some 24, some 13, some 27, some 28, some 29], [some 2, some 3, some 4, some 11, some 12, none, none], [some 13, some 13, some 13, some 13], [], [some 5, some 6, none, some 7, some 8, some 9, some 10], [], [], [], [], [], [], [], [], [some 14, none], [], [some 13, none, some 16, none, none], [], [some 18, none, none], [], [], [], [some 30, some 30, some 30, some 30], [], [], [some 25, some 26], [], [], [], [], [], [some 31, none, none], [], [], [some 34, some 35, none, some 36, none, some 37, some 38, none, none, some 39, some 40, some 41, some 42, some 43, none, none, none, none, none, none, none, none, some 44, some 45, none, some 46, none, none, some 47, some 48, some 49, some 50, some 51, some 52, none, none, some 53, none, some 54, none, some 55, some 56, some 57, some 58, some 59, some 60, none, none, none, some 61, none, none, none, some 62, none, some 63], [], [], [], [], [], [], [], [], [], [], [], [], [], [], [], [], [], [], [], [], [], [], [], [], [], [], [], [], [], []] : List (List (Option Nat))).getD t []).length ≤ 64) := by decide +kernel
theorem z_fin_lt {t i j : Nat} {q : Nat × Nat} (h : z_fin t i j = some q) : q.1 < 64 := by
  unfold z_fin at h
  cases hu : z_ft t j with
  | none => rw [hu] at h; cases h
  | some u =>
    rw [hu] at h
    cases h
    show u < 64
    by_cases ht : t < 64
    · by_cases hj : j < 64
      · exact z_ft_lt t ht j hj u hu
      · unfold z_ft at hu
        rw [List.getD_eq_getElem?_getD (i := j), List.getElem?_eq_none (Nat.le_trans (z_ft_len t ht) (by omega))] at hu
        cases hu
    · unfold z_ft at hu
      rw [List.getD_eq_getElem?_getD (i := t), List.getElem?_eq_none (by exact Nat.le_of_not_lt ht)] at hu
      cases hu
theorem z_gr_lt {M : z_M} (hk : z_kok M) {t i j : Nat} {q : Nat × Nat} (h : z_gr M t i j = some q) : q.1 < 64 := by
  unfold z_gr at h
  cases hM : M.1 with
  | false => rw [hM] at h; exact hk.2 _ _ _ _ h
  | true =>
    rw [hM] at h
    cases hb : Nat.beq t 11 with
    | true => rw [hb] at h; exact hk.2 _ _ _ _ h
    | false => rw [hb] at h; exact z_fin_lt h
theorem z_rf_tv {G : z_G} {M : z_M} (hk : z_kok M) (t i j : Nat) : va_rf ((z_gr M t i j).map (z_addr G.2.2.1)) = z_tv G (z_rf (z_gr M t i j)) := by
  cases h : z_gr M t i j with
  | none => rfl
  | some q =>
    have h1 := z_gr_lt hk h
    show Value.ref (z_addr G.2.2.1 q) = z_tv G (Sum.inr (Sum.inr (Sum.inl q)))
    obtain ⟨a, b⟩ := q
    show _ = if a < 64 then _ else _
    rw [if_pos h1]
    rfl
theorem z_fv_tv {G : z_G} {M : z_M} (hk : z_kok M) (t i j : Nat) {ty : Nat} : z_fv G.2.2.1 M t i j ty = z_tv G (z_fg M t i j ty) := by
  unfold z_fv z_fg
  by_cases h1 : ty = 1
  · subst h1; rfl
  · rw [if_neg h1]
    have b1 : Nat.beq ty 1 = false := by
      cases hq : Nat.beq ty 1 with
      | false => rfl
      | true => exact absurd (Nat.eq_of_beq_eq_true hq) h1
    rw [b1]
    by_cases h2 : ty = 2
    · subst h2
      rw [if_pos rfl]
      exact z_rf_tv hk t i j
    · rw [if_neg h2]
      have b2 : Nat.beq ty 2 = false := by
        cases hq : Nat.beq ty 2 with
        | false => rfl
        | true => exact absurd (Nat.eq_of_beq_eq_true hq) h2
      rw [b2]
      rfl
end
section
/-! the classes, what lies outside, a state that holds a memory -/
def z_clT (c : Nat) : u_T := (z_cl.getD c ("", z_T0, 0)).2.1
def z_ty (c : Nat) : Nat → FieldType := z_tyl.getD c z_y0
theorem z_cl_at : ∀ c, c < 13 → z_cl[c]? = some (z_cn c, z_clT c, z_fn c) := by
  intro c h
  match c, h with
  | 0, _ | 1, _ | 2, _ | 3, _ | 4, _ | 5, _ | 6, _ | 7, _ | 8, _ | 9, _ | 10, _ | 11, _ | 12, _ => rfl
theorem z_cls_nm : ∀ c, c < 13 → ∀ a, a < z_fn c → ∀ b, b < z_fn c → a ≠ b → (z_clT c a).2.1 ≠ (z_clT c b).2.1 := by decide +kernel
theorem z_cls_ty : ∀ c, c < 13 → ∀ k, k < z_fn c → parseFieldDescriptor (z_clT c k).2.2.1 = some (z_ty c k) := by decide +kernel
/-- type codes and types agree -/
theorem z_cls_tc : ∀ c, c < 13 → ∀ k, k < z_fn c → ((z_ftl.getD c []).getD k 9 = 0 ∧ z_ty c k = .int) ∨ ((z_ftl.getD c []).getD k 9 = 1 ∧ z_ty c k = .long) ∨ ((z_ftl.getD c []).getD k 9 = 3 ∧ z_ty c k = .boolean) ∨ ((z_ftl.getD c []).getD k 9 = 2 ∧ defaultValue (z_ty c k) = .null ∧ fits (z_ty c k) .null = true ∧ fits (z_ty c k) (.ref 0) = true) := by decide +kernel
theorem z_cls_len : ∀ c, c < 13 → (z_ftl.getD c []).length = z_fn c := by decide +kernel
/-- a share's four classes have the same fields -/
theorem z_cls_sh : ∀ c ∈ ([0, 3, 5, 6] : List Nat), c < 13 ∧ z_fn c = 4 ∧ (z_ftl.getD c []) = z_ftl.getD 3 [] ∧ ∀ k, k < 4 → z_clT c k = z_clT 3 k := by decide +kernel
theorem z_tc13 : ∀ t, t < 64 → ∀ c, z_tc t = some c → c < 13 ∧ z_ta t = none ∧ t ≠ 32 := by
  have h : ∀ t, t < 64 → (match z_tc t with | none => true | some c => decide (c < 13 ∧ z_ta t = none ∧ t ≠ 32)) = true := by decide +kernel
  intro t ht c hc
  have := h t ht
  rw [hc] at this
  simpa using this
theorem z_ta5 : ∀ t, t < 64 → ∀ e n, z_ta t = some (e, n) → e < 5 ∧ n < 1000 ∧ z_tc t = none := by
  have h : ∀ t, t < 64 → (match z_ta t with | none => true | some (e, n) => decide (e < 5 ∧ n < 1000 ∧ z_tc t = none)) = true := by decide +kernel
  intro t ht e n hc
  have := h t ht
  rw [hc] at this
  simpa using this
theorem z_ta_lt {t : Nat} {q : Nat × Nat} (h : z_ta t = some q) : t < 64 := by
  rcases Nat.lt_or_ge t 64 with g | g
  · exact g
  · unfold z_ta at h
    rw [List.getD_eq_getElem?_getD, List.getElem?_eq_none (by exact g)] at h
    cases h
theorem z_tc_lt' {t c : Nat} (h : z_tc t = some c) : t < 64 := by
  rcases Nat.lt_or_ge t 64 with g | g
  · exact g
  · unfold z_tc at h
    rw [List.getD_eq_getElem?_getD, List.getElem?_eq_none (by exact g)] at h
    cases h
theorem z_lay_0 : u_ws (z_cn 0) (z_clT 0) (z_fn 0) = ([839, 840, 841, 842] : List Nat).filterMap (fun i => lw_tbl[i]?) := by decide +kernel
theorem z_lay_1 : u_ws (z_cn 1) (z_clT 1) (z_fn 1) = ([138, 140, 142, 144, 146, 148, 150] : List Nat).filterMap (fun i => lw_tbl[i]?) := by decide +kernel
theorem z_lay_2 : u_ws (z_cn 2) (z_clT 2) (z_fn 2) = ([169, 171] : List Nat).filterMap (fun i => lw_tbl[i]?) := by decide +kernel
theorem z_lay_3 : u_ws (z_cn 3) (z_clT 3) (z_fn 3) = ([847, 848, 849, 850] : List Nat).filterMap (fun i => lw_tbl[i]?) := by decide +kernel
theorem z_lay_4 : u_ws (z_cn 4) (z_clT 4) (z_fn 4) = ([279, 281, 283] : List Nat).filterMap (fun i => lw_tbl[i]?) := by decide +kernel
theorem z_lay_5 : u_ws (z_cn 5) (z_clT 5) (z_fn 5) = ([828, 829, 830, 831] : List Nat).filterMap (fun i => lw_tbl[i]?) := by decide +kernel
theorem z_lay_6 : u_ws (z_cn 6) (z_clT 6) (z_fn 6) = ([813, 815, 817, 819] : List Nat).filterMap (fun i => lw_tbl[i]?) := by decide +kernel
theorem z_lay_7 : u_ws (z_cn 7) (z_clT 7) (z_fn 7) = ([261, 263] : List Nat).filterMap (fun i => lw_tbl[i]?) := by decide +kernel
theorem z_lay_8 : u_ws (z_cn 8) (z_clT 8) (z_fn 8) = ([218, 220, 222, 224, 226] : List Nat).filterMap (fun i => lw_tbl[i]?) := by decide +kernel
theorem z_lay_9 : u_ws (z_cn 9) (z_clT 9) (z_fn 9) = ([242, 244, 246] : List Nat).filterMap (fun i => lw_tbl[i]?) := by decide +kernel
theorem z_lay_10 : u_ws (z_cn 10) (z_clT 10) (z_fn 10) = ([188, 190, 192, 194, 196, 198, 200] : List Nat).filterMap (fun i => lw_tbl[i]?) := by decide +kernel
theorem z_lay_11 : u_ws (z_cn 11) (z_clT 11) (z_fn 11) = ([303, 305, 307, 309, 311, 313, 315, 317, 319, 321, 323, 325, 327, 329, 331, 333, 335] : List Nat).filterMap (fun i => lw_tbl[i]?) := by decide +kernel
theorem z_lay_12 : u_ws (z_cn 12) (z_clT 12) (z_fn 12) = ([1146, 1148, 1150, 1152, 1154, 1156, 1158, 1160, 1162, 1164, 1166, 1168, 1170, 1172, 1174, 1176, 1178, 1180, 1182, 1184, 1186, 1188, 1190, 1192, 1194, 1196, 1198, 1200, 1202, 1204, 1206, 1208, 1210, 1212, 1214, 1216, 1218, 1220, 1222, 1224, 1226, 1228, 1230, 1232, 1234, 1236, 1238, 1240, 1242, 1244, 1246, 1248, 1250, 1252, 1254, 1256] : List Nat).filterMap (fun i => lw_tbl[i]?) := by decide +kernel
theorem z_lays_of {ws : List Cond} {ps : List Nat} (h : ws = ps.filterMap (fun i => lw_tbl[i]?)) (hx : ws.all z_wx = true) : ∀ w ∈ ws, w ∈ z_tbl := by
  intro w hw
  have hx := List.all_eq_true.mp hx w hw
  rw [h] at hw
  obtain ⟨i, -, hi⟩ := List.mem_filterMap.mp hw
  exact z_tbl_of (List.mem_of_getElem? hi) hx
theorem z_lays : ∀ c, c < 13 → ∀ w ∈ u_ws (z_cn c) (z_clT c) (z_fn c), w ∈ z_tbl := by
  intro c hc
  match c, hc with
  | 0, _ => exact z_lays_of z_lay_0 (by decide +kernel)
  | 1, _ => exact z_lays_of z_lay_1 (by decide +kernel)
  | 2, _ => exact z_lays_of z_lay_2 (by decide +kernel)
  | 3, _ => exact z_lays_of z_lay_3 (by decide +kernel)
  | 4, _ => exact z_lays_of z_lay_4 (by decide +kernel)
  | 5, _ => exact z_lays_of z_lay_5 (by decide +kernel)
  | 6, _ => exact z_lays_of z_lay_6 (by decide +kernel)
  | 7, _ => exact z_lays_of z_lay_7 (by decide +kernel)
  | 8, _ => exact z_lays_of z_lay_8 (by decide +kernel)
  | 9, _ => exact z_lays_of z_lay_9 (by decide +kernel)
  | 10, _ => exact z_lays_of z_lay_10 (by decide +kernel)
  | 11, _ => exact z_lays_of z_lay_11 (by decide +kernel)
  | 12, _ => exact z_lays_of z_lay_12 (by decide +kernel)
def z_lens : List Nat := [5, 3, 4, 4]
/-- what lies outside our cells: texts, constant rows, the script, a formatter; classes that are not one another's -/
def z_Ex (G : z_G) (L : Nat) (xs : Nat → Int32) (s : State) : Prop :=
  (∀ t i, G.2.2.2 t i = .null ∨ ∃ a, G.2.2.2 t i = .ref a) ∧
  (∃ adK adV : Nat → Nat, (∀ i, i < 4 → G.2.2.2 64 i = .ref (adK i) ∧ G.2.2.2 65 i = .ref (adV i)) ∧ vk_S 4 z_lens z_sby adK adV (z_A G.2.2.1) s s.heap ∧ ∀ i, i < 4 → vk_R "ShareNets$Tape" (([39, 60, 62, 64] : List Nat).getD i 0) (z_stx i) (adK i) s) ∧
  (∀ k, k < 4 → ∃ t, G.2.2.2 66 k = .ref t ∧ va_Z (z_stn k).1 (z_stn k).2.1 (z_stn k).2.2 (.ref t) (z_A G.2.2.1) s s.heap ∧ va_T .int t (z_stc.getD k []).length (fun j => .int ((z_stc.getD k []).getD j 0)) (z_A G.2.2.1) s s.heap) ∧
  va_Z (z_stn 4).1 (z_stn 4).2.1 (z_stn 4).2.2 (.int 1) (z_A G.2.2.1) s s.heap ∧
  va_Z (z_stn 5).1 (z_stn 5).2.1 (z_stn 5).2.2 (G.2.2.2 68 0) (z_A G.2.2.1) s s.heap ∧
  (∃ b, G.2.2.2 67 0 = .ref b ∧ b < G.2.2.1 ∧ va_X b L xs s s.heap) ∧
  (∀ c ∈ ([0, 3, 5, 6] : List Nat), ∀ d ∈ ([0, 5, 6] : List Nat), z_sub c d = false → va_Nc (z_cn c) (z_cn d) s) ∧ L < 2 ^ 31
theorem z_Ex.moved {G : z_G} {L : Nat} {xs : Nat → Int32} {s U : State} (h : z_Ex G L xs s) (hW : s.WarmedH U.vm) (hB : G.2.2.1 ≤ s.heap.size) (hq : ∀ a : Nat, a < s.heap.size → ¬ z_A G.2.2.1 a → U.heap[a]? = s.heap[a]?) : z_Ex G L xs U := by
  obtain ⟨h0, ⟨adK, adV, h1, h2, h3⟩, h4, h5, h6, ⟨b, h7, h8, h9⟩, h10, h11⟩ := h
  refine ⟨h0, ⟨adK, adV, h1, (h2.moved hW.alike).kept hq, fun i hi => (h3 i hi).warm hW⟩, fun k hk => ?_, (h5.moved hW.alike).kept hq, (h6.moved hW.alike).kept hq, ⟨b, h7, h8, (h9.moved hW.alike).kept (hq b (Nat.lt_of_lt_of_le h8 hB) (Nat.not_le.mpr h8))⟩, fun c hc d hd hs => (h10 c hc d hd hs).moved hW.alike, h11⟩
  obtain ⟨t, q1, q2, q3⟩ := h4 k hk
  exact ⟨t, q1, (q2.moved hW.alike).kept hq, (q3.moved hW.alike).kept hq⟩
theorem z_wk_warm {w : Cond} (hw : z_wk w = true) {s U : State} (hW : s.WarmedH U.vm) (h : va_Nw w s) : va_Nw w U := by
  unfold z_wk at hw
  split at hw
  · exact word_at hW (Or.inr ⟨_, rfl⟩) h
  · exact va_Nw.warmF hW h
  · exact va_Nw.warmM hW h
  · exact va_Nw.warmD hW h
  · exact va_Nw.warmC hW h
  · exact va_tabs (A := #[]) rfl (rfl : (s.setVm U.vm).vm = U.vm) (by rw [Cond.privateMethod_setVm hW.alike]; exact h)
  · exact va_AO.moved hW.alike h
  · simp only [Bool.and_eq_true] at hw
    exact word_at hW (Or.inl (by rw [hw.1, hw.2]; rfl)) h
theorem z_tb_warm {s U : State} (hW : s.WarmedH U.vm) (h : ∀ w ∈ z_tbl, va_Nw w s) : ∀ w ∈ z_tbl, va_Nw w U := fun w hw => z_wk_warm (List.all_eq_true.mp z_wk_all w hw) hW (h w hw)
/-- the script as the memory tells it -/
def z_scr (L : Nat) (xs : Nat → Int32) (M : z_M) : Prop := M.2.2.1 67 1 0 = Int32.ofNat L ∧ ∀ j, j < L → M.2.2.1 67 0 j = xs j
/-- a state that holds a memory -/
def z_St (G : z_G) (L : Nat) (xs : Nat → Int32) (M : z_M) (U : State) : Prop :=
  va_P G.1 z_cl (z_wl G M) U.heap ∧ U.heap.size = G.2.2.1 + z_nc M ∧ z_kok M ∧ z_scr L xs M ∧ va_K G.1 z_cl (z_tys G) U ∧ (∀ w ∈ z_tbl, va_Nw w U) ∧ z_Ex G L xs U
/-- a heap that holds a memory, behind a frame's start s -/
def z_Rp (G : z_G) (L : Nat) (xs : Nat → Int32) (s : State) (M : z_M) (H : Heap) (locs : List Loc) : Prop :=
  va_P G.1 z_cl (z_wl G M) H ∧ s.heap.size ≤ G.2.2.1 + z_nc M ∧ z_kok M ∧ z_scr L xs M ∧ va_S (z_A G.2.2.1) s.heap H locs
theorem z_St.moved {G : z_G} {L : Nat} {xs : Nat → Int32} {M0 M : z_M} {s U : State} {H : Heap} {locs : List Loc} (h : z_St G L xs M0 s) (hR : z_Rp G L xs s M H locs) (hH : H.size = G.2.2.1 + z_nc M) (hU : U.heap = H) (hW : s.WarmedH U.vm) : z_St G L xs M U := by
  obtain ⟨-, e0, -, -, k1, k2, k3⟩ := h
  obtain ⟨r1, r2, r3, r4, r5⟩ := hR
  subst hU
  exact ⟨r1, hH, r3, r4, k1.moved hW.alike, z_tb_warm hW k2, k3.moved hW (by omega) r5.2.1⟩
/-- the locals -/
def z_Lh (G : z_G) (ls : List (Option z_V)) (nL : Nat) (lsC : Array Slot) : Prop := lsC.size = nL ∧ lv_wf lsC ∧ ∀ i v, ls.getD i none = some v → lsC[i]? = some (.val (z_tv G v))
def z_lv (G : z_G) (ls : List (Option z_V)) : List (Nat × Value) := (List.range ls.length).filterMap (fun i => (ls.getD i none).map (fun v => (i, z_tv G v)))
theorem z_lv_mem {G : z_G} {ls : List (Option z_V)} {q : Nat × Value} : q ∈ z_lv G ls ↔ ∃ v, ls.getD q.1 none = some v ∧ q.2 = z_tv G v := by
  unfold z_lv
  rw [List.mem_filterMap]
  constructor
  · rintro ⟨i, -, hi⟩
    cases hv : ls.getD i none with
    | none => rw [hv] at hi; cases hi
    | some v => rw [hv] at hi; cases hi; exact ⟨v, hv, rfl⟩
  · rintro ⟨v, h1, h2⟩
    refine ⟨q.1, ?_, ?_⟩
    · rw [List.mem_range]
      rcases Nat.lt_or_ge q.1 ls.length with g | g
      · exact g
      · rw [List.getD_eq_getElem?_getD, List.getElem?_eq_none g] at h1
        cases h1
    · rw [h1, Option.map_some, ← h2]
theorem z_Lh.has {G : z_G} {ls : List (Option z_V)} {nL : Nat} {lsC : Array Slot} (h : z_Lh G ls nL lsC) : lv_has lsC nL (z_lv G ls) :=
  ⟨h.1, h.2.1, fun q hq => by
    obtain ⟨v, h1, h2⟩ := z_lv_mem.mp hq
    rw [h2]
    exact h.2.2 _ _ h1⟩
/-- a value is of two slots just when it is a long -/
theorem z_tv_cat {G : z_G} (hx : ∀ t i, G.2.2.2 t i = .null ∨ ∃ a, G.2.2.2 t i = .ref a) (v : z_V) : (z_tv G v).category = 2 ↔ ∃ x, v = z_j x := by
  match v with
  | Sum.inl x => simp [z_tv, Value.category]
  | Sum.inr (Sum.inl x) => simp [z_tv, Value.category]
  | Sum.inr (Sum.inr (Sum.inr ())) => simp [z_tv, Value.category]
  | Sum.inr (Sum.inr (Sum.inl (t, i))) =>
    have h0 : (z_tv G (Sum.inr (Sum.inr (Sum.inl (t, i))))).category = 1 := by
      unfold z_tv
      dsimp only
      split
      · rfl
      · rcases hx t i with h | ⟨a, h⟩ <;> rw [h] <;> rfl
    rw [h0]
    simp
theorem z_getD_set {α : Type} (l : List α) (i j : Nat) (v d : α) : (l.set i v).getD j d = if i = j ∧ i < l.length then v else l.getD j d := by
  rw [List.getD_eq_getElem?_getD, List.getD_eq_getElem?_getD, List.getElem?_set]
  by_cases h : i = j
  · subst h
    by_cases h2 : i < l.length
    · simp [h2]
    · simp [h2]
  · simp [h]
theorem z_lst_pre {ls ls' : List (Option z_V)} {i : Nat} {v : z_V} (h : z_lst ls i v = some ls') : (∀ x1 j1, j1 + 1 = i → ¬ ls.getD j1 none = some (z_j x1)) ∧ ((∀ x1, v ≠ z_j x1) → ls' = ls.set i (some v)) ∧ (∀ x1, v = z_j x1 → ls' = (ls.set i (some v)).set (i + 1) none) := by
  unfold z_lst at h
  split at h
  · cases h
  · next hn1 =>
    refine ⟨fun x1 j1 hj1 hc1 => ?_, fun hv1 => ?_, fun x1 hv1 => ?_⟩
    · apply hn1 x1
      have hb1 : Nat.beq i 0 = false := by
        cases i with
        | zero => omega
        | succ k1 => rfl
      rw [hb1, cond_false, show i - 1 = j1 by omega]
      exact hc1
    · split at h
      · next x2 => exact absurd rfl (hv1 x2)
      · exact (Option.some.inj h).symm
    · subst hv1
      exact (Option.some.inj h).symm
theorem z_lst_has1 {G : z_G} (hx : ∀ t i, G.2.2.2 t i = .null ∨ ∃ a, G.2.2.2 t i = .ref a) {ls ls' : List (Option z_V)} {i nL : Nat} {v : z_V} {lsC : Array Slot} (h : z_lst ls i v = some ls') (hv : ∀ x, v ≠ z_j x)
    (hl : lv_has lsC nL ((i, z_tv G v) :: (z_lv G ls).filter (fun q => !(q.1 == i) && !(q.1 + 1 == i && q.2.category == 2)))) : z_Lh G ls' nL lsC := by
  obtain ⟨h1, h2, -⟩ := z_lst_pre h
  have h3 : ls' = ls.set i (some v) := h2 hv
  subst h3
  refine ⟨hl.1, hl.2.1, fun j1 w1 hj1 => ?_⟩
  rw [z_getD_set] at hj1
  split at hj1
  · next hc1 =>
    have e1 : v = w1 := Option.some.inj hj1
    subst e1
    have e2 : i = j1 := hc1.1
    subst e2
    exact hl.2.2 (i, z_tv G v) List.mem_cons_self
  · next hc1 =>
    refine hl.2.2 (j1, z_tv G w1) (List.mem_cons_of_mem _ (List.mem_filter.mpr ⟨z_lv_mem.mpr ⟨w1, hj1, rfl⟩, ?_⟩))
    have hji : j1 ≠ i := by
      intro e2
      subst e2
      rcases Nat.lt_or_ge j1 ls.length with g1 | g1
      · exact hc1 ⟨rfl, g1⟩
      · rw [List.getD_eq_getElem?_getD, List.getElem?_eq_none g1] at hj1
        cases hj1
    have h4 : ¬ (j1 + 1 = i ∧ (z_tv G w1).category = 2) := by
      intro q1
      obtain ⟨x1, e2⟩ := (z_tv_cat hx w1).mp q1.2
      rw [e2] at hj1
      exact h1 x1 j1 q1.1 hj1
    simp only [Bool.and_eq_true, Bool.not_eq_true', beq_eq_false_iff_ne, ne_eq, Bool.and_eq_false_iff]
    refine ⟨hji, ?_⟩
    by_cases a1 : j1 + 1 = i
    · exact Or.inr (fun a2 => h4 ⟨a1, a2⟩)
    · exact Or.inl a1
theorem z_lst_has2 {G : z_G} (hx : ∀ t i, G.2.2.2 t i = .null ∨ ∃ a, G.2.2.2 t i = .ref a) {ls ls' : List (Option z_V)} {i nL : Nat} {x : Int64} {lsC : Array Slot} (h : z_lst ls i (z_j x) = some ls')
    (hl : lv_has lsC nL ((i, Value.long x) :: (z_lv G ls).filter (fun q => !(q.1 == i) && (!(q.1 == i + 1) && !(q.1 + 1 == i && q.2.category == 2))))) : z_Lh G ls' nL lsC := by
  obtain ⟨h1, -, h2⟩ := z_lst_pre h
  have h3 : ls' = (ls.set i (some (z_j x))).set (i + 1) none := h2 x rfl
  subst h3
  refine ⟨hl.1, hl.2.1, fun j1 w1 hj1 => ?_⟩
  rw [z_getD_set] at hj1
  split at hj1
  · cases hj1
  · next hc0 =>
    rw [z_getD_set] at hj1
    split at hj1
    · next hc1 =>
      have e1 : z_j x = w1 := Option.some.inj hj1
      subst e1
      have e2 : i = j1 := hc1.1
      subst e2
      exact hl.2.2 (i, Value.long x) List.mem_cons_self
    · next hc1 =>
      refine hl.2.2 (j1, z_tv G w1) (List.mem_cons_of_mem _ (List.mem_filter.mpr ⟨z_lv_mem.mpr ⟨w1, hj1, rfl⟩, ?_⟩))
      have hlt : j1 < ls.length := by
        rcases Nat.lt_or_ge j1 ls.length with g1 | g1
        · exact g1
        · rw [List.getD_eq_getElem?_getD, List.getElem?_eq_none g1] at hj1
          cases hj1
      have hji : j1 ≠ i := by
        intro e2
        subst e2
        exact hc1 ⟨rfl, hlt⟩
      have hji2 : j1 ≠ i + 1 := by
        intro e2
        subst e2
        exact hc0 ⟨rfl, by rw [List.length_set]; exact hlt⟩
      have h4 : ¬ (j1 + 1 = i ∧ (z_tv G w1).category = 2) := by
        intro q1
        obtain ⟨x1, e2⟩ := (z_tv_cat hx w1).mp q1.2
        rw [e2] at hj1
        exact h1 x1 j1 q1.1 hj1
      simp only [Bool.and_eq_true, Bool.not_eq_true', beq_eq_false_iff_ne, ne_eq, Bool.and_eq_false_iff]
      refine ⟨hji, hji2, ?_⟩
      by_cases a1 : j1 + 1 = i
      · exact Or.inr (fun a2 => h4 ⟨a1, a2⟩)
      · exact Or.inl a1
end
section
/-! each plain instruction: what the interpreter does the machine does -/
def z_Fx (G : z_G) (L : Nat) (xs : Nat → Int32) (p : Program) (s : State) (m : MethodId) (meth : Method) (c : Code) (y : Nat) (M0 : z_M) : Prop :=
  p.tables.exec = Jvm.exec ∧ c.code = (z_mi y).2.1 ∧ c.maxLocals = z_ml y ∧ s.vm.findClass (z_nm y).cls = some m.cls ∧ meth.sig.returnType = (z_mi y).2.2.2 ∧ meth.locks = false ∧ meth.name = (z_nm y).name ∧ z_St G L xs M0 s
/-- from a place of the interpreter's the machine comes to Q -/
def z_K (G : z_G) (L : Nat) (xs : Nat → Int32) (p : Program) (l : Launch) (e : Env) (R : Room) (s : State) (m : MethodId) (args : Array Value) (below : List Frame) (meth : Method) (c : Code) (Q : State → Prop) (n0 s0 : Nat) (cf : z_C) : Prop :=
  ∀ (H : Heap) (locs : List Loc) (lsC : Array Slot), z_Rp G L xs s cf.2.2.2.2 H locs → z_Lh G cf.2.2.1 (z_ml cf.1) lsC → W p l e R s m args below meth c H locs (z_nc cf.2.2.2.2 - n0) (z_sl cf.2.2.2.2 - s0) Q (F0 m cf.2.1 lsC (cf.2.2.2.1.map (z_tv G)))
theorem z_wk_use {w : Cond} (hw : z_wk w = true) {s : State} {args : Array Value} (h : va_Nw w s) : w.before args s = true := by
  unfold z_wk at hw
  split at hw
  all_goals first
    | exact va_Nw.use rfl h
    | exact va_AO.use h
    | exact h
    | (simp only [Bool.and_eq_true] at hw; exact va_Nw.use hw.1 h)
theorem z_Fx.words {G : z_G} {L : Nat} {xs : Nat → Int32} {p : Program} {s : State} {m : MethodId} {meth : Method} {c : Code} {y : Nat} {M0 : z_M} (F : z_Fx G L xs p s m meth c y M0) (args : Array Value) : ∀ w ∈ z_tbl, w.before args s = true :=
  fun w hw => z_wk_use (List.all_eq_true.mp z_wk_all w hw) (F.2.2.2.2.2.2.2.2.2.2.2.2.1 w hw)
theorem z_tv_ref {G : z_G} (hx : ∀ t i, G.2.2.2 t i = .null ∨ ∃ a, G.2.2.2 t i = .ref a) (x : (Nat × Nat) ⊕ Unit) : z_tv G (Sum.inr (Sum.inr x)) = .null ∨ ∃ a, z_tv G (Sum.inr (Sum.inr x)) = .ref a := by
  match x with
  | Sum.inr () => exact Or.inl rfl
  | Sum.inl (t, i) =>
    unfold z_tv
    dsimp only
    split
    · exact Or.inr ⟨_, rfl⟩
    · exact hx t i
section
variable {G : z_G} {L : Nat} {xs : Nat → Int32} {p : Program} {l : Launch} {e : Env} {R : Room} {s : State} {m : MethodId} {args : Array Value} {below : List Frame} {meth : Method} {c : Code} {Q : State → Prop} {n0 s0 : Nat} {M0 : z_M}
variable {y pc len a b e' f : Nat} {ki : Int32} {kj : Int64} {ls : List (Option z_V)} {st : List z_V} {M : z_M} {c' : z_C}
theorem z_Fx.ex (F : z_Fx G L xs p s m meth c y M0) : ∀ t i, G.2.2.2 t i = .null ∨ ∃ a, G.2.2.2 t i = .ref a := F.2.2.2.2.2.2.2.2.2.2.2.2.2.1
theorem z_s_iadd (F : z_Fx G L xs p s m meth c y M0) (hcd : z_cd y pc = some (.iadd, len, (a, b, e', f), ki, kj)) (h : z_step (y, pc, ls, st, M) = Sum.inl c') (K : z_K G L xs p l e R s m args below meth c Q n0 s0 c') : z_K G L xs p l e R s m args below meth c Q n0 s0 (y, pc, ls, st, M) := by
  obtain ⟨hd, ho, hn⟩ := z_cd_ok hcd
  have hxx := F.ex
  have hw := F.words args
  obtain ⟨hx, hb, hml, hown, -⟩ := F
  simp only [z_step, hcd] at h
  obtain rfl : len = 1 := Nat.eq_of_beq_eq_true ho
  split at h
  · cases h
    intro H locs lsC hR hl
    exact lv_iadd hx hb hd (K H locs lsC hR hl)
  · cases h
theorem z_s_isub (F : z_Fx G L xs p s m meth c y M0) (hcd : z_cd y pc = some (.isub, len, (a, b, e', f), ki, kj)) (h : z_step (y, pc, ls, st, M) = Sum.inl c') (K : z_K G L xs p l e R s m args below meth c Q n0 s0 c') : z_K G L xs p l e R s m args below meth c Q n0 s0 (y, pc, ls, st, M) := by
  obtain ⟨hd, ho, hn⟩ := z_cd_ok hcd
  have hxx := F.ex
  have hw := F.words args
  obtain ⟨hx, hb, hml, hown, -⟩ := F
  simp only [z_step, hcd] at h
  obtain rfl : len = 1 := Nat.eq_of_beq_eq_true ho
  split at h
  · cases h
    intro H locs lsC hR hl
    exact lv_isub hx hb hd (K H locs lsC hR hl)
  · cases h
theorem z_s_imul (F : z_Fx G L xs p s m meth c y M0) (hcd : z_cd y pc = some (.imul, len, (a, b, e', f), ki, kj)) (h : z_step (y, pc, ls, st, M) = Sum.inl c') (K : z_K G L xs p l e R s m args below meth c Q n0 s0 c') : z_K G L xs p l e R s m args below meth c Q n0 s0 (y, pc, ls, st, M) := by
  obtain ⟨hd, ho, hn⟩ := z_cd_ok hcd
  have hxx := F.ex
  have hw := F.words args
  obtain ⟨hx, hb, hml, hown, -⟩ := F
  simp only [z_step, hcd] at h
  obtain rfl : len = 1 := Nat.eq_of_beq_eq_true ho
  split at h
  · cases h
    intro H locs lsC hR hl
    exact lv_imul hx hb hd (K H locs lsC hR hl)
  · cases h
theorem z_s_iand (F : z_Fx G L xs p s m meth c y M0) (hcd : z_cd y pc = some (.iand, len, (a, b, e', f), ki, kj)) (h : z_step (y, pc, ls, st, M) = Sum.inl c') (K : z_K G L xs p l e R s m args below meth c Q n0 s0 c') : z_K G L xs p l e R s m args below meth c Q n0 s0 (y, pc, ls, st, M) := by
  obtain ⟨hd, ho, hn⟩ := z_cd_ok hcd
  have hxx := F.ex
  have hw := F.words args
  obtain ⟨hx, hb, hml, hown, -⟩ := F
  simp only [z_step, hcd] at h
  obtain rfl : len = 1 := Nat.eq_of_beq_eq_true ho
  split at h
  · cases h
    intro H locs lsC hR hl
    exact lv_iand hx hb hd (K H locs lsC hR hl)
  · cases h
theorem z_s_ior (F : z_Fx G L xs p s m meth c y M0) (hcd : z_cd y pc = some (.ior, len, (a, b, e', f), ki, kj)) (h : z_step (y, pc, ls, st, M) = Sum.inl c') (K : z_K G L xs p l e R s m args below meth c Q n0 s0 c') : z_K G L xs p l e R s m args below meth c Q n0 s0 (y, pc, ls, st, M) := by
  obtain ⟨hd, ho, hn⟩ := z_cd_ok hcd
  have hxx := F.ex
  have hw := F.words args
  obtain ⟨hx, hb, hml, hown, -⟩ := F
  simp only [z_step, hcd] at h
  obtain rfl : len = 1 := Nat.eq_of_beq_eq_true ho
  split at h
  · cases h
    intro H locs lsC hR hl
    exact lv_ior hx hb hd (K H locs lsC hR hl)
  · cases h
theorem z_s_ixor (F : z_Fx G L xs p s m meth c y M0) (hcd : z_cd y pc = some (.ixor, len, (a, b, e', f), ki, kj)) (h : z_step (y, pc, ls, st, M) = Sum.inl c') (K : z_K G L xs p l e R s m args below meth c Q n0 s0 c') : z_K G L xs p l e R s m args below meth c Q n0 s0 (y, pc, ls, st, M) := by
  obtain ⟨hd, ho, hn⟩ := z_cd_ok hcd
  have hxx := F.ex
  have hw := F.words args
  obtain ⟨hx, hb, hml, hown, -⟩ := F
  simp only [z_step, hcd] at h
  obtain rfl : len = 1 := Nat.eq_of_beq_eq_true ho
  split at h
  · cases h
    intro H locs lsC hR hl
    exact lv_ixor hx hb hd (K H locs lsC hR hl)
  · cases h
theorem z_s_ishl (F : z_Fx G L xs p s m meth c y M0) (hcd : z_cd y pc = some (.ishl, len, (a, b, e', f), ki, kj)) (h : z_step (y, pc, ls, st, M) = Sum.inl c') (K : z_K G L xs p l e R s m args below meth c Q n0 s0 c') : z_K G L xs p l e R s m args below meth c Q n0 s0 (y, pc, ls, st, M) := by
  obtain ⟨hd, ho, hn⟩ := z_cd_ok hcd
  have hxx := F.ex
  have hw := F.words args
  obtain ⟨hx, hb, hml, hown, -⟩ := F
  simp only [z_step, hcd] at h
  obtain rfl : len = 1 := Nat.eq_of_beq_eq_true ho
  split at h
  · cases h
    intro H locs lsC hR hl
    exact lv_ishl hx hb hd (K H locs lsC hR hl)
  · cases h
theorem z_s_ishr (F : z_Fx G L xs p s m meth c y M0) (hcd : z_cd y pc = some (.ishr, len, (a, b, e', f), ki, kj)) (h : z_step (y, pc, ls, st, M) = Sum.inl c') (K : z_K G L xs p l e R s m args below meth c Q n0 s0 c') : z_K G L xs p l e R s m args below meth c Q n0 s0 (y, pc, ls, st, M) := by
  obtain ⟨hd, ho, hn⟩ := z_cd_ok hcd
  have hxx := F.ex
  have hw := F.words args
  obtain ⟨hx, hb, hml, hown, -⟩ := F
  simp only [z_step, hcd] at h
  obtain rfl : len = 1 := Nat.eq_of_beq_eq_true ho
  split at h
  · cases h
    intro H locs lsC hR hl
    exact lv_ishr hx hb hd (K H locs lsC hR hl)
  · cases h
theorem z_s_ladd (F : z_Fx G L xs p s m meth c y M0) (hcd : z_cd y pc = some (.ladd, len, (a, b, e', f), ki, kj)) (h : z_step (y, pc, ls, st, M) = Sum.inl c') (K : z_K G L xs p l e R s m args below meth c Q n0 s0 c') : z_K G L xs p l e R s m args below meth c Q n0 s0 (y, pc, ls, st, M) := by
  obtain ⟨hd, ho, hn⟩ := z_cd_ok hcd
  have hxx := F.ex
  have hw := F.words args
  obtain ⟨hx, hb, hml, hown, -⟩ := F
  simp only [z_step, hcd] at h
  obtain rfl : len = 1 := Nat.eq_of_beq_eq_true ho
  split at h
  · cases h
    intro H locs lsC hR hl
    exact lv_ladd hx hb hd (K H locs lsC hR hl)
  · cases h
theorem z_s_lsub (F : z_Fx G L xs p s m meth c y M0) (hcd : z_cd y pc = some (.lsub, len, (a, b, e', f), ki, kj)) (h : z_step (y, pc, ls, st, M) = Sum.inl c') (K : z_K G L xs p l e R s m args below meth c Q n0 s0 c') : z_K G L xs p l e R s m args below meth c Q n0 s0 (y, pc, ls, st, M) := by
  obtain ⟨hd, ho, hn⟩ := z_cd_ok hcd
  have hxx := F.ex
  have hw := F.words args
  obtain ⟨hx, hb, hml, hown, -⟩ := F
  simp only [z_step, hcd] at h
  obtain rfl : len = 1 := Nat.eq_of_beq_eq_true ho
  split at h
  · cases h
    intro H locs lsC hR hl
    exact lv_lsub hx hb hd (K H locs lsC hR hl)
  · cases h
theorem z_s_lmul (F : z_Fx G L xs p s m meth c y M0) (hcd : z_cd y pc = some (.lmul, len, (a, b, e', f), ki, kj)) (h : z_step (y, pc, ls, st, M) = Sum.inl c') (K : z_K G L xs p l e R s m args below meth c Q n0 s0 c') : z_K G L xs p l e R s m args below meth c Q n0 s0 (y, pc, ls, st, M) := by
  obtain ⟨hd, ho, hn⟩ := z_cd_ok hcd
  have hxx := F.ex
  have hw := F.words args
  obtain ⟨hx, hb, hml, hown, -⟩ := F
  simp only [z_step, hcd] at h
  obtain rfl : len = 1 := Nat.eq_of_beq_eq_true ho
  split at h
  · cases h
    intro H locs lsC hR hl
    exact lv_lmul hx hb hd (K H locs lsC hR hl)
  · cases h
theorem z_s_land (F : z_Fx G L xs p s m meth c y M0) (hcd : z_cd y pc = some (.land, len, (a, b, e', f), ki, kj)) (h : z_step (y, pc, ls, st, M) = Sum.inl c') (K : z_K G L xs p l e R s m args below meth c Q n0 s0 c') : z_K G L xs p l e R s m args below meth c Q n0 s0 (y, pc, ls, st, M) := by
  obtain ⟨hd, ho, hn⟩ := z_cd_ok hcd
  have hxx := F.ex
  have hw := F.words args
  obtain ⟨hx, hb, hml, hown, -⟩ := F
  simp only [z_step, hcd] at h
  obtain rfl : len = 1 := Nat.eq_of_beq_eq_true ho
  split at h
  · cases h
    intro H locs lsC hR hl
    exact lv_land hx hb hd (K H locs lsC hR hl)
  · cases h
theorem z_s_lor (F : z_Fx G L xs p s m meth c y M0) (hcd : z_cd y pc = some (.lor, len, (a, b, e', f), ki, kj)) (h : z_step (y, pc, ls, st, M) = Sum.inl c') (K : z_K G L xs p l e R s m args below meth c Q n0 s0 c') : z_K G L xs p l e R s m args below meth c Q n0 s0 (y, pc, ls, st, M) := by
  obtain ⟨hd, ho, hn⟩ := z_cd_ok hcd
  have hxx := F.ex
  have hw := F.words args
  obtain ⟨hx, hb, hml, hown, -⟩ := F
  simp only [z_step, hcd] at h
  obtain rfl : len = 1 := Nat.eq_of_beq_eq_true ho
  split at h
  · cases h
    intro H locs lsC hR hl
    exact lv_lor hx hb hd (K H locs lsC hR hl)
  · cases h
theorem z_s_lneg (F : z_Fx G L xs p s m meth c y M0) (hcd : z_cd y pc = some (.lneg, len, (a, b, e', f), ki, kj)) (h : z_step (y, pc, ls, st, M) = Sum.inl c') (K : z_K G L xs p l e R s m args below meth c Q n0 s0 c') : z_K G L xs p l e R s m args below meth c Q n0 s0 (y, pc, ls, st, M) := by
  obtain ⟨hd, ho, hn⟩ := z_cd_ok hcd
  have hxx := F.ex
  have hw := F.words args
  obtain ⟨hx, hb, hml, hown, -⟩ := F
  simp only [z_step, hcd] at h
  obtain rfl : len = 1 := Nat.eq_of_beq_eq_true ho
  split at h
  · cases h
    intro H locs lsC hR hl
    exact lv_lneg hx hb hd (K H locs lsC hR hl)
  · cases h
theorem z_s_iushr (F : z_Fx G L xs p s m meth c y M0) (hcd : z_cd y pc = some (.iushr, len, (a, b, e', f), ki, kj)) (h : z_step (y, pc, ls, st, M) = Sum.inl c') (K : z_K G L xs p l e R s m args below meth c Q n0 s0 c') : z_K G L xs p l e R s m args below meth c Q n0 s0 (y, pc, ls, st, M) := by
  obtain ⟨hd, ho, hn⟩ := z_cd_ok hcd
  have hxx := F.ex
  have hw := F.words args
  obtain ⟨hx, hb, hml, hown, -⟩ := F
  simp only [z_step, hcd] at h
  obtain rfl : len = 1 := Nat.eq_of_beq_eq_true ho
  split at h
  · cases h
    intro H locs lsC hR hl
    exact lv_iushr hx hb hd rfl (K H locs lsC hR hl)
  · cases h
theorem z_s_lshl (F : z_Fx G L xs p s m meth c y M0) (hcd : z_cd y pc = some (.lshl, len, (a, b, e', f), ki, kj)) (h : z_step (y, pc, ls, st, M) = Sum.inl c') (K : z_K G L xs p l e R s m args below meth c Q n0 s0 c') : z_K G L xs p l e R s m args below meth c Q n0 s0 (y, pc, ls, st, M) := by
  obtain ⟨hd, ho, hn⟩ := z_cd_ok hcd
  have hxx := F.ex
  have hw := F.words args
  obtain ⟨hx, hb, hml, hown, -⟩ := F
  simp only [z_step, hcd] at h
  obtain rfl : len = 1 := Nat.eq_of_beq_eq_true ho
  split at h
  · cases h
    intro H locs lsC hR hl
    exact lv_lshl hx hb hd rfl (K H locs lsC hR hl)
  · cases h
theorem z_s_lshr (F : z_Fx G L xs p s m meth c y M0) (hcd : z_cd y pc = some (.lshr, len, (a, b, e', f), ki, kj)) (h : z_step (y, pc, ls, st, M) = Sum.inl c') (K : z_K G L xs p l e R s m args below meth c Q n0 s0 c') : z_K G L xs p l e R s m args below meth c Q n0 s0 (y, pc, ls, st, M) := by
  obtain ⟨hd, ho, hn⟩ := z_cd_ok hcd
  have hxx := F.ex
  have hw := F.words args
  obtain ⟨hx, hb, hml, hown, -⟩ := F
  simp only [z_step, hcd] at h
  obtain rfl : len = 1 := Nat.eq_of_beq_eq_true ho
  split at h
  · cases h
    intro H locs lsC hR hl
    exact lv_lshr hx hb hd rfl (K H locs lsC hR hl)
  · cases h
theorem z_s_lushr (F : z_Fx G L xs p s m meth c y M0) (hcd : z_cd y pc = some (.lushr, len, (a, b, e', f), ki, kj)) (h : z_step (y, pc, ls, st, M) = Sum.inl c') (K : z_K G L xs p l e R s m args below meth c Q n0 s0 c') : z_K G L xs p l e R s m args below meth c Q n0 s0 (y, pc, ls, st, M) := by
  obtain ⟨hd, ho, hn⟩ := z_cd_ok hcd
  have hxx := F.ex
  have hw := F.words args
  obtain ⟨hx, hb, hml, hown, -⟩ := F
  simp only [z_step, hcd] at h
  obtain rfl : len = 1 := Nat.eq_of_beq_eq_true ho
  split at h
  · cases h
    intro H locs lsC hR hl
    exact lv_lushr hx hb hd rfl (K H locs lsC hR hl)
  · cases h
theorem z_s_i2l (F : z_Fx G L xs p s m meth c y M0) (hcd : z_cd y pc = some (.i2l, len, (a, b, e', f), ki, kj)) (h : z_step (y, pc, ls, st, M) = Sum.inl c') (K : z_K G L xs p l e R s m args below meth c Q n0 s0 c') : z_K G L xs p l e R s m args below meth c Q n0 s0 (y, pc, ls, st, M) := by
  obtain ⟨hd, ho, hn⟩ := z_cd_ok hcd
  have hxx := F.ex
  have hw := F.words args
  obtain ⟨hx, hb, hml, hown, -⟩ := F
  simp only [z_step, hcd] at h
  obtain rfl : len = 1 := Nat.eq_of_beq_eq_true ho
  split at h
  · cases h
    intro H locs lsC hR hl
    exact lv_i2l hx hb hd rfl (K H locs lsC hR hl)
  · cases h
theorem z_s_l2i (F : z_Fx G L xs p s m meth c y M0) (hcd : z_cd y pc = some (.l2i, len, (a, b, e', f), ki, kj)) (h : z_step (y, pc, ls, st, M) = Sum.inl c') (K : z_K G L xs p l e R s m args below meth c Q n0 s0 c') : z_K G L xs p l e R s m args below meth c Q n0 s0 (y, pc, ls, st, M) := by
  obtain ⟨hd, ho, hn⟩ := z_cd_ok hcd
  have hxx := F.ex
  have hw := F.words args
  obtain ⟨hx, hb, hml, hown, -⟩ := F
  simp only [z_step, hcd] at h
  obtain rfl : len = 1 := Nat.eq_of_beq_eq_true ho
  split at h
  · cases h
    intro H locs lsC hR hl
    exact lv_l2i hx hb hd rfl (K H locs lsC hR hl)
  · cases h
theorem z_s_i2b (F : z_Fx G L xs p s m meth c y M0) (hcd : z_cd y pc = some (.i2b, len, (a, b, e', f), ki, kj)) (h : z_step (y, pc, ls, st, M) = Sum.inl c') (K : z_K G L xs p l e R s m args below meth c Q n0 s0 c') : z_K G L xs p l e R s m args below meth c Q n0 s0 (y, pc, ls, st, M) := by
  obtain ⟨hd, ho, hn⟩ := z_cd_ok hcd
  have hxx := F.ex
  have hw := F.words args
  obtain ⟨hx, hb, hml, hown, -⟩ := F
  simp only [z_step, hcd] at h
  obtain rfl : len = 1 := Nat.eq_of_beq_eq_true ho
  split at h
  · cases h
    intro H locs lsC hR hl
    exact lv_i2b hx hb hd rfl (K H locs lsC hR hl)
  · cases h
theorem z_s_i2s (F : z_Fx G L xs p s m meth c y M0) (hcd : z_cd y pc = some (.i2s, len, (a, b, e', f), ki, kj)) (h : z_step (y, pc, ls, st, M) = Sum.inl c') (K : z_K G L xs p l e R s m args below meth c Q n0 s0 c') : z_K G L xs p l e R s m args below meth c Q n0 s0 (y, pc, ls, st, M) := by
  obtain ⟨hd, ho, hn⟩ := z_cd_ok hcd
  have hxx := F.ex
  have hw := F.words args
  obtain ⟨hx, hb, hml, hown, -⟩ := F
  simp only [z_step, hcd] at h
  obtain rfl : len = 1 := Nat.eq_of_beq_eq_true ho
  split at h
  · cases h
    intro H locs lsC hR hl
    exact lv_i2s hx hb hd rfl (K H locs lsC hR hl)
  · cases h
theorem z_s_i2c (F : z_Fx G L xs p s m meth c y M0) (hcd : z_cd y pc = some (.i2c, len, (a, b, e', f), ki, kj)) (h : z_step (y, pc, ls, st, M) = Sum.inl c') (K : z_K G L xs p l e R s m args below meth c Q n0 s0 c') : z_K G L xs p l e R s m args below meth c Q n0 s0 (y, pc, ls, st, M) := by
  obtain ⟨hd, ho, hn⟩ := z_cd_ok hcd
  have hxx := F.ex
  have hw := F.words args
  obtain ⟨hx, hb, hml, hown, -⟩ := F
  simp only [z_step, hcd] at h
  obtain rfl : len = 1 := Nat.eq_of_beq_eq_true ho
  split at h
  · cases h
    intro H locs lsC hR hl
    exact lv_i2c hx hb hd rfl (K H locs lsC hR hl)
  · cases h
theorem z_s_lcmp (F : z_Fx G L xs p s m meth c y M0) (hcd : z_cd y pc = some (.lcmp, len, (a, b, e', f), ki, kj)) (h : z_step (y, pc, ls, st, M) = Sum.inl c') (K : z_K G L xs p l e R s m args below meth c Q n0 s0 c') : z_K G L xs p l e R s m args below meth c Q n0 s0 (y, pc, ls, st, M) := by
  obtain ⟨hd, ho, hn⟩ := z_cd_ok hcd
  have hxx := F.ex
  have hw := F.words args
  obtain ⟨hx, hb, hml, hown, -⟩ := F
  simp only [z_step, hcd] at h
  obtain rfl : len = 1 := Nat.eq_of_beq_eq_true ho
  split at h
  · cases h
    intro H locs lsC hR hl
    exact W.lcmp hx hb hd (K H locs lsC hR hl)
  · cases h
theorem z_s_idiv (F : z_Fx G L xs p s m meth c y M0) (hcd : z_cd y pc = some (.idiv, len, (a, b, e', f), ki, kj)) (h : z_step (y, pc, ls, st, M) = Sum.inl c') (K : z_K G L xs p l e R s m args below meth c Q n0 s0 c') : z_K G L xs p l e R s m args below meth c Q n0 s0 (y, pc, ls, st, M) := by
  obtain ⟨hd, ho, hn⟩ := z_cd_ok hcd
  have hxx := F.ex
  have hw := F.words args
  obtain ⟨hx, hb, hml, hown, -⟩ := F
  simp only [z_step, hcd] at h
  obtain rfl : len = 1 := Nat.eq_of_beq_eq_true ho
  split at h
  · split at h
    · cases h
    · next hne =>
      cases h
      intro H locs lsC hR hl
      exact lv_idiv hx hb hd hne (K H locs lsC hR hl)
  · cases h
theorem z_s_irem (F : z_Fx G L xs p s m meth c y M0) (hcd : z_cd y pc = some (.irem, len, (a, b, e', f), ki, kj)) (h : z_step (y, pc, ls, st, M) = Sum.inl c') (K : z_K G L xs p l e R s m args below meth c Q n0 s0 c') : z_K G L xs p l e R s m args below meth c Q n0 s0 (y, pc, ls, st, M) := by
  obtain ⟨hd, ho, hn⟩ := z_cd_ok hcd
  have hxx := F.ex
  have hw := F.words args
  obtain ⟨hx, hb, hml, hown, -⟩ := F
  simp only [z_step, hcd] at h
  obtain rfl : len = 1 := Nat.eq_of_beq_eq_true ho
  split at h
  · split at h
    · cases h
    · next hne =>
      cases h
      intro H locs lsC hR hl
      exact lv_irem hx hb hd hne (K H locs lsC hR hl)
  · cases h
theorem z_s_ldiv (F : z_Fx G L xs p s m meth c y M0) (hcd : z_cd y pc = some (.ldiv, len, (a, b, e', f), ki, kj)) (h : z_step (y, pc, ls, st, M) = Sum.inl c') (K : z_K G L xs p l e R s m args below meth c Q n0 s0 c') : z_K G L xs p l e R s m args below meth c Q n0 s0 (y, pc, ls, st, M) := by
  obtain ⟨hd, ho, hn⟩ := z_cd_ok hcd
  have hxx := F.ex
  have hw := F.words args
  obtain ⟨hx, hb, hml, hown, -⟩ := F
  simp only [z_step, hcd] at h
  obtain rfl : len = 1 := Nat.eq_of_beq_eq_true ho
  split at h
  · split at h
    · cases h
    · next hne =>
      cases h
      intro H locs lsC hR hl
      exact lv_ldiv hx hb hd hne (K H locs lsC hR hl)
  · cases h
theorem z_s_lrem (F : z_Fx G L xs p s m meth c y M0) (hcd : z_cd y pc = some (.lrem, len, (a, b, e', f), ki, kj)) (h : z_step (y, pc, ls, st, M) = Sum.inl c') (K : z_K G L xs p l e R s m args below meth c Q n0 s0 c') : z_K G L xs p l e R s m args below meth c Q n0 s0 (y, pc, ls, st, M) := by
  obtain ⟨hd, ho, hn⟩ := z_cd_ok hcd
  have hxx := F.ex
  have hw := F.words args
  obtain ⟨hx, hb, hml, hown, -⟩ := F
  simp only [z_step, hcd] at h
  obtain rfl : len = 1 := Nat.eq_of_beq_eq_true ho
  split at h
  · split at h
    · cases h
    · next hne =>
      cases h
      intro H locs lsC hR hl
      exact lv_lrem hx hb hd hne (K H locs lsC hR hl)
  · cases h
theorem z_s_iconst {n : Int} (F : z_Fx G L xs p s m meth c y M0) (hcd : z_cd y pc = some (.iconst n, len, (a, b, e', f), ki, kj)) (h : z_step (y, pc, ls, st, M) = Sum.inl c') (K : z_K G L xs p l e R s m args below meth c Q n0 s0 c') : z_K G L xs p l e R s m args below meth c Q n0 s0 (y, pc, ls, st, M) := by
  obtain ⟨hd, ho, hn⟩ := z_cd_ok hcd
  have hxx := F.ex
  have hw := F.words args
  obtain ⟨hx, hb, hml, hown, -⟩ := F
  simp only [z_step, hcd] at h
  simp only [z_oke, Bool.and_eq_true, decide_eq_true_eq] at ho
  obtain ⟨ho1, ho2⟩ := ho
  obtain rfl : len = 1 := Nat.eq_of_beq_eq_true ho1
  cases h
  intro H locs lsC hR hl
  exact lv_iconst hx hb hd ho2 (K H locs lsC hR hl)
theorem z_s_bipush {n : Int} (F : z_Fx G L xs p s m meth c y M0) (hcd : z_cd y pc = some (.bipush n, len, (a, b, e', f), ki, kj)) (h : z_step (y, pc, ls, st, M) = Sum.inl c') (K : z_K G L xs p l e R s m args below meth c Q n0 s0 c') : z_K G L xs p l e R s m args below meth c Q n0 s0 (y, pc, ls, st, M) := by
  obtain ⟨hd, ho, hn⟩ := z_cd_ok hcd
  have hxx := F.ex
  have hw := F.words args
  obtain ⟨hx, hb, hml, hown, -⟩ := F
  simp only [z_step, hcd] at h
  simp only [z_oke, Bool.and_eq_true, decide_eq_true_eq] at ho
  obtain ⟨ho1, ho2⟩ := ho
  obtain rfl : len = 2 := Nat.eq_of_beq_eq_true ho1
  cases h
  intro H locs lsC hR hl
  exact lv_bipush hx hb hd ho2 (K H locs lsC hR hl)
theorem z_s_sipush {n : Int} (F : z_Fx G L xs p s m meth c y M0) (hcd : z_cd y pc = some (.sipush n, len, (a, b, e', f), ki, kj)) (h : z_step (y, pc, ls, st, M) = Sum.inl c') (K : z_K G L xs p l e R s m args below meth c Q n0 s0 c') : z_K G L xs p l e R s m args below meth c Q n0 s0 (y, pc, ls, st, M) := by
  obtain ⟨hd, ho, hn⟩ := z_cd_ok hcd
  have hxx := F.ex
  have hw := F.words args
  obtain ⟨hx, hb, hml, hown, -⟩ := F
  simp only [z_step, hcd] at h
  simp only [z_oke, Bool.and_eq_true, decide_eq_true_eq] at ho
  obtain ⟨ho1, ho2⟩ := ho
  obtain rfl : len = 3 := Nat.eq_of_beq_eq_true ho1
  cases h
  intro H locs lsC hR hl
  exact lv_sipush hx hb hd ho2 (K H locs lsC hR hl)
theorem z_s_lconst {n : Fin 2} (F : z_Fx G L xs p s m meth c y M0) (hcd : z_cd y pc = some (.lconst n, len, (a, b, e', f), ki, kj)) (h : z_step (y, pc, ls, st, M) = Sum.inl c') (K : z_K G L xs p l e R s m args below meth c Q n0 s0 c') : z_K G L xs p l e R s m args below meth c Q n0 s0 (y, pc, ls, st, M) := by
  obtain ⟨hd, ho, hn⟩ := z_cd_ok hcd
  have hxx := F.ex
  have hw := F.words args
  obtain ⟨hx, hb, hml, hown, -⟩ := F
  simp only [z_step, hcd] at h
  simp only [z_oke, Bool.and_eq_true, decide_eq_true_eq] at ho
  obtain ⟨ho1, ho2⟩ := ho
  obtain rfl : len = 1 := Nat.eq_of_beq_eq_true ho1
  cases h
  intro H locs lsC hR hl
  exact lv_lconst hx hb hd ho2 (K H locs lsC hR hl)
theorem z_s_null (F : z_Fx G L xs p s m meth c y M0) (hcd : z_cd y pc = some (.aconst_null, len, (a, b, e', f), ki, kj)) (h : z_step (y, pc, ls, st, M) = Sum.inl c') (K : z_K G L xs p l e R s m args below meth c Q n0 s0 c') : z_K G L xs p l e R s m args below meth c Q n0 s0 (y, pc, ls, st, M) := by
  obtain ⟨hd, ho, hn⟩ := z_cd_ok hcd
  have hxx := F.ex
  have hw := F.words args
  obtain ⟨hx, hb, hml, hown, -⟩ := F
  simp only [z_step, hcd] at h
  obtain rfl : len = 1 := Nat.eq_of_beq_eq_true ho
  cases h
  intro H locs lsC hR hl
  exact lv_null hx hb hd (K H locs lsC hR hl)
theorem z_s_ldcw {ix : Nat} (F : z_Fx G L xs p s m meth c y M0) (hcd : z_cd y pc = some (.ldc_w ix, len, (a, b, e', f), ki, kj)) (h : z_step (y, pc, ls, st, M) = Sum.inl c') (K : z_K G L xs p l e R s m args below meth c Q n0 s0 c') : z_K G L xs p l e R s m args below meth c Q n0 s0 (y, pc, ls, st, M) := by
  obtain ⟨hd, ho, hn⟩ := z_cd_ok hcd
  have hxx := F.ex
  have hw := F.words args
  obtain ⟨hx, hb, hml, hown, -⟩ := F
  simp only [z_step, hcd] at h
  obtain rfl : len = 3 := Nat.eq_of_beq_eq_true ho
  cases ha : Nat.beq a 1 with
  | true => rw [ha] at h; cases h
  | false =>
    rw [ha] at h
    cases h
    have hne : ¬ a = 1 := fun q => by rw [q] at ha; cases ha
    have hc := hw _ (hn (.constant (z_nm y).cls ix ki) (by simp [z_need, hne]) rfl)
    intro H locs lsC hR hl
    exact lv_ldcw hx hb hown hc hd (K H locs lsC hR hl)
theorem z_s_ldc2 {ix : Nat} (F : z_Fx G L xs p s m meth c y M0) (hcd : z_cd y pc = some (.ldc2_w ix, len, (a, b, e', f), ki, kj)) (h : z_step (y, pc, ls, st, M) = Sum.inl c') (K : z_K G L xs p l e R s m args below meth c Q n0 s0 c') : z_K G L xs p l e R s m args below meth c Q n0 s0 (y, pc, ls, st, M) := by
  obtain ⟨hd, ho, hn⟩ := z_cd_ok hcd
  have hxx := F.ex
  have hw := F.words args
  obtain ⟨hx, hb, hml, hown, -⟩ := F
  simp only [z_step, hcd] at h
  obtain rfl : len = 3 := Nat.eq_of_beq_eq_true ho
  cases h
  have hc := hw _ (hn (.constantLong (z_nm y).cls ix kj) (by simp [z_need]) rfl)
  intro H locs lsC hR hl
  exact lv_ldc2 hx hb hown hc hd (K H locs lsC hR hl)
theorem z_s_iload {i : Nat} (F : z_Fx G L xs p s m meth c y M0) (hcd : z_cd y pc = some (.iload i, len, (a, b, e', f), ki, kj)) (h : z_step (y, pc, ls, st, M) = Sum.inl c') (K : z_K G L xs p l e R s m args below meth c Q n0 s0 c') : z_K G L xs p l e R s m args below meth c Q n0 s0 (y, pc, ls, st, M) := by
  obtain ⟨hd, ho, hn⟩ := z_cd_ok hcd
  have hxx := F.ex
  have hw := F.words args
  obtain ⟨hx, hb, hml, hown, -⟩ := F
  simp only [z_step, hcd] at h
  simp only [z_oke, Bool.and_eq_true] at ho
  obtain rfl : len = 2 := Nat.eq_of_beq_eq_true ho.1
  obtain rfl : a = i := Nat.eq_of_beq_eq_true ho.2
  split at h
  · next x hg =>
    cases h
    intro H locs lsC hR hl
    exact lv_iload hx hb hd (hl.2.2 _ _ hg) (K H locs lsC hR hl)
  · cases h
theorem z_s_iload_n {i : Fin 4} (F : z_Fx G L xs p s m meth c y M0) (hcd : z_cd y pc = some (.iload_n i, len, (a, b, e', f), ki, kj)) (h : z_step (y, pc, ls, st, M) = Sum.inl c') (K : z_K G L xs p l e R s m args below meth c Q n0 s0 c') : z_K G L xs p l e R s m args below meth c Q n0 s0 (y, pc, ls, st, M) := by
  obtain ⟨hd, ho, hn⟩ := z_cd_ok hcd
  have hxx := F.ex
  have hw := F.words args
  obtain ⟨hx, hb, hml, hown, -⟩ := F
  simp only [z_step, hcd] at h
  simp only [z_oke, Bool.and_eq_true] at ho
  obtain rfl : len = 1 := Nat.eq_of_beq_eq_true ho.1
  have ha : a = i.val := Nat.eq_of_beq_eq_true ho.2
  split at h
  · next x hg =>
    cases h
    intro H locs lsC hR hl
    exact lv_iload_n hx hb hd ha.symm (hl.2.2 _ _ hg) (K H locs lsC hR hl)
  · cases h
theorem z_s_lload {i : Nat} (F : z_Fx G L xs p s m meth c y M0) (hcd : z_cd y pc = some (.lload i, len, (a, b, e', f), ki, kj)) (h : z_step (y, pc, ls, st, M) = Sum.inl c') (K : z_K G L xs p l e R s m args below meth c Q n0 s0 c') : z_K G L xs p l e R s m args below meth c Q n0 s0 (y, pc, ls, st, M) := by
  obtain ⟨hd, ho, hn⟩ := z_cd_ok hcd
  have hxx := F.ex
  have hw := F.words args
  obtain ⟨hx, hb, hml, hown, -⟩ := F
  simp only [z_step, hcd] at h
  simp only [z_oke, Bool.and_eq_true] at ho
  obtain rfl : len = 2 := Nat.eq_of_beq_eq_true ho.1
  obtain rfl : a = i := Nat.eq_of_beq_eq_true ho.2
  split at h
  · next x hg =>
    cases h
    intro H locs lsC hR hl
    exact lv_lload hx hb hd (hl.2.2 _ _ hg) (K H locs lsC hR hl)
  · cases h
theorem z_s_lload_n {i : Fin 4} (F : z_Fx G L xs p s m meth c y M0) (hcd : z_cd y pc = some (.lload_n i, len, (a, b, e', f), ki, kj)) (h : z_step (y, pc, ls, st, M) = Sum.inl c') (K : z_K G L xs p l e R s m args below meth c Q n0 s0 c') : z_K G L xs p l e R s m args below meth c Q n0 s0 (y, pc, ls, st, M) := by
  obtain ⟨hd, ho, hn⟩ := z_cd_ok hcd
  have hxx := F.ex
  have hw := F.words args
  obtain ⟨hx, hb, hml, hown, -⟩ := F
  simp only [z_step, hcd] at h
  simp only [z_oke, Bool.and_eq_true] at ho
  obtain rfl : len = 1 := Nat.eq_of_beq_eq_true ho.1
  have ha : a = i.val := Nat.eq_of_beq_eq_true ho.2
  split at h
  · next x hg =>
    cases h
    intro H locs lsC hR hl
    exact lv_lload_n hx hb hd ha.symm (hl.2.2 _ _ hg) (K H locs lsC hR hl)
  · cases h
theorem z_s_aload {i : Nat} (F : z_Fx G L xs p s m meth c y M0) (hcd : z_cd y pc = some (.aload i, len, (a, b, e', f), ki, kj)) (h : z_step (y, pc, ls, st, M) = Sum.inl c') (K : z_K G L xs p l e R s m args below meth c Q n0 s0 c') : z_K G L xs p l e R s m args below meth c Q n0 s0 (y, pc, ls, st, M) := by
  obtain ⟨hd, ho, hn⟩ := z_cd_ok hcd
  have hxx := F.ex
  have hw := F.words args
  obtain ⟨hx, hb, hml, hown, -⟩ := F
  simp only [z_step, hcd] at h
  simp only [z_oke, Bool.and_eq_true] at ho
  obtain rfl : len = 2 := Nat.eq_of_beq_eq_true ho.1
  obtain rfl : a = i := Nat.eq_of_beq_eq_true ho.2
  split at h
  · next x hg =>
    cases h
    intro H locs lsC hR hl
    have K1 := K H locs lsC hR hl
    have hv := hl.2.2 _ _ hg
    simp only [List.map_cons] at K1
    rcases z_tv_ref hxx x with q | ⟨r, q⟩
    · rw [q] at K1 hv
      exact lv_aloadN hx hb hd hv K1
    · rw [q] at K1 hv
      exact lv_aload hx hb hd hv K1
  · cases h
theorem z_s_aload_n {i : Fin 4} (F : z_Fx G L xs p s m meth c y M0) (hcd : z_cd y pc = some (.aload_n i, len, (a, b, e', f), ki, kj)) (h : z_step (y, pc, ls, st, M) = Sum.inl c') (K : z_K G L xs p l e R s m args below meth c Q n0 s0 c') : z_K G L xs p l e R s m args below meth c Q n0 s0 (y, pc, ls, st, M) := by
  obtain ⟨hd, ho, hn⟩ := z_cd_ok hcd
  have hxx := F.ex
  have hw := F.words args
  obtain ⟨hx, hb, hml, hown, -⟩ := F
  simp only [z_step, hcd] at h
  simp only [z_oke, Bool.and_eq_true] at ho
  obtain rfl : len = 1 := Nat.eq_of_beq_eq_true ho.1
  have ha : a = i.val := Nat.eq_of_beq_eq_true ho.2
  split at h
  · next x hg =>
    cases h
    intro H locs lsC hR hl
    have K1 := K H locs lsC hR hl
    have hv := hl.2.2 _ _ hg
    simp only [List.map_cons] at K1
    rcases z_tv_ref hxx x with q | ⟨r, q⟩
    · rw [q] at K1 hv
      exact lv_aload_nN hx hb hd ha.symm hv K1
    · rw [q] at K1 hv
      exact lv_aload_n hx hb hd ha.symm hv K1
  · cases h
theorem z_s_istore {i : Nat} (F : z_Fx G L xs p s m meth c y M0) (hcd : z_cd y pc = some (.istore i, len, (a, b, e', f), ki, kj)) (h : z_step (y, pc, ls, st, M) = Sum.inl c') (K : z_K G L xs p l e R s m args below meth c Q n0 s0 c') : z_K G L xs p l e R s m args below meth c Q n0 s0 (y, pc, ls, st, M) := by
  obtain ⟨hd, ho, hn⟩ := z_cd_ok hcd
  have hxx := F.ex
  have hw := F.words args
  obtain ⟨hx, hb, hml, hown, -⟩ := F
  simp only [z_step, hcd] at h
  simp only [z_oke, Bool.and_eq_true] at ho
  obtain ⟨⟨ho1, ho2⟩, ho3⟩ := ho
  obtain rfl : len = 2 := Nat.eq_of_beq_eq_true ho1
  obtain rfl : a = i := Nat.eq_of_beq_eq_true ho2
  have hlt := Nat.le_of_ble_eq_true ho3
  split at h
  · next x r =>
    split at h
    · next ls2 hs =>
      cases h
      intro H locs lsC hR hl
      exact lv_istore hx hb hd hl.has hlt rfl (fun ls3 hl3 => K H locs ls3 hR (z_lst_has1 hxx hs (fun _ q => by cases q) hl3))
    · cases h
  · cases h
theorem z_s_istore_n {i : Fin 4} (F : z_Fx G L xs p s m meth c y M0) (hcd : z_cd y pc = some (.istore_n i, len, (a, b, e', f), ki, kj)) (h : z_step (y, pc, ls, st, M) = Sum.inl c') (K : z_K G L xs p l e R s m args below meth c Q n0 s0 c') : z_K G L xs p l e R s m args below meth c Q n0 s0 (y, pc, ls, st, M) := by
  obtain ⟨hd, ho, hn⟩ := z_cd_ok hcd
  have hxx := F.ex
  have hw := F.words args
  obtain ⟨hx, hb, hml, hown, -⟩ := F
  simp only [z_step, hcd] at h
  simp only [z_oke, Bool.and_eq_true] at ho
  obtain ⟨⟨ho1, ho2⟩, ho3⟩ := ho
  obtain rfl : len = 1 := Nat.eq_of_beq_eq_true ho1
  have ha : a = i.val := Nat.eq_of_beq_eq_true ho2
  have hlt := Nat.le_of_ble_eq_true ho3
  split at h
  · next x r =>
    split at h
    · next ls2 hs =>
      cases h
      intro H locs lsC hR hl
      exact lv_istore_n hx hb hd ha.symm hl.has hlt rfl (fun ls3 hl3 => K H locs ls3 hR (z_lst_has1 hxx hs (fun _ q => by cases q) hl3))
    · cases h
  · cases h
theorem z_s_lstore {i : Nat} (F : z_Fx G L xs p s m meth c y M0) (hcd : z_cd y pc = some (.lstore i, len, (a, b, e', f), ki, kj)) (h : z_step (y, pc, ls, st, M) = Sum.inl c') (K : z_K G L xs p l e R s m args below meth c Q n0 s0 c') : z_K G L xs p l e R s m args below meth c Q n0 s0 (y, pc, ls, st, M) := by
  obtain ⟨hd, ho, hn⟩ := z_cd_ok hcd
  have hxx := F.ex
  have hw := F.words args
  obtain ⟨hx, hb, hml, hown, -⟩ := F
  simp only [z_step, hcd] at h
  simp only [z_oke, Bool.and_eq_true] at ho
  obtain ⟨⟨ho1, ho2⟩, ho3⟩ := ho
  obtain rfl : len = 2 := Nat.eq_of_beq_eq_true ho1
  obtain rfl : a = i := Nat.eq_of_beq_eq_true ho2
  have hlt := Nat.le_of_ble_eq_true ho3
  split at h
  · next x r =>
    split at h
    · next ls2 hs =>
      cases h
      intro H locs lsC hR hl
      exact lv_lstore hx hb hd hl.has hlt rfl (fun ls3 hl3 => K H locs ls3 hR (z_lst_has2 hxx hs hl3))
    · cases h
  · cases h
theorem z_s_lstore_n {i : Fin 4} (F : z_Fx G L xs p s m meth c y M0) (hcd : z_cd y pc = some (.lstore_n i, len, (a, b, e', f), ki, kj)) (h : z_step (y, pc, ls, st, M) = Sum.inl c') (K : z_K G L xs p l e R s m args below meth c Q n0 s0 c') : z_K G L xs p l e R s m args below meth c Q n0 s0 (y, pc, ls, st, M) := by
  obtain ⟨hd, ho, hn⟩ := z_cd_ok hcd
  have hxx := F.ex
  have hw := F.words args
  obtain ⟨hx, hb, hml, hown, -⟩ := F
  simp only [z_step, hcd] at h
  simp only [z_oke, Bool.and_eq_true] at ho
  obtain ⟨⟨ho1, ho2⟩, ho3⟩ := ho
  obtain rfl : len = 1 := Nat.eq_of_beq_eq_true ho1
  have ha : a = i.val := Nat.eq_of_beq_eq_true ho2
  have hlt := Nat.le_of_ble_eq_true ho3
  split at h
  · next x r =>
    split at h
    · next ls2 hs =>
      cases h
      intro H locs lsC hR hl
      exact lv_lstore_n hx hb hd ha.symm hl.has hlt rfl (fun ls3 hl3 => K H locs ls3 hR (z_lst_has2 hxx hs hl3))
    · cases h
  · cases h
theorem z_s_astore {i : Nat} (F : z_Fx G L xs p s m meth c y M0) (hcd : z_cd y pc = some (.astore i, len, (a, b, e', f), ki, kj)) (h : z_step (y, pc, ls, st, M) = Sum.inl c') (K : z_K G L xs p l e R s m args below meth c Q n0 s0 c') : z_K G L xs p l e R s m args below meth c Q n0 s0 (y, pc, ls, st, M) := by
  obtain ⟨hd, ho, hn⟩ := z_cd_ok hcd
  have hxx := F.ex
  have hw := F.words args
  obtain ⟨hx, hb, hml, hown, -⟩ := F
  simp only [z_step, hcd] at h
  simp only [z_oke, Bool.and_eq_true] at ho
  obtain ⟨⟨ho1, ho2⟩, ho3⟩ := ho
  obtain rfl : len = 2 := Nat.eq_of_beq_eq_true ho1
  obtain rfl : a = i := Nat.eq_of_beq_eq_true ho2
  have hlt := Nat.le_of_ble_eq_true ho3
  split at h
  · next x r =>
    split at h
    · next ls2 hs =>
      cases h
      intro H locs lsC hR hl
      have hz : ∀ ls3, lv_has ls3 (z_ml y) ((a, z_tv G (Sum.inr (Sum.inr x))) :: (z_lv G ls).filter (fun q => !(q.1 == a) && !(q.1 + 1 == a && q.2.category == 2))) → z_Lh G ls2 (z_ml y) ls3 := fun ls3 hl3 => z_lst_has1 hxx hs (fun _ q => by cases q) hl3
      simp only [List.map_cons]
      rcases z_tv_ref hxx x with q | ⟨r9, q⟩
      · rw [q] at hz ⊢
        exact lv_astoreN hx hb hd hl.has hlt rfl (fun ls3 hl3 => K H locs ls3 hR (hz ls3 hl3))
      · rw [q] at hz ⊢
        exact lv_astore hx hb hd hl.has hlt rfl (fun ls3 hl3 => K H locs ls3 hR (hz ls3 hl3))
    · cases h
  · cases h
theorem z_s_astore_n {i : Fin 4} (F : z_Fx G L xs p s m meth c y M0) (hcd : z_cd y pc = some (.astore_n i, len, (a, b, e', f), ki, kj)) (h : z_step (y, pc, ls, st, M) = Sum.inl c') (K : z_K G L xs p l e R s m args below meth c Q n0 s0 c') : z_K G L xs p l e R s m args below meth c Q n0 s0 (y, pc, ls, st, M) := by
  obtain ⟨hd, ho, hn⟩ := z_cd_ok hcd
  have hxx := F.ex
  have hw := F.words args
  obtain ⟨hx, hb, hml, hown, -⟩ := F
  simp only [z_step, hcd] at h
  simp only [z_oke, Bool.and_eq_true] at ho
  obtain ⟨⟨ho1, ho2⟩, ho3⟩ := ho
  obtain rfl : len = 1 := Nat.eq_of_beq_eq_true ho1
  have ha : a = i.val := Nat.eq_of_beq_eq_true ho2
  have hlt := Nat.le_of_ble_eq_true ho3
  split at h
  · next x r =>
    split at h
    · next ls2 hs =>
      cases h
      intro H locs lsC hR hl
      have hz : ∀ ls3, lv_has ls3 (z_ml y) ((a, z_tv G (Sum.inr (Sum.inr x))) :: (z_lv G ls).filter (fun q => !(q.1 == a) && !(q.1 + 1 == a && q.2.category == 2))) → z_Lh G ls2 (z_ml y) ls3 := fun ls3 hl3 => z_lst_has1 hxx hs (fun _ q => by cases q) hl3
      simp only [List.map_cons]
      rcases z_tv_ref hxx x with q | ⟨r9, q⟩
      · rw [q] at hz ⊢
        exact lv_astore_nN hx hb hd ha.symm hl.has hlt rfl (fun ls3 hl3 => K H locs ls3 hR (hz ls3 hl3))
      · rw [q] at hz ⊢
        exact lv_astore_n hx hb hd ha.symm hl.has hlt rfl (fun ls3 hl3 => K H locs ls3 hR (hz ls3 hl3))
    · cases h
  · cases h
theorem z_s_iinc {i : Nat} {n : Int} (F : z_Fx G L xs p s m meth c y M0) (hcd : z_cd y pc = some (.iinc i n, len, (a, b, e', f), ki, kj)) (h : z_step (y, pc, ls, st, M) = Sum.inl c') (K : z_K G L xs p l e R s m args below meth c Q n0 s0 c') : z_K G L xs p l e R s m args below meth c Q n0 s0 (y, pc, ls, st, M) := by
  obtain ⟨hd, ho, hn⟩ := z_cd_ok hcd
  have hxx := F.ex
  have hw := F.words args
  obtain ⟨hx, hb, hml, hown, -⟩ := F
  simp only [z_step, hcd] at h
  simp only [z_oke, Bool.and_eq_true, decide_eq_true_eq] at ho
  obtain ⟨⟨⟨ho1, ho2⟩, ho4⟩, ho3⟩ := ho
  obtain rfl : len = 3 := Nat.eq_of_beq_eq_true ho1
  obtain rfl : a = i := Nat.eq_of_beq_eq_true ho2
  have hlt := Nat.le_of_ble_eq_true ho3
  split at h
  · next x hg =>
    split at h
    · next ls2 hs =>
      cases h
      intro H locs lsC hR hl
      obtain ⟨k9, hk9⟩ := List.getElem?_of_mem (z_lv_mem (G := G) (ls := ls) (q := (a, .int x)) |>.mpr ⟨z_i x, hg, rfl⟩)
      exact lv_iinc hx hb hd hl.has hk9 (by rw [ho4]) hlt rfl (fun ls3 hl3 => K H locs ls3 hR (z_lst_has1 hxx hs (fun _ q => by cases q) hl3))
    · cases h
  · cases h
theorem z_s_pop (F : z_Fx G L xs p s m meth c y M0) (hcd : z_cd y pc = some (.pop, len, (a, b, e', f), ki, kj)) (h : z_step (y, pc, ls, st, M) = Sum.inl c') (K : z_K G L xs p l e R s m args below meth c Q n0 s0 c') : z_K G L xs p l e R s m args below meth c Q n0 s0 (y, pc, ls, st, M) := by
  obtain ⟨hd, ho, hn⟩ := z_cd_ok hcd
  have hxx := F.ex
  have hw := F.words args
  obtain ⟨hx, hb, hml, hown, -⟩ := F
  simp only [z_step, hcd] at h
  obtain rfl : len = 1 := Nat.eq_of_beq_eq_true ho
  split at h
  · cases h
  · next v r hv =>
    cases h
    intro H locs lsC hR hl
    have hc : (z_tv G v).category = 1 := by
      rcases lv_cat (z_tv G v) with q | q
      · exact q
      · obtain ⟨x, rfl⟩ := (z_tv_cat hxx v).mp q
        exact (hv x rfl).elim
    exact lv_pop hx hb hd hc (K H locs lsC hR hl)
  · cases h
theorem z_s_dup (F : z_Fx G L xs p s m meth c y M0) (hcd : z_cd y pc = some (.dup, len, (a, b, e', f), ki, kj)) (h : z_step (y, pc, ls, st, M) = Sum.inl c') (K : z_K G L xs p l e R s m args below meth c Q n0 s0 c') : z_K G L xs p l e R s m args below meth c Q n0 s0 (y, pc, ls, st, M) := by
  obtain ⟨hd, ho, hn⟩ := z_cd_ok hcd
  have hxx := F.ex
  have hw := F.words args
  obtain ⟨hx, hb, hml, hown, -⟩ := F
  simp only [z_step, hcd] at h
  obtain rfl : len = 1 := Nat.eq_of_beq_eq_true ho
  split at h
  · cases h
  · next v r hv =>
    cases h
    intro H locs lsC hR hl
    have hc : (z_tv G v).category = 1 := by
      rcases lv_cat (z_tv G v) with q | q
      · exact q
      · obtain ⟨x, rfl⟩ := (z_tv_cat hxx v).mp q
        exact (hv x rfl).elim
    exact lv_dup hx hb hd hc (K H locs lsC hR hl)
  · cases h
theorem z_s_dup2 (F : z_Fx G L xs p s m meth c y M0) (hcd : z_cd y pc = some (.dup2, len, (a, b, e', f), ki, kj)) (h : z_step (y, pc, ls, st, M) = Sum.inl c') (K : z_K G L xs p l e R s m args below meth c Q n0 s0 c') : z_K G L xs p l e R s m args below meth c Q n0 s0 (y, pc, ls, st, M) := by
  obtain ⟨hd, ho, hn⟩ := z_cd_ok hcd
  have hxx := F.ex
  have hw := F.words args
  obtain ⟨hx, hb, hml, hown, -⟩ := F
  simp only [z_step, hcd] at h
  obtain rfl : len = 1 := Nat.eq_of_beq_eq_true ho
  split at h
  · next v w r =>
    cases h
    intro H locs lsC hR hl
    have hc : (z_tv G (Sum.inr (Sum.inr w))).category = 1 := by
      rcases z_tv_ref hxx w with q | ⟨r9, q⟩ <;> rw [q] <;> rfl
    exact lv_dup2_11 hx hb hd rfl hc (K H locs lsC hR hl)
  · cases h
theorem z_s_if_eq {off : Int} (F : z_Fx G L xs p s m meth c y M0) (hcd : z_cd y pc = some (.ifCond .eq off, len, (a, b, e', f), ki, kj)) (h : z_step (y, pc, ls, st, M) = Sum.inl c') (K : z_K G L xs p l e R s m args below meth c Q n0 s0 c') : z_K G L xs p l e R s m args below meth c Q n0 s0 (y, pc, ls, st, M) := by
  obtain ⟨hd, ho, hn⟩ := z_cd_ok hcd
  have hxx := F.ex
  have hw := F.words args
  obtain ⟨hx, hb, hml, hown, -⟩ := F
  simp only [z_step, hcd] at h
  simp only [z_oke, z_tok, Bool.and_eq_true, decide_eq_true_eq] at ho
  obtain ⟨ho1, ho2⟩ := ho
  obtain rfl : len = 3 := Nat.eq_of_beq_eq_true ho1
  split at h
  · cases h
    intro H locs lsC hR hl
    refine lv_if_eq hx hb hd ho2 (fun hp => ?_) (fun hp => ?_)
    · rw [if_pos hp] at K
      exact K H locs lsC hR hl
    · rw [if_neg hp] at K
      exact K H locs lsC hR hl
  · cases h
theorem z_s_icmp_eq {off : Int} (F : z_Fx G L xs p s m meth c y M0) (hcd : z_cd y pc = some (.if_icmp .eq off, len, (a, b, e', f), ki, kj)) (h : z_step (y, pc, ls, st, M) = Sum.inl c') (K : z_K G L xs p l e R s m args below meth c Q n0 s0 c') : z_K G L xs p l e R s m args below meth c Q n0 s0 (y, pc, ls, st, M) := by
  obtain ⟨hd, ho, hn⟩ := z_cd_ok hcd
  have hxx := F.ex
  have hw := F.words args
  obtain ⟨hx, hb, hml, hown, -⟩ := F
  simp only [z_step, hcd] at h
  simp only [z_oke, z_tok, Bool.and_eq_true, decide_eq_true_eq] at ho
  obtain ⟨ho1, ho2⟩ := ho
  obtain rfl : len = 3 := Nat.eq_of_beq_eq_true ho1
  split at h
  · cases h
    intro H locs lsC hR hl
    refine lv_icmp_eq hx hb hd ho2 (fun hp => ?_) (fun hp => ?_)
    · rw [if_pos hp] at K
      exact K H locs lsC hR hl
    · rw [if_neg hp] at K
      exact K H locs lsC hR hl
  · cases h
theorem z_s_if_ne {off : Int} (F : z_Fx G L xs p s m meth c y M0) (hcd : z_cd y pc = some (.ifCond .ne off, len, (a, b, e', f), ki, kj)) (h : z_step (y, pc, ls, st, M) = Sum.inl c') (K : z_K G L xs p l e R s m args below meth c Q n0 s0 c') : z_K G L xs p l e R s m args below meth c Q n0 s0 (y, pc, ls, st, M) := by
  obtain ⟨hd, ho, hn⟩ := z_cd_ok hcd
  have hxx := F.ex
  have hw := F.words args
  obtain ⟨hx, hb, hml, hown, -⟩ := F
  simp only [z_step, hcd] at h
  simp only [z_oke, z_tok, Bool.and_eq_true, decide_eq_true_eq] at ho
  obtain ⟨ho1, ho2⟩ := ho
  obtain rfl : len = 3 := Nat.eq_of_beq_eq_true ho1
  split at h
  · cases h
    intro H locs lsC hR hl
    refine lv_if_ne hx hb hd ho2 (fun hp => ?_) (fun hp => ?_)
    · rw [if_pos hp] at K
      exact K H locs lsC hR hl
    · rw [if_neg (fun q => q hp)] at K
      exact K H locs lsC hR hl
  · cases h
theorem z_s_icmp_ne {off : Int} (F : z_Fx G L xs p s m meth c y M0) (hcd : z_cd y pc = some (.if_icmp .ne off, len, (a, b, e', f), ki, kj)) (h : z_step (y, pc, ls, st, M) = Sum.inl c') (K : z_K G L xs p l e R s m args below meth c Q n0 s0 c') : z_K G L xs p l e R s m args below meth c Q n0 s0 (y, pc, ls, st, M) := by
  obtain ⟨hd, ho, hn⟩ := z_cd_ok hcd
  have hxx := F.ex
  have hw := F.words args
  obtain ⟨hx, hb, hml, hown, -⟩ := F
  simp only [z_step, hcd] at h
  simp only [z_oke, z_tok, Bool.and_eq_true, decide_eq_true_eq] at ho
  obtain ⟨ho1, ho2⟩ := ho
  obtain rfl : len = 3 := Nat.eq_of_beq_eq_true ho1
  split at h
  · cases h
    intro H locs lsC hR hl
    refine lv_icmp_ne hx hb hd ho2 (fun hp => ?_) (fun hp => ?_)
    · rw [if_pos hp] at K
      exact K H locs lsC hR hl
    · rw [if_neg (fun q => q hp)] at K
      exact K H locs lsC hR hl
  · cases h
theorem z_s_if_lt {off : Int} (F : z_Fx G L xs p s m meth c y M0) (hcd : z_cd y pc = some (.ifCond .lt off, len, (a, b, e', f), ki, kj)) (h : z_step (y, pc, ls, st, M) = Sum.inl c') (K : z_K G L xs p l e R s m args below meth c Q n0 s0 c') : z_K G L xs p l e R s m args below meth c Q n0 s0 (y, pc, ls, st, M) := by
  obtain ⟨hd, ho, hn⟩ := z_cd_ok hcd
  have hxx := F.ex
  have hw := F.words args
  obtain ⟨hx, hb, hml, hown, -⟩ := F
  simp only [z_step, hcd] at h
  simp only [z_oke, z_tok, Bool.and_eq_true, decide_eq_true_eq] at ho
  obtain ⟨ho1, ho2⟩ := ho
  obtain rfl : len = 3 := Nat.eq_of_beq_eq_true ho1
  split at h
  · cases h
    intro H locs lsC hR hl
    refine lv_if_lt hx hb hd ho2 (fun hp => ?_) (fun hp => ?_)
    · rw [if_pos hp] at K
      exact K H locs lsC hR hl
    · rw [if_neg hp] at K
      exact K H locs lsC hR hl
  · cases h
theorem z_s_icmp_lt {off : Int} (F : z_Fx G L xs p s m meth c y M0) (hcd : z_cd y pc = some (.if_icmp .lt off, len, (a, b, e', f), ki, kj)) (h : z_step (y, pc, ls, st, M) = Sum.inl c') (K : z_K G L xs p l e R s m args below meth c Q n0 s0 c') : z_K G L xs p l e R s m args below meth c Q n0 s0 (y, pc, ls, st, M) := by
  obtain ⟨hd, ho, hn⟩ := z_cd_ok hcd
  have hxx := F.ex
  have hw := F.words args
  obtain ⟨hx, hb, hml, hown, -⟩ := F
  simp only [z_step, hcd] at h
  simp only [z_oke, z_tok, Bool.and_eq_true, decide_eq_true_eq] at ho
  obtain ⟨ho1, ho2⟩ := ho
  obtain rfl : len = 3 := Nat.eq_of_beq_eq_true ho1
  split at h
  · cases h
    intro H locs lsC hR hl
    refine lv_icmp_lt hx hb hd ho2 (fun hp => ?_) (fun hp => ?_)
    · rw [if_pos hp] at K
      exact K H locs lsC hR hl
    · rw [if_neg hp] at K
      exact K H locs lsC hR hl
  · cases h
theorem z_s_if_ge {off : Int} (F : z_Fx G L xs p s m meth c y M0) (hcd : z_cd y pc = some (.ifCond .ge off, len, (a, b, e', f), ki, kj)) (h : z_step (y, pc, ls, st, M) = Sum.inl c') (K : z_K G L xs p l e R s m args below meth c Q n0 s0 c') : z_K G L xs p l e R s m args below meth c Q n0 s0 (y, pc, ls, st, M) := by
  obtain ⟨hd, ho, hn⟩ := z_cd_ok hcd
  have hxx := F.ex
  have hw := F.words args
  obtain ⟨hx, hb, hml, hown, -⟩ := F
  simp only [z_step, hcd] at h
  simp only [z_oke, z_tok, Bool.and_eq_true, decide_eq_true_eq] at ho
  obtain ⟨ho1, ho2⟩ := ho
  obtain rfl : len = 3 := Nat.eq_of_beq_eq_true ho1
  split at h
  · cases h
    intro H locs lsC hR hl
    refine lv_if_ge hx hb hd ho2 (fun hp => ?_) (fun hp => ?_)
    · rw [if_pos hp] at K
      exact K H locs lsC hR hl
    · rw [if_neg hp] at K
      exact K H locs lsC hR hl
  · cases h
theorem z_s_icmp_ge {off : Int} (F : z_Fx G L xs p s m meth c y M0) (hcd : z_cd y pc = some (.if_icmp .ge off, len, (a, b, e', f), ki, kj)) (h : z_step (y, pc, ls, st, M) = Sum.inl c') (K : z_K G L xs p l e R s m args below meth c Q n0 s0 c') : z_K G L xs p l e R s m args below meth c Q n0 s0 (y, pc, ls, st, M) := by
  obtain ⟨hd, ho, hn⟩ := z_cd_ok hcd
  have hxx := F.ex
  have hw := F.words args
  obtain ⟨hx, hb, hml, hown, -⟩ := F
  simp only [z_step, hcd] at h
  simp only [z_oke, z_tok, Bool.and_eq_true, decide_eq_true_eq] at ho
  obtain ⟨ho1, ho2⟩ := ho
  obtain rfl : len = 3 := Nat.eq_of_beq_eq_true ho1
  split at h
  · cases h
    intro H locs lsC hR hl
    refine lv_icmp_ge hx hb hd ho2 (fun hp => ?_) (fun hp => ?_)
    · rw [if_pos hp] at K
      exact K H locs lsC hR hl
    · rw [if_neg hp] at K
      exact K H locs lsC hR hl
  · cases h
theorem z_s_if_gt {off : Int} (F : z_Fx G L xs p s m meth c y M0) (hcd : z_cd y pc = some (.ifCond .gt off, len, (a, b, e', f), ki, kj)) (h : z_step (y, pc, ls, st, M) = Sum.inl c') (K : z_K G L xs p l e R s m args below meth c Q n0 s0 c') : z_K G L xs p l e R s m args below meth c Q n0 s0 (y, pc, ls, st, M) := by
  obtain ⟨hd, ho, hn⟩ := z_cd_ok hcd
  have hxx := F.ex
  have hw := F.words args
  obtain ⟨hx, hb, hml, hown, -⟩ := F
  simp only [z_step, hcd] at h
  simp only [z_oke, z_tok, Bool.and_eq_true, decide_eq_true_eq] at ho
  obtain ⟨ho1, ho2⟩ := ho
  obtain rfl : len = 3 := Nat.eq_of_beq_eq_true ho1
  split at h
  · cases h
    intro H locs lsC hR hl
    refine lv_if_gt hx hb hd ho2 (fun hp => ?_) (fun hp => ?_)
    · rw [if_pos hp] at K
      exact K H locs lsC hR hl
    · rw [if_neg hp] at K
      exact K H locs lsC hR hl
  · cases h
theorem z_s_icmp_gt {off : Int} (F : z_Fx G L xs p s m meth c y M0) (hcd : z_cd y pc = some (.if_icmp .gt off, len, (a, b, e', f), ki, kj)) (h : z_step (y, pc, ls, st, M) = Sum.inl c') (K : z_K G L xs p l e R s m args below meth c Q n0 s0 c') : z_K G L xs p l e R s m args below meth c Q n0 s0 (y, pc, ls, st, M) := by
  obtain ⟨hd, ho, hn⟩ := z_cd_ok hcd
  have hxx := F.ex
  have hw := F.words args
  obtain ⟨hx, hb, hml, hown, -⟩ := F
  simp only [z_step, hcd] at h
  simp only [z_oke, z_tok, Bool.and_eq_true, decide_eq_true_eq] at ho
  obtain ⟨ho1, ho2⟩ := ho
  obtain rfl : len = 3 := Nat.eq_of_beq_eq_true ho1
  split at h
  · cases h
    intro H locs lsC hR hl
    refine lv_icmp_gt hx hb hd ho2 (fun hp => ?_) (fun hp => ?_)
    · rw [if_pos hp] at K
      exact K H locs lsC hR hl
    · rw [if_neg hp] at K
      exact K H locs lsC hR hl
  · cases h
theorem z_s_if_le {off : Int} (F : z_Fx G L xs p s m meth c y M0) (hcd : z_cd y pc = some (.ifCond .le off, len, (a, b, e', f), ki, kj)) (h : z_step (y, pc, ls, st, M) = Sum.inl c') (K : z_K G L xs p l e R s m args below meth c Q n0 s0 c') : z_K G L xs p l e R s m args below meth c Q n0 s0 (y, pc, ls, st, M) := by
  obtain ⟨hd, ho, hn⟩ := z_cd_ok hcd
  have hxx := F.ex
  have hw := F.words args
  obtain ⟨hx, hb, hml, hown, -⟩ := F
  simp only [z_step, hcd] at h
  simp only [z_oke, z_tok, Bool.and_eq_true, decide_eq_true_eq] at ho
  obtain ⟨ho1, ho2⟩ := ho
  obtain rfl : len = 3 := Nat.eq_of_beq_eq_true ho1
  split at h
  · cases h
    intro H locs lsC hR hl
    refine lv_if_le hx hb hd ho2 (fun hp => ?_) (fun hp => ?_)
    · rw [if_pos hp] at K
      exact K H locs lsC hR hl
    · rw [if_neg hp] at K
      exact K H locs lsC hR hl
  · cases h
theorem z_s_icmp_le {off : Int} (F : z_Fx G L xs p s m meth c y M0) (hcd : z_cd y pc = some (.if_icmp .le off, len, (a, b, e', f), ki, kj)) (h : z_step (y, pc, ls, st, M) = Sum.inl c') (K : z_K G L xs p l e R s m args below meth c Q n0 s0 c') : z_K G L xs p l e R s m args below meth c Q n0 s0 (y, pc, ls, st, M) := by
  obtain ⟨hd, ho, hn⟩ := z_cd_ok hcd
  have hxx := F.ex
  have hw := F.words args
  obtain ⟨hx, hb, hml, hown, -⟩ := F
  simp only [z_step, hcd] at h
  simp only [z_oke, z_tok, Bool.and_eq_true, decide_eq_true_eq] at ho
  obtain ⟨ho1, ho2⟩ := ho
  obtain rfl : len = 3 := Nat.eq_of_beq_eq_true ho1
  split at h
  · cases h
    intro H locs lsC hR hl
    refine lv_icmp_le hx hb hd ho2 (fun hp => ?_) (fun hp => ?_)
    · rw [if_pos hp] at K
      exact K H locs lsC hR hl
    · rw [if_neg hp] at K
      exact K H locs lsC hR hl
  · cases h
theorem z_s_goto {off : Int} (F : z_Fx G L xs p s m meth c y M0) (hcd : z_cd y pc = some (.goto off, len, (a, b, e', f), ki, kj)) (h : z_step (y, pc, ls, st, M) = Sum.inl c') (K : z_K G L xs p l e R s m args below meth c Q n0 s0 c') : z_K G L xs p l e R s m args below meth c Q n0 s0 (y, pc, ls, st, M) := by
  obtain ⟨hd, ho, hn⟩ := z_cd_ok hcd
  have hxx := F.ex
  have hw := F.words args
  obtain ⟨hx, hb, hml, hown, -⟩ := F
  simp only [z_step, hcd] at h
  simp only [z_oke, z_tok, Bool.and_eq_true, decide_eq_true_eq] at ho
  obtain ⟨ho1, ho2⟩ := ho
  cases h
  obtain rfl : len = 3 := Nat.eq_of_beq_eq_true ho1
  intro H locs lsC hR hl
  exact lv_goto hx hb hd ho2 (K H locs lsC hR hl)
end
end
section
/-! instructions that read our cells or what lies outside -/
theorem z_in_of {x : Int32} {n : Nat} (h : z_in x n = true) : vp_in x n := of_decide_eq_true (p := ¬ (x < 0 ∨ n ≤ x.toNatClampNeg)) h
section
variable {G : z_G} {L : Nat} {xs : Nat → Int32} {p : Program} {l : Launch} {e : Env} {R : Room} {s : State} {m : MethodId} {args : Array Value} {below : List Frame} {meth : Method} {c : Code} {Q : State → Prop} {n0 s0 : Nat} {M0 : z_M}
variable {y pc len a b e' f : Nat} {ki : Int32} {kj : Int64} {ls : List (Option z_V)} {st : List z_V} {M : z_M} {c' : z_C}
/-- an object's cell -/
theorem z_obj (G : z_G) {t i cl0 : Nat} (hk : z_kok M) (hg : z_g M t i = true) (ht : (bif Nat.beq t 32 then Nat.beq cl0 3 else decide (z_tc t = some cl0)) = true) :
    ∃ cc, cc < 13 ∧ z_co M t i = some cc ∧ (z_wl G M)[z_off t i]? = some (G.2.2.1 + z_off t i, .inr (cc, z_oc G.2.2.1 M t i cc)) ∧ z_fn cc = z_fn cl0 ∧ z_ftl.getD cc [] = z_ftl.getD cl0 [] ∧ t < 64 ∧ (∀ k, k < z_fn cl0 → z_clT cc k = z_clT cl0 k) ∧ z_ta t = none := by
  obtain ⟨g1, g2, g3, g4⟩ := z_g_off hg
  have hw := z_wl_get G hg
  by_cases ht32 : t = 32
  · subst ht32
    have he : cl0 = 3 := Nat.eq_of_beq_eq_true ht
    subst he
    have hm := hk.1 (g4 rfl).1 i (g4 rfl).2
    obtain ⟨q1, q2, q3, q4⟩ := z_cls_sh _ hm
    exact ⟨_, q1, rfl, hw, q2.trans rfl, q3, by decide, fun k hk => q4 k hk, rfl⟩
  · rw [z_beq_f ht32] at ht
    have ht : z_tc t = some cl0 := of_decide_eq_true ht
    obtain ⟨q1, q2, q3⟩ := z_tc13 t g3 cl0 ht
    have hc : z_co M t i = some cl0 := by unfold z_co; rw [z_beq_f ht32]; exact ht
    refine ⟨cl0, q1, hc, ?_, rfl, rfl, g3, fun _ _ => rfl, q2⟩
    rw [hw]
    unfold z_cE
    rw [q2, hc]
    rfl
theorem z_oc_at {B : Nat} {t i cc k : Nat} (h : k < z_fn cc) : (z_oc B M t i cc)[k]? = some (z_fv B M t i k ((z_ftl.getD cc []).getD k 9)) := by
  simp [z_oc, h]
theorem z_oc_len {B : Nat} {t i cc : Nat} : (z_oc B M t i cc).length = z_fn cc := by simp [z_oc]
/-- the words of a class's fields -/
theorem z_tv_h {t i : Nat} (h : t < 64) : z_tv G (z_r t i) = .ref (G.2.2.1 + z_off t i) := by
  show (if t < 64 then _ else _) = _
  rw [if_pos h]
theorem z_tv_x {t i : Nat} (h : 64 ≤ t) : z_tv G (z_r t i) = G.2.2.2 t i := by
  show (if t < 64 then _ else _) = _
  rw [if_neg (by omega)]
theorem z_s_getfield {ix : Nat} (F : z_Fx G L xs p s m meth c y M0) (hcd : z_cd y pc = some (.getfield ix, len, (a, b, e', f), ki, kj)) (h : z_step (y, pc, ls, st, M) = Sum.inl c') (K : z_K G L xs p l e R s m args below meth c Q n0 s0 c') : z_K G L xs p l e R s m args below meth c Q n0 s0 (y, pc, ls, st, M) := by
  obtain ⟨hd, ho, hn⟩ := z_cd_ok hcd
  have hw := F.words args
  obtain ⟨hx, hb, hml, hown, -, -, -, hSt⟩ := F
  obtain ⟨-, -, -, -, hK, -, hE⟩ := hSt
  simp only [z_step, hcd] at h
  simp only [z_oke, Bool.and_eq_true] at ho
  obtain ⟨ho1, ho⟩ := ho
  obtain rfl : len = 3 := Nat.eq_of_beq_eq_true ho1
  split at h
  · next t i r =>
    cases h99 : Nat.beq e' 99 with
    | true =>
      rw [h99] at h ho
      have e99 := Nat.eq_of_beq_eq_true h99
      have ha2 : a < 2 := Nat.le_of_ble_eq_true ho
      cases hg : (Nat.beq t 64 && decide (i < 4)) with
      | false => rw [hg] at h; cases h
      | true =>
        rw [hg] at h
        cases h
        simp only [Bool.and_eq_true, decide_eq_true_eq] at hg
        obtain ⟨g1, g2⟩ := hg
        have ht := Nat.eq_of_beq_eq_true g1
        subst ht
        obtain ⟨-, ⟨adK, adV, k1, k2, -⟩, -⟩ := hE
        obtain ⟨s1, s2, s3, -⟩ := k2.1 i g2
        intro H locs lsC hR hl
        have K1 := K H locs lsC hR hl
        simp only [List.map_cons] at K1 ⊢
        rw [z_tv_x (by decide), (k1 i g2).1]
        have ha : a = 0 ∨ a = 1 := by omega
        rcases ha with rfl | rfl
        · have hlk := hw _ (hn (.fieldLink (z_nm y).cls ix "java/lang/String" "value" "[B") (by simp [z_need, e99]) rfl)
          have K2 : z_tv G (z_r 65 i) = .ref (adV i) := by rw [z_tv_x (by decide)]; exact (k1 i g2).2
          simp only [show Nat.beq 0 0 = true from rfl, cond_true] at K1
          rw [K2] at K1
          exact vk_getf hx hb s3 hR.2.2.2.2 hown hlk (fun x q => q) hd K1
        · have hlk := hw _ (hn (.fieldLink (z_nm y).cls ix "java/lang/String" "coder" "B") (by simp [z_need, e99]) rfl)
          exact vk_getf hx hb s2 hR.2.2.2.2 hown hlk (fun x q => q) hd K1
    | false =>
      rw [h99] at h ho
      simp only [cond_false, Bool.and_eq_true] at ho
      obtain ⟨⟨o1, o2⟩, o3⟩ := ho
      have o2 : a < z_fn e' := Nat.le_of_ble_eq_true o2
      have o3 := Nat.eq_of_beq_eq_true o3
      have ne99 : e' ≠ 99 := fun q => by rw [q] at h99; cases h99
      simp only [cond_false] at h
      cases hg : ((bif Nat.beq t 32 then Nat.beq e' 3 else decide (z_tc t = some e')) && z_g M t i) with
      | false => rw [hg] at h; cases h
      | true =>
        rw [hg] at h
        cases h
        simp only [Bool.and_eq_true] at hg
        obtain ⟨g1, g2⟩ := hg
        intro H locs lsC hR hl
        obtain ⟨hP, hsz, hk, hsc, hS⟩ := id hR
        obtain ⟨cc, q1, q2, q3, q4, q5, q6, q7, -⟩ := z_obj G hk g2 g1
        have K1 := K H locs lsC hR hl
        simp only [List.map_cons] at K1 ⊢
        rw [z_tv_h q6]
        rw [← z_fv_tv hk] at K1
        have hcl := z_cl_at cc q1
        have hv : (z_oc G.2.2.1 M t i cc)[a]? = some (z_fv G.2.2.1 M t i a b) := by
          rw [z_oc_at (by rw [q4]; exact o2), q5, ← o3]
        have hsl : ∀ w ∈ u_ws (z_cn cc) (z_clT cc) (z_fn cc), w ∈ z_tbl := z_lays cc q1
        have hT := q7 a o2
        by_cases hf : f = 0
        · have hlk := hw _ (hn (.fieldLink (z_nm y).cls ix (z_fd e' a).1 (z_fd e' a).2.1 (z_fd e' a).2.2.1) (by simp [z_need, ne99, hf]) rfl)
          exact va_get (C := z_cn cc) (T := z_clT cc) (N := z_fn cc) hx hb hw hsl hown hK hP (z_off t i) q3 hcl a (by rw [q4]; exact o2) (by rw [hT]; exact hlk) (by rw [hT]; exact fun x q => q) hv hd K1
        · have hlk := hw _ (hn (.fieldLink (z_nm y).cls ix (z_nm y).cls (z_fd e' a).2.1 (z_fd e' a).2.2.1) (by simp [z_need, ne99, hf]) rfl)
          have hsm := hw _ (hn (.sameField (z_nm y).cls (z_fd e' a).1 (z_fd e' a).2.1 (z_fd e' a).2.2.1) (by simp [z_need, ne99, hf]) rfl)
          exact va_get (C := z_cn cc) (T := z_clT cc) (N := z_fn cc) hx hb hw hsl hown hK hP (z_off t i) q3 hcl a (by rw [q4]; exact o2) (by rw [hT]; exact hlk) (by rw [hT]; exact u_same hsm) hv hd K1
  · cases h
theorem z_s_getstatic {ix : Nat} (F : z_Fx G L xs p s m meth c y M0) (hcd : z_cd y pc = some (.getstatic ix, len, (a, b, e', f), ki, kj)) (h : z_step (y, pc, ls, st, M) = Sum.inl c') (K : z_K G L xs p l e R s m args below meth c Q n0 s0 c') : z_K G L xs p l e R s m args below meth c Q n0 s0 (y, pc, ls, st, M) := by
  obtain ⟨hd, ho, hn⟩ := z_cd_ok hcd
  have hw := F.words args
  obtain ⟨hx, hb, hml, hown, -, -, -, hSt⟩ := F
  obtain ⟨-, -, -, -, hK, -, hE⟩ := hSt
  obtain ⟨-, -, h4, h5, h6, -⟩ := hE
  simp only [z_step, hcd] at h
  simp only [z_oke, Bool.and_eq_true] at ho
  obtain ⟨⟨ho1, ho2⟩, ho3⟩ := ho
  obtain rfl : len = 3 := Nat.eq_of_beq_eq_true ho1
  have ho2 : a < 6 := Nat.le_of_ble_eq_true ho2
  -- the value that the field holds
  have key : ∀ {v : Value}, va_Z (z_stn a).1 (z_stn a).2.1 (z_stn a).2.2 v (z_A G.2.2.1) s s.heap → ∀ (H : Heap) (locs : List Loc) (lsC : Array Slot) (rest : List Value), va_S (z_A G.2.2.1) s.heap H locs → ∀ cells slots, W p l e R s m args below meth c H locs cells slots Q (F0 m (pc + 3) lsC (v :: rest)) → W p l e R s m args below meth c H locs cells slots Q (F0 m pc lsC rest) := by
    intro v hZ H locs lsC rest hS cells slots k
    by_cases hf : f = 1
    · have hlk := hw _ (hn (.fieldLinkNest (z_nm y).cls ix (z_stn a).1 (z_stn a).2.1 (z_stn a).2.2 "ShareNets") (by simp [z_need, hf]) rfl)
      exact va_getsN hx hb hZ hS hown hlk (fun x q => q) hd k
    · have hlk := hw _ (hn (.fieldLink (z_nm y).cls ix (z_stn a).1 (z_stn a).2.1 (z_stn a).2.2) (by simp [z_need, hf]) rfl)
      exact va_gets hx hb hZ hS hown hlk (fun x q => q) hd k
  by_cases ha : a < 4
  · have hb4 : Nat.blt a 4 = true := by simpa [Nat.blt_eq] using ha
    rw [hb4] at h
    cases h
    intro H locs lsC hR hl
    have K1 := K H locs lsC hR hl
    simp only [List.map_cons] at K1
    obtain ⟨t, q1, q2, -⟩ := h4 a ha
    rw [z_tv_x (by decide), q1] at K1
    exact key q2 H locs lsC _ hR.2.2.2.2 _ _ K1
  · have ha2 : a = 4 ∨ a = 5 := by omega
    rcases ha2 with rfl | rfl
    · cases h
      intro H locs lsC hR hl
      exact key h5 H locs lsC _ hR.2.2.2.2 _ _ (K H locs lsC hR hl)
    · cases h
      intro H locs lsC hR hl
      exact key h6 H locs lsC _ hR.2.2.2.2 _ _ (K H locs lsC hR hl)
theorem z_s_ldc {ix : Nat} (F : z_Fx G L xs p s m meth c y M0) (hcd : z_cd y pc = some (.ldc ix, len, (a, b, e', f), ki, kj)) (h : z_step (y, pc, ls, st, M) = Sum.inl c') (K : z_K G L xs p l e R s m args below meth c Q n0 s0 c') : z_K G L xs p l e R s m args below meth c Q n0 s0 (y, pc, ls, st, M) := by
  obtain ⟨hd, ho, hn⟩ := z_cd_ok hcd
  have hw := F.words args
  obtain ⟨hx, hb, hml, hown, -, -, -, hSt⟩ := F
  obtain ⟨-, -, -, -, hK, -, hE⟩ := hSt
  obtain ⟨-, ⟨adK, adV, k1, -, k3⟩, -⟩ := hE
  simp only [z_step, hcd] at h
  simp only [z_oke, Bool.and_eq_true] at ho
  obtain ⟨ho1, ho⟩ := ho
  obtain rfl : len = 2 := Nat.eq_of_beq_eq_true ho1
  cases h
  intro H locs lsC hR hl
  have K1 := K H locs lsC hR hl
  cases ha : Nat.beq a 1 with
  | true =>
    rw [ha] at ho K1
    simp only [cond_true, Bool.and_eq_true, decide_eq_true_eq] at ho
    obtain ⟨⟨p1, p2⟩, p3⟩ := ho
    have p1 : b < 4 := Nat.le_of_ble_eq_true p1
    have p3 := Nat.eq_of_beq_eq_true p3
    have hr := k3 b p1
    rw [← p3] at hr
    simp only [cond_true, List.map_cons] at K1
    rw [z_tv_x (by decide), (k1 b p1).1] at K1
    rw [p2] at hown
    exact va_ldcS hx hb hown hr hd K1
  | false =>
    rw [ha] at K1
    have hne : ¬ a = 1 := fun q => by rw [q] at ha; cases ha
    have hc := hw _ (hn (.constant (z_nm y).cls ix ki) (by simp [z_need, hne]) rfl)
    exact lv_ldc hx hb hown hc hd K1
end
end
section
/-! rows: reads and writes; fields: writes -/
section
variable {G : z_G} {L : Nat} {xs : Nat → Int32} {p : Program} {l : Launch} {e : Env} {R : Room} {s : State} {m : MethodId} {args : Array Value} {below : List Frame} {meth : Method} {c : Code} {Q : State → Prop} {n0 s0 : Nat} {M0 : z_M}
variable {y pc len a b e' f : Nat} {ki : Int32} {kj : Int64} {ls : List (Option z_V)} {st : List z_V} {M : z_M} {c' : z_C}
theorem z_arr (G : z_G) {t i el n : Nat} (hg : z_g M t i = true) (ht : z_ta t = some (el, n)) : (z_wl G M)[z_off t i]? = some (G.2.2.1 + z_off t i, .inl (G.2.1 el, n, z_ac G.2.2.1 M t i el n)) := by
  rw [z_wl_get G hg]
  unfold z_cE
  rw [ht]
theorem z_s_iaload (F : z_Fx G L xs p s m meth c y M0) (hcd : z_cd y pc = some (.iaload, len, (a, b, e', f), ki, kj)) (h : z_step (y, pc, ls, st, M) = Sum.inl c') (K : z_K G L xs p l e R s m args below meth c Q n0 s0 c') : z_K G L xs p l e R s m args below meth c Q n0 s0 (y, pc, ls, st, M) := by
  obtain ⟨hd, ho, hn⟩ := z_cd_ok hcd
  obtain ⟨hx, hb, hml, hown, -, -, -, hSt⟩ := F
  obtain ⟨-, hsz0, -, -, hK, -, hE⟩ := hSt
  obtain ⟨-, -, h4, -, -, ⟨bb, h7, h8, h9⟩, -, hL⟩ := hE
  simp only [z_step, hcd] at h
  obtain rfl : len = 1 := Nat.eq_of_beq_eq_true ho
  split at h
  · next x t i r =>
    by_cases h66 : t = 66
    · subst h66
      simp only [show Nat.beq 66 66 = true from rfl, cond_true] at h
      cases hg : (decide (i < 4) && z_in x (z_stc.getD i []).length) with
      | false => rw [hg] at h; cases h
      | true =>
        rw [hg] at h
        cases h
        simp only [Bool.and_eq_true, decide_eq_true_eq] at hg
        obtain ⟨t0, q1, -, q3⟩ := h4 i hg.1
        intro H locs lsC hR hl
        simp only [List.map_cons]
        rw [z_tv_x (by decide), q1]
        exact va_ti hx hb q3 hR.2.2.2.2 (z_in_of hg.2) rfl hd (K H locs lsC hR hl)
    · rw [z_beq_f h66] at h
      by_cases h67 : t = 67
      · subst h67
        simp only [show Nat.beq 67 67 = true from rfl, cond_true, cond_false] at h
        cases hg : (Nat.beq i 0 && z_in x (M.2.2.1 67 1 0).toNatClampNeg) with
        | false => rw [hg] at h; cases h
        | true =>
          rw [hg] at h
          cases h
          simp only [Bool.and_eq_true] at hg
          obtain ⟨hi0, hg⟩ := hg
          obtain rfl : i = 0 := Nat.eq_of_beq_eq_true hi0
          intro H locs lsC hR hl
          obtain ⟨hP, hsz, hk, hsc, hS⟩ := id hR
          have hLe : (M.2.2.1 67 1 0).toNatClampNeg = L := by rw [hsc.1]; exact nI_clamp hL
          rw [hLe] at hg
          have hi := z_in_of hg
          have hlt : x.toNatClampNeg < L := Nat.not_le.mp fun q => hi (Or.inr q)
          have K1 := K H locs lsC hR hl
          simp only [List.map_cons] at K1 ⊢
          rw [show z_tv G (z_i (M.2.2.1 67 0 x.toNatClampNeg)) = .int (xs x.toNatClampNeg) from by rw [hsc.2 _ hlt]; rfl] at K1
          rw [z_tv_x (by decide), h7]
          exact va_sld hx hb h9 (Nat.lt_of_lt_of_le h8 (by omega)) (Nat.not_le.mpr h8) hS hi hd K1
      · rw [z_beq_f h67] at h
        simp only [cond_false] at h
        split at h
        · next n hta =>
          cases hg : (z_g M t i && z_in x n) with
          | false => rw [hg] at h; cases h
          | true =>
            rw [hg] at h
            cases h
            simp only [Bool.and_eq_true] at hg
            intro H locs lsC hR hl
            simp only [List.map_cons]
            rw [z_tv_h (z_ta_lt hta)]
            exact va_iald hx hb hK hR.1 (z_off t i) 0 (z_arr G hg.1 hta) rfl (z_in_of hg.2) hd (K H locs lsC hR hl)
        · cases h
  · cases h
theorem z_s_baload (F : z_Fx G L xs p s m meth c y M0) (hcd : z_cd y pc = some (.baload, len, (a, b, e', f), ki, kj)) (h : z_step (y, pc, ls, st, M) = Sum.inl c') (K : z_K G L xs p l e R s m args below meth c Q n0 s0 c') : z_K G L xs p l e R s m args below meth c Q n0 s0 (y, pc, ls, st, M) := by
  obtain ⟨hd, ho, hn⟩ := z_cd_ok hcd
  obtain ⟨hx, hb, hml, hown, -, -, -, hSt⟩ := F
  obtain ⟨-, hsz0, -, -, hK, -, hE⟩ := hSt
  obtain ⟨-, ⟨adK, adV, k1, k2, -⟩, -⟩ := hE
  simp only [z_step, hcd] at h
  obtain rfl : len = 1 := Nat.eq_of_beq_eq_true ho
  split at h
  · next x t i r =>
    cases hg : (Nat.beq t 65 && decide (i < 4) && z_in x (z_sby.getD i []).length) with
    | false => rw [hg] at h; cases h
    | true =>
      rw [hg] at h
      cases h
      simp only [Bool.and_eq_true, decide_eq_true_eq] at hg
      obtain ⟨⟨g1, g2⟩, g3⟩ := hg
      obtain rfl : t = 65 := Nat.eq_of_beq_eq_true g1
      obtain ⟨-, -, -, s4⟩ := k2.1 i g2
      have hlen : z_lens.getD i 0 = (z_sby.getD i []).length := by
        have : ∀ i, i < 4 → z_lens.getD i 0 = (z_sby.getD i []).length := by decide +kernel
        exact this i g2
      intro H locs lsC hR hl
      simp only [List.map_cons]
      rw [z_tv_x (by decide), (k1 i g2).2]
      exact va_tb hx hb s4 hR.2.2.2.2 (by rw [hlen]; exact z_in_of g3) rfl hd (K H locs lsC hR hl)
  · cases h
theorem z_s_laload (F : z_Fx G L xs p s m meth c y M0) (hcd : z_cd y pc = some (.laload, len, (a, b, e', f), ki, kj)) (h : z_step (y, pc, ls, st, M) = Sum.inl c') (K : z_K G L xs p l e R s m args below meth c Q n0 s0 c') : z_K G L xs p l e R s m args below meth c Q n0 s0 (y, pc, ls, st, M) := by
  obtain ⟨hd, ho, hn⟩ := z_cd_ok hcd
  obtain ⟨hx, hb, hml, hown, -, -, -, hSt⟩ := F
  obtain ⟨-, hsz0, -, -, hK, -, hE⟩ := hSt
  simp only [z_step, hcd] at h
  obtain rfl : len = 1 := Nat.eq_of_beq_eq_true ho
  split at h
  · next x t i r =>
    split at h
    · next n hta =>
      cases hg : (z_g M t i && z_in x n) with
      | false => rw [hg] at h; cases h
      | true =>
        rw [hg] at h
        cases h
        simp only [Bool.and_eq_true] at hg
        intro H locs lsC hR hl
        simp only [List.map_cons]
        rw [z_tv_h (z_ta_lt hta)]
        exact va_lald hx hb hK hR.1 (z_off t i) 1 (z_arr G hg.1 hta) rfl (z_in_of hg.2) hd (K H locs lsC hR hl)
    · cases h
  · cases h
theorem z_ec_ty : ∀ k, k < 3 → (z_tys G)[k + 2]? = some (G.2.1 (k + 2), .object (z_ec (k + 2))) := by
  intro k hk
  match k, hk with
  | 0, _ | 1, _ | 2, _ => rfl
theorem z_s_aaload (F : z_Fx G L xs p s m meth c y M0) (hcd : z_cd y pc = some (.aaload, len, (a, b, e', f), ki, kj)) (h : z_step (y, pc, ls, st, M) = Sum.inl c') (K : z_K G L xs p l e R s m args below meth c Q n0 s0 c') : z_K G L xs p l e R s m args below meth c Q n0 s0 (y, pc, ls, st, M) := by
  obtain ⟨hd, ho, hn⟩ := z_cd_ok hcd
  obtain ⟨hx, hb, hml, hown, -, -, -, hSt⟩ := F
  obtain ⟨-, hsz0, -, -, hK, -, hE⟩ := hSt
  simp only [z_step, hcd] at h
  obtain rfl : len = 1 := Nat.eq_of_beq_eq_true ho
  split at h
  · next x t i r =>
    split at h
    · next k n hta =>
      cases hg : (z_g M t i && z_in x n) with
      | false => rw [hg] at h; cases h
      | true =>
        rw [hg] at h
        cases h
        simp only [Bool.and_eq_true] at hg
        intro H locs lsC hR hl
        have ht := z_ta_lt hta
        obtain ⟨k5, -, -⟩ := z_ta5 t ht _ _ hta
        have K1 := K H locs lsC hR hl
        simp only [List.map_cons] at K1 ⊢
        rw [z_tv_h ht]
        rw [← z_rf_tv hR.2.2.1] at K1
        have hin := z_in_of hg.2
        have hlt : x.toNatClampNeg < n := Nat.not_le.mp fun q => hin (Or.inr q)
        have hA := z_arr G hg.1 hta
        have e1 : z_ac G.2.2.1 M t i (k + 2) n = .inr (.inr (.inr (.inr (fun j => if j < n then (z_gr M t i j).map (z_addr G.2.2.1) else none)))) := by
          unfold z_ac
          rw [if_neg (by omega), if_neg (by omega)]
        rw [e1] at hA
        refine va_aldq hx hb hK hR.1 (z_off t i) (k + 2) hA (z_ec_ty k (by omega)) hin hd ?_
        rw [if_pos hlt]
        exact K1
    · cases h
  · cases h
theorem z_s_arraylength (F : z_Fx G L xs p s m meth c y M0) (hcd : z_cd y pc = some (.arraylength, len, (a, b, e', f), ki, kj)) (h : z_step (y, pc, ls, st, M) = Sum.inl c') (K : z_K G L xs p l e R s m args below meth c Q n0 s0 c') : z_K G L xs p l e R s m args below meth c Q n0 s0 (y, pc, ls, st, M) := by
  obtain ⟨hd, ho, hn⟩ := z_cd_ok hcd
  obtain ⟨hx, hb, hml, hown, -, -, -, hSt⟩ := F
  obtain ⟨-, hsz0, -, -, hK, -, hE⟩ := hSt
  obtain ⟨-, ⟨adK, adV, k1, k2, -⟩, h4, -, -, ⟨bb, h7, h8, h9⟩, -, hL⟩ := hE
  simp only [z_step, hcd] at h
  obtain rfl : len = 1 := Nat.eq_of_beq_eq_true ho
  split at h
  · next t i r =>
    by_cases h66 : t = 66
    · subst h66
      simp only [show Nat.beq 66 66 = true from rfl, cond_true] at h
      cases hg : decide (i < 4) with
      | false => rw [hg] at h; cases h
      | true =>
        rw [hg] at h
        cases h
        obtain ⟨t0, q1, -, q3⟩ := h4 i (of_decide_eq_true hg)
        intro H locs lsC hR hl
        simp only [List.map_cons]
        rw [z_tv_x (by decide), q1]
        exact va_tlen hx hb q3 hR.2.2.2.2 rfl hd (K H locs lsC hR hl)
    · rw [z_beq_f h66] at h
      by_cases h65 : t = 65
      · subst h65
        simp only [show Nat.beq 65 65 = true from rfl, cond_true, cond_false] at h
        cases hg : decide (i < 4) with
        | false => rw [hg] at h; cases h
        | true =>
          rw [hg] at h
          cases h
          have g2 := of_decide_eq_true hg
          obtain ⟨-, -, -, s4⟩ := k2.1 i g2
          have hlen : z_lens.getD i 0 = (z_sby.getD i []).length := by
            have : ∀ i, i < 4 → z_lens.getD i 0 = (z_sby.getD i []).length := by decide +kernel
            exact this i g2
          intro H locs lsC hR hl
          simp only [List.map_cons]
          rw [z_tv_x (by decide), (k1 i g2).2]
          exact va_tlen hx hb s4 hR.2.2.2.2 (by rw [hlen]) hd (K H locs lsC hR hl)
      · rw [z_beq_f h65] at h
        by_cases h67 : t = 67
        · subst h67
          simp only [show Nat.beq 67 67 = true from rfl, cond_true, cond_false] at h
          cases hi0 : Nat.beq i 0 with
          | false => rw [hi0] at h; cases h
          | true =>
          rw [hi0] at h
          cases h
          obtain rfl : i = 0 := Nat.eq_of_beq_eq_true hi0
          intro H locs lsC hR hl
          obtain ⟨hP, hsz, hk, hsc, hS⟩ := id hR
          have K1 := K H locs lsC hR hl
          simp only [List.map_cons] at K1 ⊢
          rw [show z_tv G (z_i (M.2.2.1 67 1 0)) = .int (Int32.ofNat L) from by rw [hsc.1]; rfl] at K1
          rw [z_tv_x (by decide), h7]
          exact va_slen hx hb h9 (Nat.lt_of_lt_of_le h8 (by omega)) (Nat.not_le.mpr h8) hS hd K1
        · rw [z_beq_f h67] at h
          simp only [cond_false] at h
          split at h
          · next el n hta =>
            cases hg : z_g M t i with
            | false => rw [hg] at h; cases h
            | true =>
              rw [hg] at h
              cases h
              intro H locs lsC hR hl
              have ht := z_ta_lt hta
              obtain ⟨k5, -, -⟩ := z_ta5 t ht _ _ hta
              simp only [List.map_cons]
              rw [z_tv_h ht]
              have hty : ∃ ty, (z_tys G)[el]? = some (G.2.1 el, ty) := by
                match el, k5 with
                | 0, _ | 1, _ | 2, _ | 3, _ | 4, _ => exact ⟨_, rfl⟩
              obtain ⟨ty, hty⟩ := hty
              exact va_alen hx hb hK hR.1 (z_off t i) el (z_arr G hg hta) hty rfl hd (K H locs lsC hR hl)
          · cases h
  · cases h
end
end
section
/-! writes -/
theorem z_up_ne {α : Type} {f : Nat → Nat → Nat → α} {t i j t' i' j' : Nat} {v : α} (h : ¬ (t' = t ∧ i' = i)) : z_up f t i j v t' i' j' = f t' i' j' := by
  unfold z_up
  rw [if_neg]
  rintro ⟨a, b, -⟩
  exact h ⟨a, b⟩
theorem z_up_at {α : Type} {f : Nat → Nat → Nat → α} {t i j j' : Nat} {v : α} : z_up f t i j v t i j' = if j' = j then v else f t i j' := by
  unfold z_up
  by_cases h : j' = j
  · simp [h]
  · simp [h]
theorem z_zr_ne {α : Type} {f : Nat → Nat → Nat → α} {t i t' i' j' : Nat} {v : α} (h : ¬ (t' = t ∧ i' = i)) : z_zr f t i v t' i' j' = f t' i' j' := by
  unfold z_zr
  rw [if_neg h]
theorem z_zr_at {α : Type} {f : Nat → Nat → Nat → α} {t i j' : Nat} {v : α} : z_zr f t i v t i j' = v := by
  unfold z_zr
  rw [if_pos ⟨rfl, rfl⟩]
theorem z_cE_congr {G : z_G} {M M' : z_M} {t i : Nat} (h1 : z_co M' t i = z_co M t i) (h2 : ∀ j, M'.2.2.1 t i j = M.2.2.1 t i j) (h3 : ∀ j, M'.2.2.2 t i j = M.2.2.2 t i j) (h4 : ∀ j, z_gr M' t i j = z_gr M t i j) : z_cE G M' t i = z_cE G M t i := by
  unfold z_cE z_ac z_oc z_fv
  simp only [h1, h2, h3, h4]
theorem z_scr_up {L : Nat} {xs : Nat → Int32} {M : z_M} {P : Bool} {X : z_X} {J : Nat → Nat → Nat → Int64} {t i j : Nat} {v : Int32} (h : z_scr L xs M) (ht : t < 64) : z_scr L xs (P, X, z_up M.2.2.1 t i j v, J) := by
  refine ⟨?_, fun k hk => ?_⟩
  · show z_up M.2.2.1 t i j v 67 1 0 = _
    rw [z_up_ne (by omega)]; exact h.1
  · show z_up M.2.2.1 t i j v 67 0 k = _
    rw [z_up_ne (by omega)]; exact h.2 k hk
/-- a row's references, one of them written -/
theorem z_gr_up {M : z_M} {t i j : Nat} {o : Option (Nat × Nat)} (h : M.1 = true → t = 11) (t' i' j' : Nat) : z_gr (M.1, (M.2.1.1, M.2.1.2.1, M.2.1.2.2.1, z_up M.2.1.2.2.2 t i j o), M.2.2.1, M.2.2.2) t' i' j' = if t' = t ∧ i' = i ∧ j' = j then o else z_gr M t' i' j' := by
  unfold z_gr
  dsimp only
  cases hM : M.1 with
  | false => rfl
  | true =>
    have h11 := h hM
    subst h11
    simp only [cond_true]
    by_cases ht : t' = 11
    · subst ht
      rfl
    · rw [z_beq_f ht]
      rw [if_neg (fun q => ht q.1)]
      rfl
section
variable {G : z_G} {L : Nat} {xs : Nat → Int32} {p : Program} {l : Launch} {e : Env} {R : Room} {s : State} {m : MethodId} {args : Array Value} {below : List Frame} {meth : Method} {c : Code} {Q : State → Prop} {n0 s0 : Nat} {M0 : z_M}
variable {y pc len a b e' f : Nat} {ki : Int32} {kj : Int64} {ls : List (Option z_V)} {st : List z_V} {M : z_M} {c' : z_C}
theorem z_s_iastore (F : z_Fx G L xs p s m meth c y M0) (hcd : z_cd y pc = some (.iastore, len, (a, b, e', f), ki, kj)) (h : z_step (y, pc, ls, st, M) = Sum.inl c') (K : z_K G L xs p l e R s m args below meth c Q n0 s0 c') : z_K G L xs p l e R s m args below meth c Q n0 s0 (y, pc, ls, st, M) := by
  obtain ⟨hd, ho, hn⟩ := z_cd_ok hcd
  obtain ⟨hx, hb, hml, hown, -, -, -, hSt⟩ := F
  obtain ⟨-, hsz0, -, -, hK, -, hE⟩ := hSt
  simp only [z_step, hcd] at h
  obtain rfl : len = 1 := Nat.eq_of_beq_eq_true ho
  split at h
  · next v x t i r =>
    split at h
    · next n hta =>
      cases hg : (z_g M t i && z_in x n) with
      | false => rw [hg] at h; cases h
      | true =>
        rw [hg] at h
        cases h
        simp only [Bool.and_eq_true] at hg
        intro H locs lsC hR hl
        obtain ⟨hP, hsz, hk, hsc, hS⟩ := id hR
        have ht := z_ta_lt hta
        simp only [List.map_cons]
        rw [z_tv_h ht]
        refine va_iast hx hb hK hP (z_wl_D G M) hS (z_off t i) 0 (z_arr G hg.1 hta) rfl (z_in_of hg.2) hd fun H1 locs1 hP1 hD1 hS1 => ?_
        refine K H1 locs1 lsC ⟨?_, hsz, hk, z_scr_up hsc ht, hS1⟩ hl
        have e1 := z_wl_set G (M' := (M.1, M.2.1, z_up M.2.2.1 t i x.toNatClampNeg v, M.2.2.2)) hg.1 rfl (fun t' i' hne => z_cE_congr rfl (fun j => z_up_ne hne) (fun j => rfl) (fun j => rfl))
        show va_P _ _ (z_wl G (M.1, M.2.1, z_up M.2.2.1 t i x.toNatClampNeg v, M.2.2.2)) H1
        rw [e1]
        have e2 : z_cE G (M.1, M.2.1, z_up M.2.2.1 t i x.toNatClampNeg v, M.2.2.2) t i = .inl (G.2.1 0, n, .inl (upd (fun j => M.2.2.1 t i j) x.toNatClampNeg v)) := by
          unfold z_cE
          rw [hta]
          show Sum.inl (G.2.1 0, n, Sum.inl (fun j => z_up M.2.2.1 t i x.toNatClampNeg v t i j)) = _
          congr 3
          congr 1
          funext j
          rw [z_up_at]
          rfl
        rw [e2]
        exact hP1
    · cases h
  · cases h
theorem z_s_lastore (F : z_Fx G L xs p s m meth c y M0) (hcd : z_cd y pc = some (.lastore, len, (a, b, e', f), ki, kj)) (h : z_step (y, pc, ls, st, M) = Sum.inl c') (K : z_K G L xs p l e R s m args below meth c Q n0 s0 c') : z_K G L xs p l e R s m args below meth c Q n0 s0 (y, pc, ls, st, M) := by
  obtain ⟨hd, ho, hn⟩ := z_cd_ok hcd
  obtain ⟨hx, hb, hml, hown, -, -, -, hSt⟩ := F
  obtain ⟨-, hsz0, -, -, hK, -, hE⟩ := hSt
  simp only [z_step, hcd] at h
  obtain rfl : len = 1 := Nat.eq_of_beq_eq_true ho
  split at h
  · next v x t i r =>
    split at h
    · next n hta =>
      cases hg : (z_g M t i && z_in x n) with
      | false => rw [hg] at h; cases h
      | true =>
        rw [hg] at h
        cases h
        simp only [Bool.and_eq_true] at hg
        intro H locs lsC hR hl
        obtain ⟨hP, hsz, hk, hsc, hS⟩ := id hR
        have ht := z_ta_lt hta
        simp only [List.map_cons]
        rw [z_tv_h ht]
        refine va_last hx hb hK hP (z_wl_D G M) hS (z_off t i) 1 (z_arr G hg.1 hta) rfl (z_in_of hg.2) hd fun H1 locs1 hP1 hD1 hS1 => ?_
        refine K H1 locs1 lsC ⟨?_, hsz, hk, hsc, hS1⟩ hl
        have e1 := z_wl_set G (M' := (M.1, M.2.1, M.2.2.1, z_up M.2.2.2 t i x.toNatClampNeg v)) hg.1 rfl (fun t' i' hne => z_cE_congr rfl (fun j => rfl) (fun j => z_up_ne hne) (fun j => rfl))
        show va_P _ _ (z_wl G (M.1, M.2.1, M.2.2.1, z_up M.2.2.2 t i x.toNatClampNeg v)) H1
        rw [e1]
        have e2 : z_cE G (M.1, M.2.1, M.2.2.1, z_up M.2.2.2 t i x.toNatClampNeg v) t i = .inl (G.2.1 1, n, .inr (.inl (vp_updL (fun j => M.2.2.2 t i j) x.toNatClampNeg v))) := by
          unfold z_cE
          rw [hta]
          show Sum.inl (G.2.1 1, n, Sum.inr (Sum.inl (fun j => z_up M.2.2.2 t i x.toNatClampNeg v t i j))) = _
          congr 3
          congr 2
          funext j
          rw [z_up_at]
          rfl
        rw [e2]
        exact hP1
    · cases h
  · cases h
end
end
section
/-! rows of references and fields: writes -/
section
variable {G : z_G} {L : Nat} {xs : Nat → Int32} {p : Program} {l : Launch} {e : Env} {R : Room} {s : State} {m : MethodId} {args : Array Value} {below : List Frame} {meth : Method} {c : Code} {Q : State → Prop} {n0 s0 : Nat} {M0 : z_M}
variable {y pc len a b e' f : Nat} {ki : Int32} {kj : Int64} {ls : List (Option z_V)} {st : List z_V} {M : z_M} {c' : z_C}
theorem z_co_lt {t i cc : Nat} (hk : z_kok M) (hg : z_g M t i = true) (h : z_co M t i = some cc) : cc < 13 ∧ (z_wl G M)[z_off t i]? = some (G.2.2.1 + z_off t i, .inr (cc, z_oc G.2.2.1 M t i cc)) ∧ t < 64 := by
  by_cases h32 : t = 32
  · subst h32
    obtain ⟨c2, q1, q2, q3, -, -, q6, -⟩ := z_obj G (cl0 := 3) hk hg rfl
    rw [h] at q2
    cases q2
    exact ⟨q1, q3, q6⟩
  · have h1 : z_tc t = some cc := by
      unfold z_co at h
      rw [z_beq_f h32] at h
      exact h
    obtain ⟨c2, q1, q2, q3, -, -, q6, -⟩ := z_obj G (cl0 := cc) hk hg (by rw [z_beq_f h32]; exact decide_eq_true h1)
    rw [h] at q2
    cases q2
    exact ⟨q1, q3, q6⟩
theorem z_fit_any (hk : z_kok M) {H : Heap} (hK : va_K G.1 z_cl (z_tys G) s) (hP : va_P G.1 z_cl (z_wl G M) H) (hw : ∀ w ∈ z_tbl, va_Nw w s) {k : Nat} (hk3 : k < 3) {v : z_V} {o : Option (Nat × Nat)} (h : z_fit M (k + 2) v = some o) :
    (v = z_n ∧ o = none) ∨ ∃ t i, v = z_r t i ∧ o = some (t, i) ∧ t < 64 ∧ va_Any (z_ec (k + 2)) s H (G.2.2.1 + z_off t i) := by
  unfold z_fit at h
  split at h
  · cases h; exact Or.inl ⟨rfl, rfl⟩
  · next t i =>
    cases hg : z_g M t i with
    | false => rw [hg] at h; cases h
    | true =>
      rw [hg] at h
      simp only [cond_true] at h
      split at h
      · cases h
      · next cc hc =>
        obtain ⟨q1, q2, q3⟩ := z_co_lt (G := G) hk hg hc
        have hcl := z_cl_at cc q1
        cases hb : (bif Nat.beq (k + 2) 2 then Nat.beq cc 2 else bif Nat.beq (k + 2) 4 then Nat.beq cc 4 else (([0, 3, 5, 6] : List Nat).contains cc)) with
        | false => rw [hb] at h; cases h
        | true =>
          rw [hb] at h
          cases h
          refine Or.inr ⟨t, i, rfl, rfl, q3, va_rAny hK hP q2 hcl ?_⟩
          intro comp c0 f1 f2
          match k, hk3 with
          | 0, _ =>
            obtain rfl : cc = 2 := Nat.eq_of_beq_eq_true hb
            exact vb_asgS comp c0 f1 f2
          | 2, _ =>
            obtain rfl : cc = 4 := Nat.eq_of_beq_eq_true hb
            exact vb_asgS comp c0 f1 f2
          | 1, _ =>
            have hb : cc ∈ ([0, 3, 5, 6] : List Nat) := by simpa using hb
            have key : ∀ C : String, C ≠ "ShareNets$Share" → Cond.castable C "ShareNets$Share" ∈ z_tbl → s.vm.findClass C = some c0 → s.vm.assignable c0 comp = true := by
              intro C _ hm hf
              obtain ⟨c1, t1, g1, g2, g3⟩ := Cond.castable_spec (va_Nw.use (A := #[]) rfl (hw _ hm))
              cases g1.symm.trans hf
              cases g2.symm.trans f1
              exact g3
            simp only [List.mem_cons, List.not_mem_nil, or_false] at hb
            rcases hb with rfl | rfl | rfl | rfl
            · exact key _ (by decide) (z_tbl_of (List.mem_of_getElem? (i := 1730) (by decide +kernel)) rfl) f2
            · exact vb_asgS comp c0 f1 f2
            · exact key _ (by decide) (z_tbl_of (List.mem_of_getElem? (i := 1729) (by decide +kernel)) rfl) f2
            · exact key _ (by decide) (z_tbl_of (List.mem_of_getElem? (i := 1728) (by decide +kernel)) rfl) f2
  · cases h
theorem z_s_aastore (F : z_Fx G L xs p s m meth c y M0) (hcd : z_cd y pc = some (.aastore, len, (a, b, e', f), ki, kj)) (h : z_step (y, pc, ls, st, M) = Sum.inl c') (K : z_K G L xs p l e R s m args below meth c Q n0 s0 c') : z_K G L xs p l e R s m args below meth c Q n0 s0 (y, pc, ls, st, M) := by
  obtain ⟨hd, ho, hn⟩ := z_cd_ok hcd
  obtain ⟨hx, hb, hml, hown, -, -, -, hSt⟩ := F
  obtain ⟨-, hsz0, -, -, hK, hwd, hE⟩ := hSt
  simp only [z_step, hcd] at h
  obtain rfl : len = 1 := Nat.eq_of_beq_eq_true ho
  split at h
  · next v x t i r =>
    split at h
    · next k n hta =>
      split at h
      · next o hfit =>
        cases hg : (z_g M t i && z_in x n && (bif M.1 then Nat.beq t 11 else true)) with
        | false => rw [hg] at h; cases h
        | true =>
          rw [hg] at h
          cases h
          simp only [Bool.and_eq_true] at hg
          obtain ⟨⟨hg1, hg2⟩, hg3⟩ := hg
          have h11 : M.1 = true → t = 11 := fun q => by rw [q] at hg3; exact Nat.eq_of_beq_eq_true hg3
          intro H locs lsC hR hl
          obtain ⟨hP, hsz, hk, hsc, hS⟩ := id hR
          have ht := z_ta_lt hta
          obtain ⟨k5, -, -⟩ := z_ta5 t ht _ _ hta
          have hin := z_in_of hg2
          have hlt : x.toNatClampNeg < n := Nat.not_le.mp fun q => hin (Or.inr q)
          have hA := z_arr G hg1 hta
          have e1 : ∀ N : z_M, z_ac G.2.2.1 N t i (k + 2) n = .inr (.inr (.inr (.inr (fun j => if j < n then (z_gr N t i j).map (z_addr G.2.2.1) else none)))) := by
            intro N
            unfold z_ac
            rw [if_neg (by omega), if_neg (by omega)]
          rw [e1] at hA
          have hkok : (∀ q, o = some q → q.1 < 64) → z_kok (M.1, (M.2.1.1, M.2.1.2.1, M.2.1.2.2.1, z_up M.2.1.2.2.2 t i x.toNatClampNeg o), M.2.2.1, M.2.2.2) := by
            intro ho
            refine ⟨hk.1, fun t' i' j' q hq => ?_⟩
            have hq : z_up M.2.1.2.2.2 t i x.toNatClampNeg o t' i' j' = some q := hq
            unfold z_up at hq
            split at hq
            · exact ho q hq
            · exact hk.2 _ _ _ _ hq
          have fin : ∀ (H1 : Heap) (locs1 : List Loc), (∀ q, o = some q → q.1 < 64) → va_P G.1 z_cl ((z_wl G M).set (z_off t i) (G.2.2.1 + z_off t i, .inl (G.2.1 (k + 2), n, .inr (.inr (.inr (.inr (va_up (fun j => if j < n then (z_gr M t i j).map (z_addr G.2.2.1) else none) x.toNatClampNeg (o.map (z_addr G.2.2.1))))))))) H1 → va_S (z_A G.2.2.1) s.heap H1 locs1 → W p l e R s m args below meth c H1 locs1 (z_nc M - n0) (z_sl M - s0) Q (F0 m (pc + 1) lsC (r.map (z_tv G))) := by
            intro H1 locs1 ho hP1 hS1
            refine K H1 locs1 lsC ⟨?_, hsz, hkok ho, hsc, hS1⟩ hl
            have e3 := z_wl_set G (M' := (M.1, (M.2.1.1, M.2.1.2.1, M.2.1.2.2.1, z_up M.2.1.2.2.2 t i x.toNatClampNeg o), M.2.2.1, M.2.2.2)) hg1 rfl (fun t' i' hne => z_cE_congr rfl (fun j => rfl) (fun j => rfl) (fun j => by rw [z_gr_up h11, if_neg (fun q => hne ⟨q.1, q.2.1⟩)]))
            show va_P _ _ (z_wl G _) H1
            rw [e3]
            have e4 : z_cE G (M.1, (M.2.1.1, M.2.1.2.1, M.2.1.2.2.1, z_up M.2.1.2.2.2 t i x.toNatClampNeg o), M.2.2.1, M.2.2.2) t i = .inl (G.2.1 (k + 2), n, .inr (.inr (.inr (.inr (va_up (fun j => if j < n then (z_gr M t i j).map (z_addr G.2.2.1) else none) x.toNatClampNeg (o.map (z_addr G.2.2.1))))))) := by
              unfold z_cE
              rw [hta]
              dsimp only
              rw [e1]
              congr 7
              funext j
              rw [z_gr_up h11]
              unfold va_up
              by_cases hj : j = x.toNatClampNeg
              · rw [if_pos (by rw [hj]; exact hlt), if_pos ⟨rfl, rfl, hj⟩, if_pos hj]
              · rw [if_neg (c := t = t ∧ i = i ∧ j = x.toNatClampNeg) (fun q => hj q.2.2), if_neg hj]
            rw [e4]
            exact hP1
          simp only [List.map_cons]
          rw [z_tv_h ht]
          rcases z_fit_any hk hK hP hwd (by omega) hfit with ⟨rfl, rfl⟩ | ⟨tv, iv, rfl, rfl, g1, g2⟩
          · refine va_astqN hx hb hK hP (z_wl_D G M) hS (z_off t i) (k + 2) hA (z_ec_ty k (by omega)) hin hd fun H1 locs1 hP1 hD1 hS1 => ?_
            exact fin H1 locs1 (fun q hq => by cases hq) hP1 hS1
          · rw [z_tv_h g1]
            refine va_astqM hx hb hK hP (z_wl_D G M) hS (z_off t i) (k + 2) hA (z_ec_ty k (by omega)) g2 hin hd fun H1 locs1 hP1 hD1 hS1 => ?_
            exact fin H1 locs1 (fun q hq => by cases hq; exact g1) hP1 hS1
      · cases h
    · cases h
  · cases h
/-- an object's fields, one of them written -/
theorem z_oc_set {B : Nat} {M' : z_M} {t i cc k : Nat} {v : Value} (hk : k < z_fn cc) (hv : z_fv B M' t i k ((z_ftl.getD cc []).getD k 9) = v) (ho : ∀ j, j < z_fn cc → j ≠ k → z_fv B M' t i j ((z_ftl.getD cc []).getD j 9) = z_fv B M t i j ((z_ftl.getD cc []).getD j 9)) : z_oc B M' t i cc = (z_oc B M t i cc).set k v := by
  apply List.ext_getElem?
  intro j
  by_cases hj : j < z_fn cc
  · rw [z_oc_at hj]
    by_cases e : j = k
    · subst e
      rw [List.getElem?_set_self (by rw [z_oc_len]; exact hj), hv]
    · rw [List.getElem?_set_ne (fun q => e q.symm), z_oc_at hj, ho j hj e]
  · rw [List.getElem?_eq_none (by rw [z_oc_len]; omega), List.getElem?_eq_none (by rw [List.length_set, z_oc_len]; omega)]
end
end
section
/-! fields: writes -/
theorem z_done_spec {n : Nat} {Rf : Nat → Nat → Nat → Option (Nat × Nat)} (h : z_done n Rf = true) : n = 102 ∧ ∀ q ∈ z_fdom, Rf q.1 q.2.1 q.2.2 = z_fin q.1 q.2.1 q.2.2 := by
  unfold z_done at h
  simp only [Bool.and_eq_true] at h
  refine ⟨Nat.eq_of_beq_eq_true h.1, fun q hq => ?_⟩
  exact of_decide_eq_true (List.all_eq_true.mp h.2 q hq)
/-- every reference field and every place of a row of nets or sheets is told in z_fdom -/
theorem z_fdom_arr : ∀ k, k < 102 → ∀ e1, e1 < 5 → ∀ n1, n1 < 330 → z_ta (z_un k).1 = some (e1, n1) → 2 ≤ e1 → (z_un k).1 ≠ 11 → ∀ j, j < n1 → ((z_un k).1, (z_un k).2, j) ∈ z_fdom := by
  have h : ∀ k, k < 102 → (match z_ta (z_un k).1 with
    | some (e1, n1) => Nat.blt e1 2 || Nat.beq (z_un k).1 11 || (List.range n1).all (fun j => decide (((z_un k).1, (z_un k).2, j) ∈ z_fdom))
    | none => true) = true := by decide +kernel
  intro k hk e1 he1 n1 hn1 hta h2 h11 j hj
  have h3 := h k hk
  rw [hta] at h3
  have hb : Nat.blt e1 2 = false := by
    cases hq : Nat.blt e1 2 with
    | false => rfl
    | true => exact absurd (Nat.le_of_ble_eq_true hq) (by omega)
  simp only [hb, z_beq_f h11, Bool.false_or] at h3
  exact of_decide_eq_true (List.all_eq_true.mp h3 j (List.mem_range.mpr hj))
theorem z_fdom_obj : ∀ k, k < 102 → z_ta (z_un k).1 = none → ∀ j, j < z_fn ((z_tc (z_un k).1).getD 0) → (z_ftl.getD ((z_tc (z_un k).1).getD 0) []).getD j 9 = 2 → ((z_un k).1, (z_un k).2, j) ∈ z_fdom := by
  have h : ∀ k, k < 102 → ((z_ta (z_un k).1).isSome || (List.range (z_fn ((z_tc (z_un k).1).getD 0))).all (fun j => !(Nat.beq ((z_ftl.getD ((z_tc (z_un k).1).getD 0) []).getD j 9) 2) || decide (((z_un k).1, (z_un k).2, j) ∈ z_fdom))) = true := by decide +kernel
  intro k hk hta j hj h2
  have h3 := h k hk
  rw [hta] at h3
  have h4 := List.all_eq_true.mp h3 j (List.mem_range.mpr hj)
  rw [h2] at h4
  exact of_decide_eq_true h4
theorem z_ta330 : ∀ t, t < 64 → ∀ e n, z_ta t = some (e, n) → n < 330 := by
  have h : ∀ t, t < 64 → (match z_ta t with | none => true | some (e1, n1) => decide (n1 < 330)) = true := by decide +kernel
  intro t ht e n hc
  have h1 := h t ht
  rw [hc] at h1
  exact of_decide_eq_true h1
theorem z_un32 : ∀ k, k < 102 → (z_un k).1 ≠ 32 := by decide +kernel
/-- all is made: the world is the same -/
theorem z_turn (G : z_G) {n sl : Nat} {kc : Nat → Nat} {Rf : Nat → Nat → Nat → Option (Nat × Nat)} {I : Nat → Nat → Nat → Int32} {J : Nat → Nat → Nat → Int64} (h : z_done n Rf = true) : z_wl G (true, (0, sl, kc, Rf), I, J) = z_wl G (false, (n, sl, kc, Rf), I, J) := by
  obtain ⟨rfl, hR⟩ := z_done_spec h
  unfold z_wl
  apply List.map_congr_left
  intro k hk
  have hk : k < 102 := by
    have := List.mem_range.mp hk
    exact this
  have hfa := z_fdom_arr k hk
  have hfo := z_fdom_obj k hk
  have h32 := z_un32 k hk
  have hul := z_un_lt k
  generalize hq : z_un k = q at hfa hfo h32 hul
  obtain ⟨t, i⟩ := q
  dsimp only at hfa hfo h32 hul ⊢
  congr 1
  unfold z_cE
  have hc : z_co (true, (0, sl, kc, Rf), I, J) t i = z_co (false, (102, sl, kc, Rf), I, J) t i := rfl
  have hc2 : z_co (false, (102, sl, kc, Rf), I, J) t i = z_tc t := by unfold z_co; rw [z_beq_f h32]; rfl
  rw [hc, hc2]
  split
  · next e n hta =>
    obtain ⟨w1, w2, -⟩ := z_ta5 t hul _ _ hta
    congr 3
    unfold z_ac
    split
    · rfl
    · next he0 =>
      split
      · rfl
      · next he1 =>
        congr 4
        funext j
        by_cases hj : j < n
        · rw [if_pos hj, if_pos hj]
          have : z_gr (true, (0, sl, kc, Rf), I, J) t i j = z_gr (false, (102, sl, kc, Rf), I, J) t i j := by
            by_cases h11 : t = 11
            · subst h11; rfl
            · have h3 := hR _ (hfa e w1 n (z_ta330 t hul _ _ hta) hta (by omega) h11 j hj)
              show (bif Nat.beq t 11 then _ else _) = Rf t i j
              rw [z_beq_f h11]
              exact h3.symm
          rw [this]
        · rw [if_neg hj, if_neg hj]
  · next hta =>
    have hf := hfo hta
    congr 2
    unfold z_oc
    apply List.map_congr_left
    intro j hj
    have hj := List.mem_range.mp hj
    unfold z_fv
    by_cases h2 : (z_ftl.getD ((z_tc t).getD 0) []).getD j 9 = 2
    · rw [h2]
      rw [if_neg (by decide), if_pos rfl, if_neg (by decide), if_pos rfl]
      have h3 := hR _ (hf j hj h2)
      have : z_gr (true, (0, sl, kc, Rf), I, J) t i j = z_gr (false, (102, sl, kc, Rf), I, J) t i j := by
        by_cases h11 : t = 11
        · subst h11; rfl
        · show (bif Nat.beq t 11 then _ else _) = Rf t i j
          rw [z_beq_f h11]
          exact h3.symm
      rw [this]
    · rw [if_neg h2, if_neg h2]
section
variable {G : z_G} {L : Nat} {xs : Nat → Int32} {p : Program} {l : Launch} {e : Env} {R : Room} {s : State} {m : MethodId} {args : Array Value} {below : List Frame} {meth : Method} {c : Code} {Q : State → Prop} {n0 s0 : Nat} {M0 : z_M}
variable {y pc len a b e' f : Nat} {ki : Int32} {kj : Int64} {ls : List (Option z_V)} {st : List z_V} {M : z_M} {c' : z_C}
/-- a field written, whatever its type, final or not -/
theorem z_putrow {ix t i cc : Nat} {v : Value} {H : Heap} {locs : List Loc} {lsC : Array Slot} {rest : List Value} {cells slots : Nat} (hx : p.tables.exec = Jvm.exec) (hb : c.code = (z_mi y).2.1) (hw : ∀ w ∈ z_tbl, w.before args s = true) (hown : s.vm.findClass (z_nm y).cls = some m.cls) (hnm : meth.name = (z_nm y).name)
    (hK : va_K G.1 z_cl (z_tys G) s) (hP : va_P G.1 z_cl (z_wl G M) H) (hS : va_S (z_A G.2.2.1) s.heap H locs) (hcc : cc < 13) (he : (z_wl G M)[z_off t i]? = some (G.2.2.1 + z_off t i, .inr (cc, z_oc G.2.2.1 M t i cc)))
    (hcl0 : e' < 13) (hfn : z_fn cc = z_fn e') (hT : ∀ k, k < z_fn e' → z_clT cc k = z_clT e' k) (ha : a < z_fn e') (hlk : (Cond.fieldLink (z_nm y).cls ix (z_fd e' a).1 (z_fd e' a).2.1 (z_fd e' a).2.2.1).before args s = true)
    (hfin : (bif (z_fd e' a).2.2.2 then decide ((z_nm y).name = "<init>") && decide ((z_fd e' a).1 = (z_nm y).cls) else true) = true) (hnar : narrow (z_ty cc a) v = v) (hfit : fits (z_ty cc a) v = true) (hd : decode (z_mi y).2.1 pc = .ok (.putfield ix, 3))
    (kk : ∀ (H1 : Heap) (locs1 : List Loc), va_P G.1 z_cl ((z_wl G M).set (z_off t i) (G.2.2.1 + z_off t i, .inr (cc, (z_oc G.2.2.1 M t i cc).set a v))) H1 → va_S (z_A G.2.2.1) s.heap H1 locs1 → W p l e R s m args below meth c H1 locs1 cells slots Q (F0 m (pc + 3) lsC rest)) :
    W p l e R s m args below meth c H locs cells slots Q (F0 m pc lsC (v :: .ref (G.2.2.1 + z_off t i) :: rest)) := by
  have hcl := z_cl_at cc hcc
  have hTa := hT a ha
  have hfd : z_fd e' a = z_clT e' a := rfl
  rw [hfd, ← hTa] at hlk hfin
  have ha' : a < z_fn cc := by rw [hfn]; exact ha
  cases hf : (z_clT cc a).2.2.2 with
  | true =>
    rw [hf] at hfin
    simp only [cond_true, Bool.and_eq_true, decide_eq_true_eq] at hfin
    exact va_putF (C := z_cn cc) (T := z_clT cc) (N := z_fn cc) hx hb hw (z_lays cc hcc) (z_ty cc) (z_cls_ty cc hcc) (z_cls_nm cc hcc) hown hK hP (z_wl_D G M) hS (z_off t i) he hcl a ha' hlk (fun x q => q) hf (hnm.trans hfin.1) hfin.2 (z_cls_ty cc hcc a ha') hnar hfit (by rw [z_oc_len]; exact ha') hd (fun H1 locs1 q1 q2 q3 => kk H1 locs1 q1 q3)
  | false =>
    exact va_put (C := z_cn cc) (T := z_clT cc) (N := z_fn cc) hx hb hw (z_lays cc hcc) (z_ty cc) (z_cls_ty cc hcc) (z_cls_nm cc hcc) hown hK hP (z_wl_D G M) hS (z_off t i) he hcl a ha' hlk (fun x q => q) hf (z_cls_ty cc hcc a ha') hnar hfit (by rw [z_oc_len]; exact ha') hd (fun H1 locs1 q1 q2 q3 => kk H1 locs1 q1 q3)
theorem z_s_putfield {ix : Nat} (F : z_Fx G L xs p s m meth c y M0) (hcd : z_cd y pc = some (.putfield ix, len, (a, b, e', f), ki, kj)) (h : z_step (y, pc, ls, st, M) = Sum.inl c') (K : z_K G L xs p l e R s m args below meth c Q n0 s0 c') : z_K G L xs p l e R s m args below meth c Q n0 s0 (y, pc, ls, st, M) := by
  obtain ⟨hd, ho, hn⟩ := z_cd_ok hcd
  have hw := F.words args
  obtain ⟨hx, hb, hml, hown, -, -, hnm, hSt⟩ := F
  obtain ⟨-, hsz0, -, -, hK, hwd, hE⟩ := hSt
  simp only [z_step, hcd] at h
  simp only [z_oke, Bool.and_eq_true] at ho
  obtain ⟨⟨⟨⟨⟨ho1, ho2⟩, ho3⟩, ho4⟩, ho5⟩, ho6⟩ := ho
  obtain rfl : len = 3 := Nat.eq_of_beq_eq_true ho1
  have ho2 : e' < 13 := Nat.le_of_ble_eq_true ho2
  have ho3 : a < z_fn e' := Nat.le_of_ble_eq_true ho3
  have ho4 := Nat.eq_of_beq_eq_true ho4
  have hf0 : f = 0 := Nat.eq_of_beq_eq_true ho5
  have ne99 : e' ≠ 99 := by omega
  have hlk := hw _ (hn (.fieldLink (z_nm y).cls ix (z_fd e' a).1 (z_fd e' a).2.1 (z_fd e' a).2.2.1) (by simp [z_need, ne99, hf0]) rfl)
  split at h
  · -- an int or a boolean
    next x t i r =>
    cases hg : ((bif Nat.beq t 32 then Nat.beq e' 3 else decide (z_tc t = some e')) && (Nat.beq b 0 || (Nat.beq b 3 && z_nr 1 x)) && z_g M t i) with
    | false => rw [hg] at h; cases h
    | true =>
      rw [hg] at h
      cases h
      simp only [Bool.and_eq_true, Bool.or_eq_true] at hg
      obtain ⟨⟨g1, g2⟩, g3⟩ := hg
      intro H locs lsC hR hl
      obtain ⟨hP, hsz, hk, hsc, hS⟩ := id hR
      obtain ⟨cc, q1, q2, q3, q4, q5, q6, q7, q8⟩ := z_obj G hk g3 g1
      have hty := z_cls_tc cc q1 a (by rw [q4]; exact ho3)
      rw [q5, ← ho4] at hty
      have hnf : narrow (z_ty cc a) (.int x) = .int x ∧ fits (z_ty cc a) (.int x) = true := by
        rcases g2 with g2 | ⟨g2, g4⟩
        · obtain rfl : b = 0 := Nat.eq_of_beq_eq_true g2
          rcases hty with ⟨-, h1⟩ | ⟨h1, -⟩ | ⟨h1, -⟩ | ⟨h1, -⟩
          · rw [h1]; exact ⟨rfl, rfl⟩
          all_goals cases h1
        · obtain rfl : b = 3 := Nat.eq_of_beq_eq_true g2
          have hx01 : x = 0 ∨ x = 1 := by
            have : (x == 0 || x == 1) = true := g4
            simpa using this
          rcases hty with ⟨h1, -⟩ | ⟨h1, -⟩ | ⟨-, h1⟩ | ⟨h1, -⟩
          · cases h1
          · cases h1
          · rw [h1]; rcases hx01 with rfl | rfl <;> exact ⟨rfl, rfl⟩
          · cases h1
      have hb2 : b ≠ 1 ∧ b ≠ 2 := by
        rcases g2 with g2 | ⟨g2, -⟩ <;> (have := Nat.eq_of_beq_eq_true g2; omega)
      simp only [List.map_cons]
      rw [z_tv_h q6]
      refine z_putrow (e' := e') hx hb hw hown hnm hK hP hS q1 q3 ho2 q4 q7 ho3 hlk ho6 hnf.1 hnf.2 hd fun H1 locs1 hP1 hS1 => ?_
      refine K H1 locs1 lsC ⟨?_, hsz, hk, z_scr_up hsc q6, hS1⟩ hl
      have e1 := z_wl_set G (M' := (M.1, M.2.1, z_up M.2.2.1 t i a x, M.2.2.2)) g3 rfl (fun t' i' hne => z_cE_congr rfl (fun j => z_up_ne hne) (fun j => rfl) (fun j => rfl))
      show va_P _ _ (z_wl G (M.1, M.2.1, z_up M.2.2.1 t i a x, M.2.2.2)) H1
      rw [e1]
      have e2 : z_cE G (M.1, M.2.1, z_up M.2.2.1 t i a x, M.2.2.2) t i = .inr (cc, (z_oc G.2.2.1 M t i cc).set a (.int x)) := by
        unfold z_cE
        rw [q8]
        have q2' : z_co (M.1, M.2.1, z_up M.2.2.1 t i a x, M.2.2.2) t i = some cc := q2
        rw [q2']
        show Sum.inr (cc, z_oc G.2.2.1 _ t i cc) = _
        rw [z_oc_set (M := M) (k := a) (v := .int x) (by rw [q4]; exact ho3)]
        · rw [q5, ← ho4]
          unfold z_fv
          rw [if_neg hb2.1, if_neg hb2.2]
          show Value.int (z_up M.2.2.1 t i a x t i a) = _
          rw [z_up_at, if_pos rfl]
        · intro j hj hne
          unfold z_fv
          show (if _ then _ else if _ then _ else Value.int (z_up M.2.2.1 t i a x t i j)) = _
          rw [z_up_at, if_neg hne]
          rfl
      rw [e2]
      exact hP1
  · -- a long
    next x t i r =>
    cases hg : (decide (z_tc t = some e') && Nat.beq b 1 && z_g M t i) with
    | false => rw [hg] at h; cases h
    | true =>
      rw [hg] at h
      cases h
      simp only [Bool.and_eq_true, decide_eq_true_eq] at hg
      obtain ⟨⟨g1, g2⟩, g3⟩ := hg
      obtain rfl : b = 1 := Nat.eq_of_beq_eq_true g2
      intro H locs lsC hR hl
      obtain ⟨hP, hsz, hk, hsc, hS⟩ := id hR
      have h32 : t ≠ 32 := (z_tc13 t (z_tc_lt' g1) _ g1).2.2
      obtain ⟨cc, q1, q2, q3, q4, q5, q6, q7, q8⟩ := z_obj G hk g3 (cl0 := e') (by rw [z_beq_f h32]; exact decide_eq_true g1)
      have hty := z_cls_tc cc q1 a (by rw [q4]; exact ho3)
      rw [q5, ← ho4] at hty
      have hnf : narrow (z_ty cc a) (.long x) = .long x ∧ fits (z_ty cc a) (.long x) = true := by
        rcases hty with ⟨h1, -⟩ | ⟨-, h1⟩ | ⟨h1, -⟩ | ⟨h1, -⟩
        · cases h1
        · rw [h1]; exact ⟨rfl, rfl⟩
        · cases h1
        · cases h1
      simp only [List.map_cons]
      rw [z_tv_h q6]
      refine z_putrow (e' := e') hx hb hw hown hnm hK hP hS q1 q3 ho2 q4 q7 ho3 hlk ho6 hnf.1 hnf.2 hd fun H1 locs1 hP1 hS1 => ?_
      refine K H1 locs1 lsC ⟨?_, hsz, hk, hsc, hS1⟩ hl
      have e1 := z_wl_set G (M' := (M.1, M.2.1, M.2.2.1, z_up M.2.2.2 t i a x)) g3 rfl (fun t' i' hne => z_cE_congr rfl (fun j => rfl) (fun j => z_up_ne hne) (fun j => rfl))
      show va_P _ _ (z_wl G (M.1, M.2.1, M.2.2.1, z_up M.2.2.2 t i a x)) H1
      rw [e1]
      have e2 : z_cE G (M.1, M.2.1, M.2.2.1, z_up M.2.2.2 t i a x) t i = .inr (cc, (z_oc G.2.2.1 M t i cc).set a (.long x)) := by
        unfold z_cE
        rw [q8]
        have q2' : z_co (M.1, M.2.1, M.2.2.1, z_up M.2.2.2 t i a x) t i = some cc := q2
        rw [q2']
        show Sum.inr (cc, z_oc G.2.2.1 _ t i cc) = _
        rw [z_oc_set (M := M) (k := a) (v := .long x) (by rw [q4]; exact ho3)]
        · rw [q5, ← ho4]
          unfold z_fv
          rw [if_pos rfl]
          show Value.long (z_up M.2.2.2 t i a x t i a) = _
          rw [z_up_at, if_pos rfl]
        · intro j hj hne
          unfold z_fv
          show (if _ then Value.long (z_up M.2.2.2 t i a x t i j) else if _ then _ else _) = _
          rw [z_up_at, if_neg hne]
          rfl
      rw [e2]
      exact hP1
  · -- a reference, while all is made
    next x t i r =>
    cases hg : (decide (z_tc t = some e') && Nat.beq b 2 && Nat.blt x.1 64 && (bif M.1 then false else true) && z_g M t i) with
    | false => rw [hg] at h; cases h
    | true =>
      rw [hg] at h
      simp only [Bool.and_eq_true, decide_eq_true_eq] at hg
      obtain ⟨⟨⟨⟨g1, g2⟩, g4⟩, g5⟩, g3⟩ := hg
      obtain rfl : b = 2 := Nat.eq_of_beq_eq_true g2
      have g4 : x.1 < 64 := Nat.le_of_ble_eq_true g4
      have hM : M.1 = false := by
        cases q : M.1 with
        | false => rfl
        | true => rw [q] at g5; cases g5
      -- the memory behind the write, in the first phase
      have main : ∀ M2 : z_M, z_wl G M2 = z_wl G (false, (M.2.1.1, M.2.1.2.1, M.2.1.2.2.1, z_up M.2.1.2.2.2 t i a (some x)), M.2.2.1, M.2.2.2) → z_nc M2 = z_nc M → z_sl M2 = z_sl M → z_kok M2 → (∀ j k, M2.2.2.1 67 j k = M.2.2.1 67 j k) → z_K G L xs p l e R s m args below meth c Q n0 s0 (y, pc + 3, ls, r, M2) → z_K G L xs p l e R s m args below meth c Q n0 s0 (y, pc, ls, Sum.inr (Sum.inr (Sum.inl x)) :: Sum.inr (Sum.inr (Sum.inl (t, i))) :: r, M) := by
        intro M2 hwl hnc hsl hkok hI K
        intro H locs lsC hR hl
        obtain ⟨hP, hsz, hk, hsc, hS⟩ := id hR
        have h32 : t ≠ 32 := (z_tc13 t (z_tc_lt' g1) _ g1).2.2
        obtain ⟨cc, q1, q2, q3, q4, q5, q6, q7, q8⟩ := z_obj G hk g3 (cl0 := e') (by rw [z_beq_f h32]; exact decide_eq_true g1)
        have hty := z_cls_tc cc q1 a (by rw [q4]; exact ho3)
        rw [q5, ← ho4] at hty
        have hnf : narrow (z_ty cc a) (.ref (z_addr G.2.2.1 x)) = .ref (z_addr G.2.2.1 x) ∧ fits (z_ty cc a) (.ref (z_addr G.2.2.1 x)) = true := by
          rcases hty with ⟨h1, -⟩ | ⟨h1, -⟩ | ⟨h1, -⟩ | ⟨-, h1, h2, h3⟩
          · cases h1
          · cases h1
          · cases h1
          · cases hz : z_ty cc a <;> rw [hz] at h3 <;> first | exact ⟨rfl, rfl⟩ | cases h3
        simp only [List.map_cons]
        rw [z_tv_h q6]
        rw [show z_tv G (Sum.inr (Sum.inr (Sum.inl x))) = .ref (z_addr G.2.2.1 x) from z_tv_h g4]
        have hcell : z_nc M - n0 = z_nc M2 - n0 := by rw [hnc]
        have hslot : z_sl M - s0 = z_sl M2 - s0 := by rw [hsl]
        show W p l e R s m args below meth c H locs (z_nc M - n0) (z_sl M - s0) Q _
        rw [hcell, hslot]
        refine z_putrow (e' := e') hx hb hw hown hnm hK hP hS q1 q3 ho2 q4 q7 ho3 hlk ho6 hnf.1 hnf.2 hd fun H1 locs1 hP1 hS1 => ?_
        refine K H1 locs1 lsC ⟨?_, by rw [show z_nc ((y, pc + 3, ls, r, M2) : z_C).2.2.2.2 = z_nc M from hnc]; exact hsz, hkok, ⟨(hI 1 0).trans hsc.1, fun j hj => (hI 0 j).trans (hsc.2 j hj)⟩, hS1⟩ hl
        show va_P _ _ (z_wl G M2) H1
        rw [hwl]
        have hgr : ∀ t' i' j', z_gr (false, (M.2.1.1, M.2.1.2.1, M.2.1.2.2.1, z_up M.2.1.2.2.2 t i a (some x)), M.2.2.1, M.2.2.2) t' i' j' = if t' = t ∧ i' = i ∧ j' = a then some x else z_gr M t' i' j' := by
          intro t' i' j'
          have := z_gr_up (M := M) (t := t) (i := i) (j := a) (o := some x) (fun q => by rw [hM] at q; cases q) t' i' j'
          rw [hM] at this
          exact this
        have e1 := z_wl_set G (M := M) (M' := (false, (M.2.1.1, M.2.1.2.1, M.2.1.2.2.1, z_up M.2.1.2.2.2 t i a (some x)), M.2.2.1, M.2.2.2)) g3 (by unfold z_nc; rw [hM]) (fun t' i' hne => z_cE_congr rfl (fun j => rfl) (fun j => rfl) (fun j => by rw [hgr, if_neg (fun q => hne ⟨q.1, q.2.1⟩)]))
        rw [e1]
        have e2 : z_cE G (false, (M.2.1.1, M.2.1.2.1, M.2.1.2.2.1, z_up M.2.1.2.2.2 t i a (some x)), M.2.2.1, M.2.2.2) t i = .inr (cc, (z_oc G.2.2.1 M t i cc).set a (.ref (z_addr G.2.2.1 x))) := by
          unfold z_cE
          rw [q8]
          have q2' : z_co (false, (M.2.1.1, M.2.1.2.1, M.2.1.2.2.1, z_up M.2.1.2.2.2 t i a (some x)), M.2.2.1, M.2.2.2) t i = some cc := q2
          rw [q2']
          show Sum.inr (cc, z_oc G.2.2.1 _ t i cc) = _
          rw [z_oc_set (M := M) (k := a) (v := .ref (z_addr G.2.2.1 x)) (by rw [q4]; exact ho3)]
          · rw [q5, ← ho4]
            unfold z_fv
            rw [if_neg (by decide), if_pos rfl, hgr, if_pos ⟨rfl, rfl, rfl⟩]
            rfl
          · intro j hj hne
            unfold z_fv
            rw [hgr, if_neg (c := t = t ∧ i = i ∧ j = a) (fun q => hne q.2.2)]
        rw [e2]
        exact hP1
      have hkk : z_kok M → ∀ (P : Bool) (n' : Nat), (P = true → n' = 0) → z_kok (P, (n', M.2.1.2.1, M.2.1.2.2.1, z_up M.2.1.2.2.2 t i a (some x)), M.2.2.1, M.2.2.2) := by
        intro hk P n' hn'
        refine ⟨fun hp k hk0 => ?_, fun t' i' j' q hq => ?_⟩
        · have hk0 : k < n' := hk0
          rw [hn' hp] at hk0
          omega
        · have hq : z_up M.2.1.2.2.2 t i a (some x) t' i' j' = some q := hq
          unfold z_up at hq
          split at hq
          · cases hq; exact g4
          · exact hk.2 _ _ _ _ hq
      cases hdn : z_done M.2.1.1 (z_up M.2.1.2.2.2 t i a (some x)) with
      | true =>
        simp only [cond_true, hdn] at h
        cases h
        intro H locs lsC hR hl
        have h102 := (z_done_spec hdn).1
        exact main _ (z_turn G hdn) (by unfold z_nc; rw [hM, h102]; rfl) rfl (hkk hR.2.2.1 true 0 (fun _ => rfl)) (fun _ _ => rfl) K H locs lsC hR hl
      | false =>
        simp only [cond_true, hdn, cond_false] at h
        cases h
        intro H locs lsC hR hl
        exact main _ rfl (by unfold z_nc; rw [hM]) rfl (hkk hR.2.2.1 false _ (fun q => by cases q)) (fun _ _ => rfl) K H locs lsC hR hl
  · cases h
end
end
section
/-! makings; jumps by null, by tables; instanceof -/
section
variable {G : z_G} {L : Nat} {xs : Nat → Int32} {p : Program} {l : Launch} {e : Env} {R : Room} {s : State} {m : MethodId} {args : Array Value} {below : List Frame} {meth : Method} {c : Code} {Q : State → Prop} {n0 s0 : Nat} {M0 : z_M}
variable {y pc len a b e' f : Nat} {ki : Int32} {kj : Int64} {ls : List (Option z_V)} {st : List z_V} {M : z_M} {c' : z_C}
/-- the heap ends where our cells end -/
theorem z_sized {H : Heap} {locs : List Loc} {slots : Nat} {g : JFrame} (hsz0 : s.heap.size = G.2.2.1 + n0) (hR : z_Rp G L xs s M H locs) (k : H.size = G.2.2.1 + z_nc M → W p l e R s m args below meth c H locs (z_nc M - n0) slots Q g) : W p l e R s m args below meth c H locs (z_nc M - n0) slots Q g := by
  intro T hT X
  refine k ?_ T hT X
  have h1 := X.heapSize
  rw [hT] at h1
  obtain ⟨hP, hsz, -, -, hS⟩ := hR
  have h2 := hS.1
  rcases Nat.eq_or_lt_of_le (show n0 ≤ z_nc M by omega) with h3 | h3
  · omega
  · have h4 := (hP (z_nc M - 1) _ (z_wl_at G (by omega))).lt
    have h5 : G.2.2.1 + (z_nc M - 1) < H.size := h4
    omega
theorem z_push {M' : z_M} {H H1 : Heap} {locs : List Loc} {cell : va_E} (hR : z_Rp G L xs s M H locs) (hH : H.size = G.2.2.1 + z_nc M) (hn : z_nc M' = z_nc M + 1) (hc : ∀ t' i', ¬ (t', i') = z_un (z_nc M) → z_cE G M' t' i' = z_cE G M t' i') (hcell : z_cE G M' (z_un (z_nc M)).1 (z_un (z_nc M)).2 = cell) (hat : va_at G.1 z_cl (G.2.2.1 + z_nc M, cell) H1) (z1 : H1.size = H.size + 1) (o1 : ∀ q, q < H.size → H1[q]? = H[q]?) (hk : z_kok M') (hsc : z_scr L xs M') : z_Rp G L xs s M' H1 locs := by
  obtain ⟨hP, hsz, -, -, hS⟩ := hR
  refine ⟨?_, by omega, hk, hsc, Nat.le_trans hS.1 (by omega), fun x h1 h2 => (o1 x (Nat.lt_of_lt_of_le h1 hS.1)).trans (hS.2.1 x h1 h2), hS.2.2⟩
  rw [z_wl_push G hn hc, hcell]
  refine (hP.kept (fun k x hx => o1 x.1 ((hP k x hx).lt))).app (fun k x hx => ?_)
  have hz : k < 1 := (List.getElem?_eq_some_iff.mp hx).1
  rw [show k = 0 by omega] at hx
  cases hx
  exact hat
theorem z_scr_zr {M : z_M} {P : Bool} {X : z_X} {J : Nat → Nat → Nat → Int64} {t i : Nat} (h : z_scr L xs M) (ht : t < 64) : z_scr L xs (P, X, z_zr M.2.2.1 t i 0, J) := by
  refine ⟨?_, fun k hk => ?_⟩
  · show z_zr M.2.2.1 t i 0 67 1 0 = _
    rw [z_zr_ne (by omega)]; exact h.1
  · show z_zr M.2.2.1 t i 0 67 0 k = _
    rw [z_zr_ne (by omega)]; exact h.2 k hk
/-- a new object's cell holds the first values -/
theorem z_blank {cc : Nat} {H1 : Heap} {q : Nat} {kC : Class} {M' : z_M} {t i : Nat} (hw : ∀ w ∈ z_tbl, w.before args s = true) (hK : va_K G.1 z_cl (z_tys G) s) (hcc : cc < 13) (hkC : s.vm.classes[G.1.1 cc]? = some kC) (e1 : H1[q]? = some (blank (G.1.1 cc) kC)) (hv : ∀ j, j < z_fn cc → defaultValue (z_ty cc j) = z_fv G.2.2.1 M' t i j ((z_ftl.getD cc []).getD j 9)) : va_at G.1 z_cl (q, .inr (cc, z_oc G.2.2.1 M' t i cc)) H1 := by
  have hcl := z_cl_at cc hcc
  have hKn := hK.1 cc _ hcl
  refine ⟨_, hcl, (u_born (z_ty cc) hw (z_lays cc hcc) hKn hkC e1 (z_cls_ty cc hcc)).to ?_⟩
  intro j hj
  show defaultValue (z_ty cc j) = vp_V (z_oc G.2.2.1 M' t i cc) j
  unfold vp_V
  rw [List.getD_eq_getElem?_getD, z_oc_at hj]
  exact hv j hj
/-- what a new object says -/
theorem z_new_spec {M' : z_M} {t i : Nat} (h : z_new M a = some (M', t, i)) (ha : a < 13) (hk : z_kok M) (hsc : z_scr L xs M) : (t, i) = z_un (z_nc M) ∧ z_nc M' = z_nc M + 1 ∧ z_sl M' = z_sl M + z_fn a ∧ (∀ t' i', ¬ (t', i') = z_un (z_nc M) → z_cE G M' t' i' = z_cE G M t' i') ∧ z_cE G M' (z_un (z_nc M)).1 (z_un (z_nc M)).2 = .inr (a, z_oc G.2.2.1 M' t i a) ∧ (∀ j, j < z_fn a → defaultValue (z_ty a j) = z_fv G.2.2.1 M' t i j ((z_ftl.getD a []).getD j 9)) ∧ z_kok M' ∧ z_scr L xs M' ∧ t < 64 := by
  have hlen := z_cls_len a ha
  unfold z_new at h
  dsimp only at h
  cases hM : M.1 with
  | true =>
    rw [hM] at h
    cases hm : (([0, 3, 5, 6] : List Nat).contains a) with
    | false => rw [hm] at h; cases h
    | true =>
      rw [hm] at h
      simp only [cond_true, Option.some.injEq, Prod.mk.injEq] at h
      obtain ⟨e1, e2, e3⟩ := h
      subst e2; subst e3
      have hmem : a ∈ ([0, 3, 5, 6] : List Nat) := by simpa using hm
      obtain ⟨-, c2, c3, -⟩ := z_cls_sh a hmem
      have hnc : z_nc M = 102 + M.2.1.1 := by unfold z_nc; rw [hM]; rfl
      have hun : z_un (z_nc M) = (32, M.2.1.1) := by
        rw [hnc, z_un_out (by omega)]
        congr 1
        omega
      have g1 : ∀ j, M'.2.2.1 32 M.2.1.1 j = 0 := fun j => by rw [← e1]; exact z_zr_at
      have g2 : z_co M' 32 M.2.1.1 = some a := by
        rw [← e1]
        show some (z_u1 M.2.1.2.2.1 M.2.1.1 a M.2.1.1) = some a
        unfold z_u1
        rw [if_pos rfl]
      refine ⟨hun.symm, ?_, ?_, ?_, ?_, ?_, ?_, ?_, Nat.le_of_ble_eq_true rfl⟩
      · rw [hnc, ← e1]
        show 102 + (M.2.1.1 + 1) = _
        omega
      · rw [← e1]
        show M.2.1.2.1 + _ = M.2.1.2.1 + _
        rw [hlen]
      · intro t1 i1 hne
        rw [hun] at hne
        rw [← e1]
        refine z_cE_congr ?_ (fun j => z_zr_ne (fun q => hne (by rw [q.1, q.2]))) (fun j => rfl) (fun j => ?_)
        · unfold z_co
          by_cases h32 : t1 = 32
          · subst h32
            show some (z_u1 M.2.1.2.2.1 M.2.1.1 a i1) = some _
            unfold z_u1
            rw [if_neg (fun q => hne (by rw [q]))]
          · rw [z_beq_f h32]
            rfl
        · unfold z_gr
          rw [hM]
      · rw [hun]
        show z_cE G M' 32 M.2.1.1 = _
        unfold z_cE
        rw [g2]
        rfl
      · intro j hj
        rw [c3]
        have h4 : ∀ j, j < 4 → (z_ftl.getD 3 []).getD j 9 = 0 := by decide
        have h5 := z_cls_tc a ha j hj
        rw [c3] at h5
        have hj4 : j < 4 := by omega
        rw [h4 j hj4] at h5 ⊢
        rcases h5 with ⟨-, h6⟩ | ⟨h6, -⟩ | ⟨h6, -⟩ | ⟨h6, -⟩
        · rw [h6]
          unfold z_fv
          rw [if_neg (by decide), if_neg (by decide), g1]
          rfl
        all_goals cases h6
      · refine ⟨fun _ k1 hk1 => ?_, fun t1 i1 j1 q1 hq1 => ?_⟩
        · rw [← e1] at hk1 ⊢
          have hk1 : k1 < M.2.1.1 + 1 := hk1
          show z_u1 M.2.1.2.2.1 M.2.1.1 a k1 ∈ _
          unfold z_u1
          split
          · exact hmem
          · next hne =>
            have hlt : k1 < M.2.1.1 := by omega
            exact hk.1 hM k1 hlt
        · rw [← e1] at hq1
          exact hk.2 _ _ _ _ hq1
      · rw [← e1]
        exact z_scr_zr hsc (Nat.le_of_ble_eq_true rfl)
  | false =>
    rw [hM] at h
    have hnc : z_nc M = M.2.1.1 := by unfold z_nc; rw [hM]; rfl
    rw [← hnc] at h
    cases hm : decide (z_tc (z_un (z_nc M)).1 = some a) with
    | false => rw [hm] at h; cases h
    | true =>
      rw [hm] at h
      simp only [cond_true, cond_false, Option.some.injEq, Prod.mk.injEq] at h
      obtain ⟨e1, e2, e3⟩ := h
      have htc := of_decide_eq_true hm
      have hlt := z_un_lt (z_nc M)
      obtain ⟨-, hta, h32⟩ := z_tc13 _ hlt _ htc
      have e4 : (t, i) = z_un (z_nc M) := by rw [← e2, ← e3]
      have g1 : ∀ j, M'.2.2.1 t i j = 0 := fun j => by rw [← e1, ← e2, ← e3]; exact z_zr_at
      have g3 : ∀ j, M'.2.2.2 t i j = 0 := fun j => by rw [← e1, ← e2, ← e3]; exact z_zr_at
      have g4 : ∀ j, z_gr M' t i j = none := fun j => by rw [← e1, ← e2, ← e3]; exact z_zr_at
      have g2 : z_co M' (z_un (z_nc M)).1 (z_un (z_nc M)).2 = some a := by unfold z_co; rw [z_beq_f h32]; exact htc
      refine ⟨e4, ?_, ?_, ?_, ?_, ?_, ?_, ?_, by rw [← e2]; exact hlt⟩
      · rw [hnc, ← e1]
        rw [hnc]
        rfl
      · rw [← e1]
        show M.2.1.2.1 + _ = M.2.1.2.1 + _
        rw [hlen]
      · intro t1 i1 hne
        have hne2 : ¬ (t1 = (z_un (z_nc M)).1 ∧ i1 = (z_un (z_nc M)).2) := fun q => hne (by rw [q.1, q.2])
        rw [← e1]
        refine z_cE_congr rfl (fun j => z_zr_ne hne2) (fun j => z_zr_ne hne2) (fun j => ?_)
        unfold z_gr
        rw [hM]
        show z_zr M.2.1.2.2.2 _ _ none t1 i1 j = _
        rw [z_zr_ne hne2]
        rfl
      · unfold z_cE
        rw [hta, g2, e2, e3]
        rfl
      · intro j hj
        have h5 := z_cls_tc a ha j hj
        unfold z_fv
        rcases h5 with ⟨h6, h7⟩ | ⟨h6, h7⟩ | ⟨h6, h7⟩ | ⟨h6, h7, -⟩
        · rw [h6, h7, if_neg (by decide), if_neg (by decide), g1]
          rfl
        · rw [h6, h7, if_pos rfl, g3]
          rfl
        · rw [h6, h7, if_neg (by decide), if_neg (by decide), g1]
          rfl
        · rw [h6, h7, if_neg (by decide), if_pos rfl, g4]
          rfl
      · refine ⟨fun q => ?_, fun t1 i1 j1 q1 hq1 => ?_⟩
        · rw [← e1] at q
          cases q
        · rw [← e1] at hq1
          have hq1 : z_zr M.2.1.2.2.2 _ _ none t1 i1 j1 = some q1 := hq1
          unfold z_zr at hq1
          split at hq1
          · cases hq1
          · exact hk.2 _ _ _ _ hq1
      · rw [← e1]
        exact z_scr_zr hsc hlt
theorem z_s_new {ix : Nat} (F : z_Fx G L xs p s m meth c y M0) (hn0 : n0 = z_nc M0) (hcd : z_cd y pc = some (.new ix, len, (a, b, e', f), ki, kj)) (h : z_step (y, pc, ls, st, M) = Sum.inl c') (hRc : z_nc c'.2.2.2.2 - n0 ≤ R.cells) (hRs : z_sl c'.2.2.2.2 - s0 ≤ R.slots) (hs0 : s0 ≤ z_sl M) (K : z_K G L xs p l e R s m args below meth c Q n0 s0 c') : z_K G L xs p l e R s m args below meth c Q n0 s0 (y, pc, ls, st, M) := by
  obtain ⟨hd, ho, hn⟩ := z_cd_ok hcd
  have hw := F.words args
  obtain ⟨hx, hb, hml, hown, -, -, hnm, hSt⟩ := F
  obtain ⟨-, hsz0, -, -, hK, hwd, hE⟩ := hSt
  rw [← hn0] at hsz0
  simp only [z_step, hcd] at h
  simp only [z_oke, Bool.and_eq_true] at ho
  obtain rfl : len = 3 := Nat.eq_of_beq_eq_true ho.1
  have ha : a < 13 := Nat.le_of_ble_eq_true ho.2
  have hl1 := hw _ (hn (.classLink (z_nm y).cls ix (z_cn a)) (by simp [z_need]) rfl)
  have hl2 := hw _ (hn (.instantiable (z_cn a) (z_fn a)) (by simp [z_need]) rfl)
  have hl3 := hw _ (hn (.initialized (z_cn a)) (by simp [z_need]) rfl)
  have hcl := z_cl_at a ha
  have hKn := hK.1 a _ hcl
  split at h
  · next M' t i hnew =>
    cases h
    intro H locs lsC hR hl
    obtain ⟨hP, hsz, hk, hsc, hS⟩ := id hR
    refine z_sized hsz0 hR fun hH => ?_
    obtain ⟨q1, q2, q3, q4, q5, q6, q7, q8, q9⟩ := z_new_spec (G := G) hnew ha hk hsc
    have hRc : z_nc M' - n0 ≤ R.cells := hRc
    have hRs : z_sl M' - s0 ≤ R.slots := hRs
    have hsz : s.heap.size ≤ G.2.2.1 + z_nc M := hsz
    have hle : n0 ≤ z_nc M := by omega
    refine W.newcK hx hb hown hl1 hl2 hl3 rfl hd (show z_nc M - n0 + 1 ≤ _ by omega) (show z_sl M - s0 + z_fn a ≤ _ by omega) hKn.2.1 rfl fun H1 kC hkC e1 z1 o1 => ?_
    have hR1 : z_Rp G L xs s M' H1 locs := z_push hR hH q2 q4 q5 (by rw [← hH]; exact z_blank hw hK ha hkC e1 q6) z1 o1 q7 q8
    have K1 := K H1 locs lsC hR1 hl
    have ec : z_nc M' - n0 = z_nc M - n0 + 1 := by omega
    have es : z_sl M' - s0 = z_sl M - s0 + z_fn a := by omega
    simp only [List.map_cons] at K1
    rw [ec, es, z_tv_h q9] at K1
    have hoff : z_off t i = z_nc M := by
      have := z_off_un (z_nc M)
      rw [← q1] at this
      exact this
    rw [hoff, ← hH] at K1
    exact K1
  · cases h
/-- what a new row says -/
theorem z_newa_spec {x : Int32} {M' : z_M} {t i : Nat} (h : z_newa M a x = some (M', t, i)) (hk : z_kok M) (hsc : z_scr L xs M) : ∃ n, z_ta t = some (a, n) ∧ (t, i) = z_un (z_nc M) ∧ ¬ x < 0 ∧ x.toNatClampNeg = n ∧ z_nc M' = z_nc M + 1 ∧ z_sl M' = z_sl M + n ∧ (∀ t' i', ¬ (t', i') = z_un (z_nc M) → z_cE G M' t' i' = z_cE G M t' i') ∧ z_kok M' ∧ z_scr L xs M' ∧ t < 64 ∧ (∀ j, M'.2.2.1 t i j = 0) ∧ (∀ j, M'.2.2.2 t i j = 0) ∧ (∀ j, z_gr M' t i j = none) ∧ n < 1000 ∧ a < 5 := by
  unfold z_newa at h
  cases hM : M.1 with
  | true => rw [hM] at h; cases h
  | false =>
    rw [hM] at h
    dsimp only [cond_false] at h
    have hnc : z_nc M = M.2.1.1 := by unfold z_nc; rw [hM]; rfl
    rw [← hnc] at h
    split at h
    · cases h
    · next el n hta =>
      cases hg : (Nat.beq el a && z_in x (n + 1) && Nat.beq x.toNatClampNeg n) with
      | false => rw [hg] at h; cases h
      | true =>
        rw [hg] at h
        cases h
        simp only [Bool.and_eq_true] at hg
        obtain ⟨⟨g1, g2⟩, g3⟩ := hg
        obtain rfl : el = a := Nat.eq_of_beq_eq_true g1
        have g3 := Nat.eq_of_beq_eq_true g3
        have hlt := z_un_lt (z_nc M)
        obtain ⟨k5, k6, -⟩ := z_ta5 _ hlt _ _ hta
        refine ⟨n, hta, rfl, fun q => z_in_of g2 (Or.inl q), g3, by unfold z_nc; rw [hM]; rfl, rfl, fun t' i' hne => ?_, ⟨fun q => (by cases q), fun t' i' j' q hq => ?_⟩, z_scr_zr hsc hlt, hlt, fun j => z_zr_at, fun j => z_zr_at, fun j => z_zr_at, k6, k5⟩
        · have hne2 : ¬ (t' = (z_un (z_nc M)).1 ∧ i' = (z_un (z_nc M)).2) := fun q => hne (by rw [q.1, q.2])
          refine z_cE_congr rfl (fun j => z_zr_ne hne2) (fun j => z_zr_ne hne2) (fun j => ?_)
          unfold z_gr
          rw [hM]
          show z_zr M.2.1.2.2.2 _ _ none t' i' j = _
          rw [z_zr_ne hne2]
          rfl
        · have hq : z_zr M.2.1.2.2.2 _ _ none t' i' j' = some q := hq
          unfold z_zr at hq
          split at hq
          · cases hq
          · exact hk.2 _ _ _ _ hq
end
end
section
/-! rows made; jumps by null and by tables; instanceof -/
section
variable {G : z_G} {L : Nat} {xs : Nat → Int32} {p : Program} {l : Launch} {e : Env} {R : Room} {s : State} {m : MethodId} {args : Array Value} {below : List Frame} {meth : Method} {c : Code} {Q : State → Prop} {n0 s0 : Nat} {M0 : z_M}
variable {y pc len a b e' f : Nat} {ki : Int32} {kj : Int64} {ls : List (Option z_V)} {st : List z_V} {M : z_M} {c' : z_C}
theorem z_off_eq {t i k : Nat} (h : (t, i) = z_un k) : z_off t i = k := by
  have := z_off_un k
  rw [← h] at this
  exact this
theorem z_s_newarray {ty : ArrayType} (F : z_Fx G L xs p s m meth c y M0) (hn0 : n0 = z_nc M0) (hcd : z_cd y pc = some (.newarray ty, len, (a, b, e', f), ki, kj)) (h : z_step (y, pc, ls, st, M) = Sum.inl c') (hRc : z_nc c'.2.2.2.2 - n0 ≤ R.cells) (hRs : z_sl c'.2.2.2.2 - s0 ≤ R.slots) (hs0 : s0 ≤ z_sl M) (K : z_K G L xs p l e R s m args below meth c Q n0 s0 c') : z_K G L xs p l e R s m args below meth c Q n0 s0 (y, pc, ls, st, M) := by
  obtain ⟨hd, ho, hn⟩ := z_cd_ok hcd
  have hw := F.words args
  obtain ⟨hx, hb, hml, hown, -, -, hnm, hSt⟩ := F
  obtain ⟨-, hsz0, -, -, hK, hwd, hE⟩ := hSt
  rw [← hn0] at hsz0
  simp only [z_step, hcd] at h
  simp only [z_oke, Bool.and_eq_true, Bool.or_eq_true, decide_eq_true_eq] at ho
  obtain ⟨ho1, ho2⟩ := ho
  obtain rfl : len = 2 := Nat.eq_of_beq_eq_true ho1
  have hl1 := hw _ (hn (.arrayClass (if a = 0 then .int else .long)) (by simp [z_need]) rfl)
  split at h
  · next x r =>
    split at h
    · next M' t i hnew =>
      cases h
      intro H locs lsC hR hl
      have hR : z_Rp G L xs s M H locs := hR
      show W p l e R s m args below meth c H locs (z_nc M - n0) (z_sl M - s0) Q _
      refine z_sized hsz0 hR fun hH => ?_
      obtain ⟨n, q1, q2, q3, q4, q5, q6, q7, q8, q9, q10, q11, q12, q13, q14, q15⟩ := z_newa_spec (G := G) hnew hR.2.2.1 hR.2.2.2.1
      have hRc : z_nc M' - n0 ≤ R.cells := hRc
      have hRs : z_sl M' - s0 ≤ R.slots := hRs
      have hle : n0 ≤ z_nc M := by have := hR.2.1; omega
      have key : ∀ (ft : FieldType), newarray.typeOf ty = ft → (Cond.arrayClass ft).before args s = true → (z_tys G)[a]? = some (G.2.1 a, ft) → componentBytes ft ≤ 8 → (∀ cA, cA = G.2.1 a → vp_cell cA (n, z_ac G.2.2.1 M' t i a n) = arrV cA n (fun _ => defaultValue ft)) → (∀ U cA, va_RA U cA ft → U.vm.findClass ("[" ++ ft.toString) = some cA) → W p l e R s m args below meth c H locs (z_nc M - n0) (z_sl M - s0) Q (F0 m pc lsC (List.map (z_tv G) (Sum.inl x :: r))) := by
        intro ft hft harr hty hcb hcell hra
        subst hft
        refine va_newaK hx hb harr rfl hd rfl q3 q4 ?_ (by omega) (by omega) hH fun H1 cA e1 z1 o1 hAr hNm => ?_
        · have : n * componentBytes (newarray.typeOf ty) ≤ n * 8 := Nat.mul_le_mul_left _ hcb
          omega
        · have hcA : cA = G.2.1 a := by
            have := hra s _ (hK.2 a _ hty).2
            exact Option.some.inj (hNm.symm.trans this)
          have hce : z_cE G M' (z_un (z_nc M)).1 (z_un (z_nc M)).2 = .inl (G.2.1 a, n, z_ac G.2.2.1 M' t i a n) := by
            rw [← q2]
            unfold z_cE
            rw [q1]
          have hR1 : z_Rp G L xs s M' H1 locs := z_push hR hH q5 q7 hce (by
            show H1[G.2.2.1 + z_nc M]? = some (vp_cell _ _)
            rw [hcell _ rfl, e1, hcA]) (by omega) (fun q hq => o1 q (by omega)) q8 q9
          have K1 := K H1 locs lsC hR1 hl
          have ec : z_nc M' - n0 = z_nc M - n0 + 1 := by omega
          have es : z_sl M' - s0 = z_sl M - s0 + n := by omega
          simp only [List.map_cons] at K1
          rw [ec, es, z_tv_h q10, z_off_eq q2] at K1
          exact K1
      rcases ho2 with ⟨rfl, ha⟩ | ⟨rfl, ha⟩
      · obtain rfl : a = 0 := Nat.eq_of_beq_eq_true ha
        refine key .int rfl hl1 rfl (by decide) (fun cA _ => ?_) (fun U cA q => q)
        show vp_cell cA (n, Sum.inl (fun j => M'.2.2.1 t i j)) = _
        rw [vp_cell_i]
        simp only [q11]
        rfl
      · obtain rfl : a = 1 := Nat.eq_of_beq_eq_true ha
        refine key .long rfl hl1 rfl (by decide) (fun cA _ => ?_) (fun U cA q => q)
        show vp_cell cA (n, Sum.inr (Sum.inl (fun j => M'.2.2.2 t i j))) = _
        rw [vp_cell_l]
        simp only [q12]
        rfl
    · cases h
  · cases h
theorem z_s_anewarray {ix : Nat} (F : z_Fx G L xs p s m meth c y M0) (hn0 : n0 = z_nc M0) (hcd : z_cd y pc = some (.anewarray ix, len, (a, b, e', f), ki, kj)) (h : z_step (y, pc, ls, st, M) = Sum.inl c') (hRc : z_nc c'.2.2.2.2 - n0 ≤ R.cells) (hRs : z_sl c'.2.2.2.2 - s0 ≤ R.slots) (hs0 : s0 ≤ z_sl M) (K : z_K G L xs p l e R s m args below meth c Q n0 s0 c') : z_K G L xs p l e R s m args below meth c Q n0 s0 (y, pc, ls, st, M) := by
  obtain ⟨hd, ho, hn⟩ := z_cd_ok hcd
  have hw := F.words args
  obtain ⟨hx, hb, hml, hown, -, -, hnm, hSt⟩ := F
  obtain ⟨-, hsz0, -, -, hK, hwd, hE⟩ := hSt
  rw [← hn0] at hsz0
  simp only [z_step, hcd] at h
  simp only [z_oke, Bool.and_eq_true, Bool.or_eq_true] at ho
  obtain ⟨ho1, ho2⟩ := ho
  obtain rfl : len = 3 := Nat.eq_of_beq_eq_true ho1
  have ha : a = 2 ∨ a = 3 ∨ a = 4 := by
    rcases ho2 with (q | q) | q
    · exact Or.inl (Nat.eq_of_beq_eq_true q)
    · exact Or.inr (Or.inl (Nat.eq_of_beq_eq_true q))
    · exact Or.inr (Or.inr (Nat.eq_of_beq_eq_true q))
  have hl1 := hw _ (hn (.classLink (z_nm y).cls ix (z_ec a)) (by simp [z_need]) rfl)
  have hl2 := hw _ (hn (.arrayOver (.object (z_ec a))) (by simp [z_need]) rfl)
  have hty : (z_tys G)[a]? = some (G.2.1 a, .object (z_ec a)) := by rcases ha with rfl | rfl | rfl <;> rfl
  split at h
  · next x r =>
    split at h
    · next M' t i hnew =>
      cases h
      intro H locs lsC hR hl
      have hR : z_Rp G L xs s M H locs := hR
      show W p l e R s m args below meth c H locs (z_nc M - n0) (z_sl M - s0) Q _
      refine z_sized hsz0 hR fun hH => ?_
      obtain ⟨n, q1, q2, q3, q4, q5, q6, q7, q8, q9, q10, q11, q12, q13, q14, q15⟩ := z_newa_spec (G := G) hnew hR.2.2.1 hR.2.2.2.1
      have hRc : z_nc M' - n0 ≤ R.cells := hRc
      have hRs : z_sl M' - s0 ≤ R.slots := hRs
      have hle : n0 ≤ z_nc M := by have := hR.2.1; omega
      refine W.anew hx hb hown hl1 hl2 rfl hd rfl q3 (by omega) (by omega) (by omega) fun cA kA comp f1 f2 f3 f4 => ?_
      have hcA : cA = G.2.1 a := by
        obtain ⟨kA2, comp2, r1, r2, r3, r4⟩ := (hK.2 a _ hty).2
        exact Option.some.inj (f1.symm.trans r4)
      generalize hH1 : H.push ({ cls := cA, slots := Array.replicate x.toNatClampNeg .null, vm := .none } : Cell) = H1
      have z1 : H1.size = H.size + 1 := by rw [← hH1, Array.size_push]
      have e1 : H1[H.size]? = some (arrV cA x.toNatClampNeg (fun _ => .null)) := by rw [← hH1, Array.getElem?_push_size, ← arrV_new]
      have o1 : ∀ q : Nat, q < H.size → H1[q]? = H[q]? := fun q hq => by rw [← hH1, Array.getElem?_push, if_neg (Nat.ne_of_lt hq)]
      have hce : z_cE G M' (z_un (z_nc M)).1 (z_un (z_nc M)).2 = .inl (G.2.1 a, n, .inr (.inr (.inr (.inr (fun _ => none))))) := by
        rw [← q2]
        unfold z_cE
        rw [q1]
        dsimp only
        congr 3
        unfold z_ac
        rw [if_neg (by omega), if_neg (by omega)]
        congr 4
        funext j
        rw [q13]
        split <;> rfl
      have hR1 : z_Rp G L xs s M' H1 locs := z_push hR hH q5 q7 hce (by
        show H1[G.2.2.1 + z_nc M]? = some (vp_cell _ _)
        rw [vp_cell_q, ← hH, e1, hcA, q4]
        rfl) z1 o1 q8 q9
      have K1 := K H1 locs lsC hR1 hl
      have ec : z_nc M' - n0 = z_nc M - n0 + 1 := by omega
      have es : z_sl M' - s0 = z_sl M - s0 + x.toNatClampNeg := by omega
      simp only [List.map_cons] at K1
      rw [ec, es, z_tv_h q10, z_off_eq q2, ← hH] at K1
      exact K1
    · cases h
  · cases h
theorem z_s_ifnull {off : Int} (F : z_Fx G L xs p s m meth c y M0) (hcd : z_cd y pc = some (.ifnull off, len, (a, b, e', f), ki, kj)) (h : z_step (y, pc, ls, st, M) = Sum.inl c') (K : z_K G L xs p l e R s m args below meth c Q n0 s0 c') : z_K G L xs p l e R s m args below meth c Q n0 s0 (y, pc, ls, st, M) := by
  obtain ⟨hd, ho, hn⟩ := z_cd_ok hcd
  obtain ⟨hx, hb, -⟩ := F
  simp only [z_step, hcd] at h
  simp only [z_oke, z_tok, Bool.and_eq_true, decide_eq_true_eq] at ho
  obtain ⟨ho1, ho2⟩ := ho
  obtain rfl : len = 3 := Nat.eq_of_beq_eq_true ho1
  split at h
  · cases h
    intro H locs lsC hR hl
    exact lv_ifnullN hx hb hd ho2 (K H locs lsC hR hl)
  · next q r =>
    obtain ⟨t, i⟩ := q
    cases h9 : Nat.blt t 64 with
    | false => rw [h9] at h; cases h
    | true =>
      rw [h9] at h
      cases h
      intro H locs lsC hR hl
      simp only [List.map_cons]
      rw [z_tv_h (Nat.le_of_ble_eq_true h9)]
      exact lv_ifnull hx hb hd (K H locs lsC hR hl)
  · cases h
theorem z_s_ifnonnull {off : Int} (F : z_Fx G L xs p s m meth c y M0) (hcd : z_cd y pc = some (.ifnonnull off, len, (a, b, e', f), ki, kj)) (h : z_step (y, pc, ls, st, M) = Sum.inl c') (K : z_K G L xs p l e R s m args below meth c Q n0 s0 c') : z_K G L xs p l e R s m args below meth c Q n0 s0 (y, pc, ls, st, M) := by
  obtain ⟨hd, ho, hn⟩ := z_cd_ok hcd
  obtain ⟨hx, hb, -⟩ := F
  simp only [z_step, hcd] at h
  simp only [z_oke, z_tok, Bool.and_eq_true, decide_eq_true_eq] at ho
  obtain ⟨ho1, ho2⟩ := ho
  obtain rfl : len = 3 := Nat.eq_of_beq_eq_true ho1
  split at h
  · cases h
    intro H locs lsC hR hl
    exact lv_ifnonnullN hx hb hd (K H locs lsC hR hl)
  · next q r =>
    obtain ⟨t, i⟩ := q
    cases h9 : Nat.blt t 64 with
    | false => rw [h9] at h; cases h
    | true =>
      rw [h9] at h
      cases h
      intro H locs lsC hR hl
      simp only [List.map_cons]
      rw [z_tv_h (Nat.le_of_ble_eq_true h9)]
      exact lv_ifnonnull hx hb hd ho2 (K H locs lsC hR hl)
  · cases h
end
end
section
/-! switches and instanceof -/
theorem z_ofInt_iff {x : Int32} {k : Int} (h1 : -1000 ≤ k) (h2 : k ≤ 3000) : x = Int32.ofInt k ↔ x.toInt = k := by
  constructor
  · rintro rfl
    rw [Int32.toInt_ofInt]
    have hsz : ((Int32.size : Nat) : Int) = 4294967296 := rfl
    exact Int.bmod_eq_of_le (by rw [hsz]; omega) (by rw [hsz]; omega)
  · intro h
    rw [← h, Int32.ofInt_toInt]
theorem z_tsel_spec {pc : Nat} {x : Int32} {d : Int} : ∀ (os : List Int) (k : Int), -1000 ≤ k → k + os.length ≤ 3000 →
    (∃ (j : Nat) (o : Int), os[j]? = some o ∧ x.toInt = k + j ∧ z_tsel pc x d os k = z_tg pc o) ∨ ((x.toInt < k ∨ k + os.length ≤ x.toInt) ∧ z_tsel pc x d os k = z_tg pc d) := by
  intro os
  induction os with
  | nil =>
    intro k h1 h2
    refine Or.inr ⟨?_, rfl⟩
    simp only [List.length_nil]
    omega
  | cons o os ih =>
    intro k h1 h2
    simp only [List.length_cons] at h2 ⊢
    unfold z_tsel
    by_cases hx : x = Int32.ofInt k
    · rw [if_pos hx]
      exact Or.inl ⟨0, o, rfl, by rw [(z_ofInt_iff h1 (by omega)).mp hx]; omega, rfl⟩
    · rw [if_neg hx]
      have hne : x.toInt ≠ k := fun q => hx ((z_ofInt_iff h1 (by omega)).mpr q)
      rcases ih (k + 1) (by omega) (by omega) with ⟨j, o', q1, q2, q3⟩ | ⟨q1, q2⟩
      · exact Or.inl ⟨j + 1, o', q1, by omega, q3⟩
      · refine Or.inr ⟨?_, q2⟩
        omega
theorem z_tg_int {pc : Nat} {o : Int} (h : 0 ≤ (pc : Int) + o) : (pc : Int) + o = ((z_tg pc o : Nat) : Int) := by
  unfold z_tg
  omega
theorem z_lsel_spec {pc : Nat} {x : Int32} {d : Int} : ∀ ps : List (Int × Int), (∀ q ∈ ps, -1000 ≤ q.1 ∧ q.1 ≤ 1000) → z_lsel pc x d ps = z_tg pc (Op.lookupswitch.offset ps d x.toInt) := by
  intro ps
  induction ps with
  | nil => intro _; rfl
  | cons q ps ih =>
    intro h
    obtain ⟨a, o⟩ := q
    have h1 := h (a, o) List.mem_cons_self
    unfold z_lsel
    rw [Op.lookupswitch.offset_cons]
    by_cases hx : x = Int32.ofInt a
    · rw [if_pos hx, if_pos ((z_ofInt_iff h1.1 (by have := h1.2; dsimp only at this; omega)).mp hx).symm]
    · rw [if_neg hx, if_neg (fun q => hx ((z_ofInt_iff h1.1 (by have := h1.2; dsimp only at this; omega)).mpr q.symm)), ih (fun q hq => h q (List.mem_cons_of_mem _ hq))]
theorem z_lofs {ps : List (Int × Int)} {d k : Int} {P : Int → Prop} (hd : P d) (h : ∀ q ∈ ps, P q.2) : P (Op.lookupswitch.offset ps d k) := by
  induction ps with
  | nil => exact hd
  | cons q ps ih =>
    obtain ⟨a, o⟩ := q
    rw [Op.lookupswitch.offset_cons]
    split
    · exact h (a, o) List.mem_cons_self
    · exact ih (fun q hq => h q (List.mem_cons_of_mem _ hq))
section
variable {G : z_G} {L : Nat} {xs : Nat → Int32} {p : Program} {l : Launch} {e : Env} {R : Room} {s : State} {m : MethodId} {args : Array Value} {below : List Frame} {meth : Method} {c : Code} {Q : State → Prop} {n0 s0 : Nat} {M0 : z_M}
variable {y pc len a b e' f : Nat} {ki : Int32} {kj : Int64} {ls : List (Option z_V)} {st : List z_V} {M : z_M} {c' : z_C}
theorem z_s_tableswitch {d lo hi : Int} {os : Array Int} (F : z_Fx G L xs p s m meth c y M0) (hcd : z_cd y pc = some (.tableswitch d lo hi os, len, (a, b, e', f), ki, kj)) (h : z_step (y, pc, ls, st, M) = Sum.inl c') (K : z_K G L xs p l e R s m args below meth c Q n0 s0 c') : z_K G L xs p l e R s m args below meth c Q n0 s0 (y, pc, ls, st, M) := by
  obtain ⟨hd, ho, hn⟩ := z_cd_ok hcd
  obtain ⟨hx, hb, -⟩ := F
  simp only [z_step, hcd] at h
  simp only [z_oke, Bool.and_eq_true, decide_eq_true_eq] at ho
  obtain ⟨⟨⟨⟨⟨h1, h2⟩, h3⟩, h4⟩, h5⟩, h6⟩ := ho
  split at h
  · next x r =>
    cases h
    intro H locs lsC hR hl
    have hlen : (os.toList.length : Int) = hi + 1 - lo := by rw [Array.length_toList]; omega
    rcases z_tsel_spec (pc := pc) (x := x) (d := d) os.toList lo h2 (by omega) with ⟨j, o, q1, q2, q3⟩ | ⟨q1, q2⟩
    · rw [q3] at K
      have hj : j < os.toList.length := (List.getElem?_eq_some_iff.mp q1).1
      have h7 : 0 ≤ (pc : Int) + o := of_decide_eq_true (List.all_eq_true.mp h6 o (List.mem_of_getElem? q1))
      refine lv_tableIn hx hb hd (by omega) (by omega) (off := o) ?_ (z_tg_int h7) (K H locs lsC hR hl)
      rw [show (x.toInt - lo).toNat = j by omega, ← Array.getElem?_toList]
      exact q1
    · rw [q2] at K
      exact lv_tableOut hx hb hd (by omega) (z_tg_int h5) (K H locs lsC hR hl)
  · cases h
theorem z_s_lookupswitch {d : Int} {ps : Array (Int × Int)} (F : z_Fx G L xs p s m meth c y M0) (hcd : z_cd y pc = some (.lookupswitch d ps, len, (a, b, e', f), ki, kj)) (h : z_step (y, pc, ls, st, M) = Sum.inl c') (K : z_K G L xs p l e R s m args below meth c Q n0 s0 c') : z_K G L xs p l e R s m args below meth c Q n0 s0 (y, pc, ls, st, M) := by
  obtain ⟨hd, ho, hn⟩ := z_cd_ok hcd
  obtain ⟨hx, hb, -⟩ := F
  simp only [z_step, hcd] at h
  simp only [z_oke, Bool.and_eq_true, decide_eq_true_eq] at ho
  obtain ⟨⟨h1, h2⟩, h3⟩ := ho
  have h4 : ∀ q ∈ ps.toList, -1000 ≤ q.1 ∧ q.1 ≤ 1000 ∧ 0 ≤ (pc : Int) + q.2 := by
    intro q hq
    have := List.all_eq_true.mp h3 q hq
    simp only [Bool.and_eq_true, decide_eq_true_eq] at this
    exact ⟨this.1.1, this.1.2, this.2⟩
  split at h
  · next x r =>
    cases h
    intro H locs lsC hR hl
    rw [z_lsel_spec ps.toList (fun q hq => ⟨(h4 q hq).1, (h4 q hq).2.1⟩)] at K
    exact lv_lookup hx hb hd h1 rfl (z_tg_int (z_lofs (P := fun o => 0 ≤ (pc : Int) + o) h2 (fun q hq => (h4 q hq).2.2))) (K H locs lsC hR hl)
  · cases h
theorem z_s_instanceof {ix : Nat} (F : z_Fx G L xs p s m meth c y M0) (hcd : z_cd y pc = some (.instanceof ix, len, (a, b, e', f), ki, kj)) (h : z_step (y, pc, ls, st, M) = Sum.inl c') (K : z_K G L xs p l e R s m args below meth c Q n0 s0 c') : z_K G L xs p l e R s m args below meth c Q n0 s0 (y, pc, ls, st, M) := by
  obtain ⟨hd, ho, hn⟩ := z_cd_ok hcd
  have hw := F.words args
  obtain ⟨hx, hb, hml, hown, -, -, hnm, hSt⟩ := F
  obtain ⟨-, hsz0, -, -, hK, hwd, hE⟩ := hSt
  obtain ⟨-, -, -, -, -, -, hNc, -⟩ := hE
  simp only [z_step, hcd] at h
  simp only [z_oke, Bool.and_eq_true] at ho
  obtain rfl : len = 3 := Nat.eq_of_beq_eq_true ho.1
  have hl1 := hw _ (hn (.classLink (z_nm y).cls ix (z_cn a)) (by simp [z_need]) rfl)
  split at h
  · next t i r =>
    cases hg : z_g M t i with
    | false => rw [hg] at h; cases h
    | true =>
      rw [hg] at h
      simp only [cond_true] at h
      split at h
      · next cc hc =>
        cases hm : (([0, 3, 5, 6] : List Nat).contains cc && ([0, 5, 6] : List Nat).contains a) with
        | false => rw [hm] at h; cases h
        | true =>
          rw [hm] at h
          cases h
          simp only [Bool.and_eq_true] at hm
          have hm1 : cc ∈ ([0, 3, 5, 6] : List Nat) := by simpa using hm.1
          have hm2 : a ∈ ([0, 5, 6] : List Nat) := by simpa using hm.2
          intro H locs lsC hR hl
          obtain ⟨hP, hsz, hk, hsc, hS⟩ := id hR
          obtain ⟨q1, q2, q3⟩ := z_co_lt (G := G) hk hg hc
          have hr := va_recv hK hP (z_cl_at cc q1) q2
          have K1 := K H locs lsC hR hl
          simp only [List.map_cons] at K1 ⊢
          rw [z_tv_h q3]
          cases hs : z_sub cc a with
          | false =>
            rw [hs] at K1
            exact va_instNo hx hb hown hl1 (hNc cc hm1 a hm2 hs) hr hd K1
          | true =>
            rw [hs] at K1
            have key : ∀ C T : String, Cond.castable C T ∈ z_tbl → va_Nw (.castable C T) s := fun C T hm => hwd _ hm
            have hca := (hK.1 a _ (z_cl_at a (by simp only [List.mem_cons, List.not_mem_nil, or_false] at hm2; omega))).2
            simp only [List.mem_cons, List.not_mem_nil, or_false] at hm1 hm2
            rcases hm1 with rfl | rfl | rfl | rfl <;> rcases hm2 with rfl | rfl | rfl <;> first
              | (exfalso; revert hs; decide)
              | exact va_instS hx hb hown hl1 hca hr hd K1
              | exact va_instY hx hb hown hl1 (key _ _ (z_tbl_of (List.mem_of_getElem? (i := 1726) (by decide +kernel)) rfl)) hr hd K1
              | exact va_instY hx hb hown hl1 (key _ _ (z_tbl_of (List.mem_of_getElem? (i := 1727) (by decide +kernel)) rfl)) hr hd K1
      · cases h
  · cases h
end
end
section
/-! calls and answers -/
def z_Pc (G : z_G) (L : Nat) (xs : Nat → Int32) (as : List z_V) (M : z_M) : Array Value → State → Prop := va_Pc (as.map (z_tv G)) (z_St G L xs M)
def z_Qc (G : z_G) (L : Nat) (xs : Nat → Int32) (r : Option z_V × z_M) : Array Value → State → Outcome → State → Prop := fun _ st o t => o = .returned (r.1.map (z_tv G)) ∧ z_St G L xs r.2 t ∧ va_F (z_A G.2.2.1) st t
def z_rm (d mc ms : Nat) : Room := { frames := d + 1, cells := mc, slots := ms, locals := 40 * (d + 1) }
theorem z_St.same {G : z_G} {L : Nat} {xs : Nat → Int32} {M : z_M} {U V : State} (h : z_St G L xs M U) (hh : V.heap = U.heap) (hv : V.vm = U.vm) : z_St G L xs M V := by
  obtain ⟨h1, h2, h3, h4, h5, h6, h7⟩ := h
  have hW : U.WarmedH V.vm := by rw [hv]; exact State.WarmedH.refl U
  exact ⟨by rw [hh]; exact h1, by rw [hh]; exact h2, h3, h4, h5.moved hW.alike, z_tb_warm hW h6, h7.moved hW (by omega) (fun a _ _ => by rw [hh])⟩
theorem z_blind {G : z_G} {L : Nat} {xs : Nat → Int32} {as : List z_V} {M : z_M} : FrameBlind (z_Pc G L xs as M) := fun a U g mk h => ⟨h.1, h.2.same rfl rfl⟩
/-- the contract of a method at one start -/
def z_Met (G : z_G) (L : Nat) (xs : Nat → Int32) (l : Launch) (d y : Nat) (as : List z_V) (M : z_M) (r : Option z_V × z_M) : Prop :=
  Met l (z_nm y) [z_cw y] (z_rm d (z_nc r.2 - z_nc M) (z_sl r.2 - z_sl M)) (z_Pc G L xs as M) (z_Qc G L xs r) (z_nc r.2 - z_nc M) (z_sl r.2 - z_sl M) (z_A G.2.2.1)
section
variable {G : z_G} {L : Nat} {xs : Nat → Int32} {p : Program} {l : Launch} {e : Env} {R : Room} {s : State} {m : MethodId} {args : Array Value} {below : List Frame} {meth : Method} {c : Code} {Q : State → Prop} {n0 s0 : Nat} {M0 : z_M}
variable {y pc len a b e' f : Nat} {ki : Int32} {kj : Int64} {ls : List (Option z_V)} {st : List z_V} {M : z_M} {c' : z_C}
/-- behind a call -/
theorem z_after {H : Heap} {locs : List Loc} {lsC : Array Slot} {st0 rest : List Value} {rest0 : List z_V} {as : Array Value} {r : Option z_V × z_M} (hr : va_Run p l e R s m args below meth c H locs (z_nc M - n0) (z_sl M - s0) (z_nc r.2 - z_nc M) (z_sl r.2 - z_sl M) (F0 m pc lsC st0) rest (z_Qc G L xs r as) (z_A G.2.2.1)) (hrest : rest = rest0.map (z_tv G)) (hR : z_Rp G L xs s M H locs) (hl : z_Lh G ls (z_ml y) lsC) (hn0 : n0 ≤ z_nc M) (hs0 : s0 ≤ z_sl M) (hnn : z_nc M ≤ z_nc r.2) (hss : z_sl M ≤ z_sl r.2)
    (K : z_K G L xs p l e R s m args below meth c Q n0 s0 (y, pc + 3, ls, r.1.toList ++ rest0, r.2)) : W p l e R s m args below meth c H locs (z_nc M - n0) (z_sl M - s0) Q (F0 m pc lsC st0) := by
  intro T hT X
  obtain ⟨v, st₀, t, T', L', h0, X', hL, e1, e2, ⟨hv, hSt', hF⟩, stp⟩ := hr T hT X
  cases hv
  obtain ⟨hP, hsz, hk, hsc, hS⟩ := hR
  obtain ⟨p1, p2, p3, p4, -⟩ := hSt'
  obtain ⟨f1, f2⟩ := hF
  rw [h0] at f1 f2
  have hR1 : z_Rp G L xs s r.2 T'.heap (locs ++ L') := by
    refine ⟨by rw [e1]; exact p1, ?_, p3, p4, ?_, ?_, ?_⟩
    · have := hS.1
      omega
    · rw [e1]; exact Nat.le_trans hS.1 f1
    · intro q h1 h2
      rw [e1, f2 q (Nat.lt_of_lt_of_le h1 hS.1) h2]
      exact hS.2.1 q h1 h2
    · intro q hq
      rcases List.mem_append.mp hq with h | h
      · exact hS.2.2 q h
      · exact hL q h
  have K1 := K T'.heap (locs ++ L') lsC hR1 hl
  dsimp only at K1
  have ec : z_nc r.2 - n0 = z_nc M - n0 + (z_nc r.2 - z_nc M) := by omega
  have es : z_sl r.2 - s0 = z_sl M - s0 + (z_sl r.2 - z_sl M) := by omega
  rw [ec, es] at K1
  obtain ⟨t2, a1, b1⟩ := K1 T' rfl X'
  refine ⟨t2, stp t2 ?_, b1⟩
  have hst : (r.1.map (z_tv G)).toList ++ rest = (r.1.toList ++ rest0).map (z_tv G) := by
    rw [hrest, List.map_append]
    congr 1
    cases r.1 <;> rfl
  rw [hst]
  exact a1
theorem z_tk_spec : ∀ (n : Nat) (st acc as rest : List z_V), z_tk n st acc = some (as, rest) → ∃ ar : List z_V, as = ar ++ acc ∧ st = ar.reverse ++ rest ∧ ar.length = n := by
  intro n
  induction n with
  | zero =>
    intro st acc as rest h
    simp only [z_tk, Option.some.injEq, Prod.mk.injEq] at h
    exact ⟨[], by simp [h.1], by simp [h.2], rfl⟩
  | succ n ih =>
    intro st acc as rest h
    cases st with
    | nil => simp [z_tk] at h
    | cons v st =>
      simp only [z_tk] at h
      obtain ⟨ar, q1, q2, q3⟩ := ih st (v :: acc) as rest h
      refine ⟨ar ++ [v], by simp [q1], by simp [q2], by simp [q3]⟩
theorem z_ct_spec (hxx : ∀ t i, G.2.2.2 t i = .null ∨ ∃ a, G.2.2.2 t i = .ref a) : ∀ l : List z_V, ((l.map (z_tv G)).map fun v => v.category).sum = z_ct l := by
  intro l
  induction l with
  | nil => rfl
  | cons v l ih =>
    rw [List.map_cons, List.map_cons, List.sum_cons, ih]
    match v with
    | Sum.inl x => rfl
    | Sum.inr (Sum.inl x) => rfl
    | Sum.inr (Sum.inr x) =>
      show (z_tv G (Sum.inr (Sum.inr x))).category + _ = 1 + z_ct l
      rcases z_tv_ref hxx x with q | ⟨r, q⟩ <;> rw [q] <;> rfl
/-- the words of a called method -/
theorem z_cwn : ∀ y, y < 285 → z_cw y ∈ z_tbl := by
  intro y hy
  refine z_tbl_of ?_ rfl
  have e : y = 16 * (y / 16) + y % 16 := by omega
  have hm : y % 16 < 16 := Nat.mod_lt _ (by decide)
  rw [e]
  generalize hg : y / 16 = g at *
  generalize hr : y % 16 = r at *
  have hg18 : g < 18 := by omega
  match g, hg18 with
  | 0, _ =>
    match r, hm with
    | 0, _ => exact List.mem_of_getElem? z_cwp0
    | 1, _ => exact List.mem_of_getElem? z_cwp1
    | 2, _ => exact List.mem_of_getElem? z_cwp2
    | 3, _ => exact List.mem_of_getElem? z_cwp3
    | 4, _ => exact List.mem_of_getElem? z_cwp4
    | 5, _ => exact List.mem_of_getElem? z_cwp5
    | 6, _ => exact List.mem_of_getElem? z_cwp6
    | 7, _ => exact List.mem_of_getElem? z_cwp7
    | 8, _ => exact List.mem_of_getElem? z_cwp8
    | 9, _ => exact List.mem_of_getElem? z_cwp9
    | 10, _ => exact List.mem_of_getElem? z_cwp10
    | 11, _ => exact List.mem_of_getElem? z_cwp11
    | 12, _ => exact List.mem_of_getElem? z_cwp12
    | 13, _ => exact List.mem_of_getElem? z_cwp13
    | 14, _ => exact List.mem_of_getElem? z_cwp14
    | 15, _ => exact List.mem_of_getElem? z_cwp15
    | k + 16, h => omega
  | 1, _ =>
    match r, hm with
    | 0, _ => exact List.mem_of_getElem? z_cwp16
    | 1, _ => exact List.mem_of_getElem? z_cwp17
    | 2, _ => exact List.mem_of_getElem? z_cwp18
    | 3, _ => exact List.mem_of_getElem? z_cwp19
    | 4, _ => exact List.mem_of_getElem? z_cwp20
    | 5, _ => exact List.mem_of_getElem? z_cwp21
    | 6, _ => exact List.mem_of_getElem? z_cwp22
    | 7, _ => exact List.mem_of_getElem? z_cwp23
    | 8, _ => exact List.mem_of_getElem? z_cwp24
    | 9, _ => exact List.mem_of_getElem? z_cwp25
    | 10, _ => exact List.mem_of_getElem? z_cwp26
    | 11, _ => exact List.mem_of_getElem? z_cwp27
    | 12, _ => exact List.mem_of_getElem? z_cwp28
    | 13, _ => exact List.mem_of_getElem? z_cwp29
    | 14, _ => exact List.mem_of_getElem? z_cwp30
    | 15, _ => exact List.mem_of_getElem? z_cwp31
    | k + 16, h => omega
  | 2, _ =>
    match r, hm with
    | 0, _ => exact List.mem_of_getElem? z_cwp32
    | 1, _ => exact List.mem_of_getElem? z_cwp33
    | 2, _ => exact List.mem_of_getElem? z_cwp34
    | 3, _ => exact List.mem_of_getElem? z_cwp35
    | 4, _ => exact List.mem_of_getElem? z_cwp36
    | 5, _ => exact List.mem_of_getElem? z_cwp37
    | 6, _ => exact List.mem_of_getElem? z_cwp38
    | 7, _ => exact List.mem_of_getElem? z_cwp39
    | 8, _ => exact List.mem_of_getElem? z_cwp40
    | 9, _ => exact List.mem_of_getElem? z_cwp41
    | 10, _ => exact List.mem_of_getElem? z_cwp42
    | 11, _ => exact List.mem_of_getElem? z_cwp43
    | 12, _ => exact List.mem_of_getElem? z_cwp44
    | 13, _ => exact List.mem_of_getElem? z_cwp45
    | 14, _ => exact List.mem_of_getElem? z_cwp46
    | 15, _ => exact List.mem_of_getElem? z_cwp47
    | k + 16, h => omega
  | 3, _ =>
    match r, hm with
    | 0, _ => exact List.mem_of_getElem? z_cwp48
    | 1, _ => exact List.mem_of_getElem? z_cwp49
    | 2, _ => exact List.mem_of_getElem? z_cwp50
    | 3, _ => exact List.mem_of_getElem? z_cwp51
    | 4, _ => exact List.mem_of_getElem? z_cwp52
    | 5, _ => exact List.mem_of_getElem? z_cwp53
    | 6, _ => exact List.mem_of_getElem? z_cwp54
    | 7, _ => exact List.mem_of_getElem? z_cwp55
    | 8, _ => exact List.mem_of_getElem? z_cwp56
    | 9, _ => exact List.mem_of_getElem? z_cwp57
    | 10, _ => exact List.mem_of_getElem? z_cwp58
    | 11, _ => exact List.mem_of_getElem? z_cwp59
    | 12, _ => exact List.mem_of_getElem? z_cwp60
    | 13, _ => exact List.mem_of_getElem? z_cwp61
    | 14, _ => exact List.mem_of_getElem? z_cwp62
    | 15, _ => exact List.mem_of_getElem? z_cwp63
    | k + 16, h => omega
  | 4, _ =>
    match r, hm with
    | 0, _ => exact List.mem_of_getElem? z_cwp64
    | 1, _ => exact List.mem_of_getElem? z_cwp65
    | 2, _ => exact List.mem_of_getElem? z_cwp66
    | 3, _ => exact List.mem_of_getElem? z_cwp67
    | 4, _ => exact List.mem_of_getElem? z_cwp68
    | 5, _ => exact List.mem_of_getElem? z_cwp69
    | 6, _ => exact List.mem_of_getElem? z_cwp70
    | 7, _ => exact List.mem_of_getElem? z_cwp71
    | 8, _ => exact List.mem_of_getElem? z_cwp72
    | 9, _ => exact List.mem_of_getElem? z_cwp73
    | 10, _ => exact List.mem_of_getElem? z_cwp74
    | 11, _ => exact List.mem_of_getElem? z_cwp75
    | 12, _ => exact List.mem_of_getElem? z_cwp76
    | 13, _ => exact List.mem_of_getElem? z_cwp77
    | 14, _ => exact List.mem_of_getElem? z_cwp78
    | 15, _ => exact List.mem_of_getElem? z_cwp79
    | k + 16, h => omega
  | 5, _ =>
    match r, hm with
    | 0, _ => exact List.mem_of_getElem? z_cwp80
    | 1, _ => exact List.mem_of_getElem? z_cwp81
    | 2, _ => exact List.mem_of_getElem? z_cwp82
    | 3, _ => exact List.mem_of_getElem? z_cwp83
    | 4, _ => exact List.mem_of_getElem? z_cwp84
    | 5, _ => exact List.mem_of_getElem? z_cwp85
    | 6, _ => exact List.mem_of_getElem? z_cwp86
    | 7, _ => exact List.mem_of_getElem? z_cwp87
    | 8, _ => exact List.mem_of_getElem? z_cwp88
    | 9, _ => exact List.mem_of_getElem? z_cwp89
    | 10, _ => exact List.mem_of_getElem? z_cwp90
    | 11, _ => exact List.mem_of_getElem? z_cwp91
    | 12, _ => exact List.mem_of_getElem? z_cwp92
    | 13, _ => exact List.mem_of_getElem? z_cwp93
    | 14, _ => exact List.mem_of_getElem? z_cwp94
    | 15, _ => exact List.mem_of_getElem? z_cwp95
    | k + 16, h => omega
  | 6, _ =>
    match r, hm with
    | 0, _ => exact List.mem_of_getElem? z_cwp96
    | 1, _ => exact List.mem_of_getElem? z_cwp97
    | 2, _ => exact List.mem_of_getElem? z_cwp98
    | 3, _ => exact List.mem_of_getElem? z_cwp99
    | 4, _ => exact List.mem_of_getElem? z_cwp100
    | 5, _ => exact List.mem_of_getElem? z_cwp101
    | 6, _ => exact List.mem_of_getElem? z_cwp102
    | 7, _ => exact List.mem_of_getElem? z_cwp103
    | 8, _ => exact List.mem_of_getElem? z_cwp104
    | 9, _ => exact List.mem_of_getElem? z_cwp105
    | 10, _ => exact List.mem_of_getElem? z_cwp106
    | 11, _ => exact List.mem_of_getElem? z_cwp107
    | 12, _ => exact List.mem_of_getElem? z_cwp108
    | 13, _ => exact List.mem_of_getElem? z_cwp109
    | 14, _ => exact List.mem_of_getElem? z_cwp110
    | 15, _ => exact List.mem_of_getElem? z_cwp111
    | k + 16, h => omega
  | 7, _ =>
    match r, hm with
    | 0, _ => exact List.mem_of_getElem? z_cwp112
    | 1, _ => exact List.mem_of_getElem? z_cwp113
    | 2, _ => exact List.mem_of_getElem? z_cwp114
    | 3, _ => exact List.mem_of_getElem? z_cwp115
    | 4, _ => exact List.mem_of_getElem? z_cwp116
    | 5, _ => exact List.mem_of_getElem? z_cwp117
    | 6, _ => exact List.mem_of_getElem? z_cwp118
    | 7, _ => exact List.mem_of_getElem? z_cwp119
    | 8, _ => exact List.mem_of_getElem? z_cwp120
    | 9, _ => exact List.mem_of_getElem? z_cwp121
    | 10, _ => exact List.mem_of_getElem? z_cwp122
    | 11, _ => exact List.mem_of_getElem? z_cwp123
    | 12, _ => exact List.mem_of_getElem? z_cwp124
    | 13, _ => exact List.mem_of_getElem? z_cwp125
    | 14, _ => exact List.mem_of_getElem? z_cwp126
    | 15, _ => exact List.mem_of_getElem? z_cwp127
    | k + 16, h => omega
  | 8, _ =>
    match r, hm with
    | 0, _ => exact List.mem_of_getElem? z_cwp128
    | 1, _ => exact List.mem_of_getElem? z_cwp129
    | 2, _ => exact List.mem_of_getElem? z_cwp130
    | 3, _ => exact List.mem_of_getElem? z_cwp131
    | 4, _ => exact List.mem_of_getElem? z_cwp132
    | 5, _ => exact List.mem_of_getElem? z_cwp133
    | 6, _ => exact List.mem_of_getElem? z_cwp134
    | 7, _ => exact List.mem_of_getElem? z_cwp135
    | 8, _ => exact List.mem_of_getElem? z_cwp136
    | 9, _ => exact List.mem_of_getElem? z_cwp137
    | 10, _ => exact List.mem_of_getElem? z_cwp138
    | 11, _ => exact List.mem_of_getElem? z_cwp139
    | 12, _ => exact List.mem_of_getElem? z_cwp140
    | 13, _ => exact List.mem_of_getElem? z_cwp141
    | 14, _ => exact List.mem_of_getElem? z_cwp142
    | 15, _ => exact List.mem_of_getElem? z_cwp143
    | k + 16, h => omega
  | 9, _ =>
    match r, hm with
    | 0, _ => exact List.mem_of_getElem? z_cwp144
    | 1, _ => exact List.mem_of_getElem? z_cwp145
    | 2, _ => exact List.mem_of_getElem? z_cwp146
    | 3, _ => exact List.mem_of_getElem? z_cwp147
    | 4, _ => exact List.mem_of_getElem? z_cwp148
    | 5, _ => exact List.mem_of_getElem? z_cwp149
    | 6, _ => exact List.mem_of_getElem? z_cwp150
    | 7, _ => exact List.mem_of_getElem? z_cwp151
    | 8, _ => exact List.mem_of_getElem? z_cwp152
    | 9, _ => exact List.mem_of_getElem? z_cwp153
    | 10, _ => exact List.mem_of_getElem? z_cwp154
    | 11, _ => exact List.mem_of_getElem? z_cwp155
    | 12, _ => exact List.mem_of_getElem? z_cwp156
    | 13, _ => exact List.mem_of_getElem? z_cwp157
    | 14, _ => exact List.mem_of_getElem? z_cwp158
    | 15, _ => exact List.mem_of_getElem? z_cwp159
    | k + 16, h => omega
  | 10, _ =>
    match r, hm with
    | 0, _ => exact List.mem_of_getElem? z_cwp160
    | 1, _ => exact List.mem_of_getElem? z_cwp161
    | 2, _ => exact List.mem_of_getElem? z_cwp162
    | 3, _ => exact List.mem_of_getElem? z_cwp163
    | 4, _ => exact List.mem_of_getElem? z_cwp164
    | 5, _ => exact List.mem_of_getElem? z_cwp165
    | 6, _ => exact List.mem_of_getElem? z_cwp166
    | 7, _ => exact List.mem_of_getElem? z_cwp167
    | 8, _ => exact List.mem_of_getElem? z_cwp168
    | 9, _ => exact List.mem_of_getElem? z_cwp169
    | 10, _ => exact List.mem_of_getElem? z_cwp170
    | 11, _ => exact List.mem_of_getElem? z_cwp171
    | 12, _ => exact List.mem_of_getElem? z_cwp172
    | 13, _ => exact List.mem_of_getElem? z_cwp173
    | 14, _ => exact List.mem_of_getElem? z_cwp174
    | 15, _ => exact List.mem_of_getElem? z_cwp175
    | k + 16, h => omega
  | 11, _ =>
    match r, hm with
    | 0, _ => exact List.mem_of_getElem? z_cwp176
    | 1, _ => exact List.mem_of_getElem? z_cwp177
    | 2, _ => exact List.mem_of_getElem? z_cwp178
    | 3, _ => exact List.mem_of_getElem? z_cwp179
    | 4, _ => exact List.mem_of_getElem? z_cwp180
    | 5, _ => exact List.mem_of_getElem? z_cwp181
    | 6, _ => exact List.mem_of_getElem? z_cwp182
    | 7, _ => exact List.mem_of_getElem? z_cwp183
    | 8, _ => exact List.mem_of_getElem? z_cwp184
    | 9, _ => exact List.mem_of_getElem? z_cwp185
    | 10, _ => exact List.mem_of_getElem? z_cwp186
    | 11, _ => exact List.mem_of_getElem? z_cwp187
    | 12, _ => exact List.mem_of_getElem? z_cwp188
    | 13, _ => exact List.mem_of_getElem? z_cwp189
    | 14, _ => exact List.mem_of_getElem? z_cwp190
    | 15, _ => exact List.mem_of_getElem? z_cwp191
    | k + 16, h => omega
  | 12, _ =>
    match r, hm with
    | 0, _ => exact List.mem_of_getElem? z_cwp192
    | 1, _ => exact List.mem_of_getElem? z_cwp193
    | 2, _ => exact List.mem_of_getElem? z_cwp194
    | 3, _ => exact List.mem_of_getElem? z_cwp195
    | 4, _ => exact List.mem_of_getElem? z_cwp196
    | 5, _ => exact List.mem_of_getElem? z_cwp197
    | 6, _ => exact List.mem_of_getElem? z_cwp198
    | 7, _ => exact List.mem_of_getElem? z_cwp199
    | 8, _ => exact List.mem_of_getElem? z_cwp200
    | 9, _ => exact List.mem_of_getElem? z_cwp201
    | 10, _ => exact List.mem_of_getElem? z_cwp202
    | 11, _ => exact List.mem_of_getElem? z_cwp203
    | 12, _ => exact List.mem_of_getElem? z_cwp204
    | 13, _ => exact List.mem_of_getElem? z_cwp205
    | 14, _ => exact List.mem_of_getElem? z_cwp206
    | 15, _ => exact List.mem_of_getElem? z_cwp207
    | k + 16, h => omega
  | 13, _ =>
    match r, hm with
    | 0, _ => exact List.mem_of_getElem? z_cwp208
    | 1, _ => exact List.mem_of_getElem? z_cwp209
    | 2, _ => exact List.mem_of_getElem? z_cwp210
    | 3, _ => exact List.mem_of_getElem? z_cwp211
    | 4, _ => exact List.mem_of_getElem? z_cwp212
    | 5, _ => exact List.mem_of_getElem? z_cwp213
    | 6, _ => exact List.mem_of_getElem? z_cwp214
    | 7, _ => exact List.mem_of_getElem? z_cwp215
    | 8, _ => exact List.mem_of_getElem? z_cwp216
    | 9, _ => exact List.mem_of_getElem? z_cwp217
    | 10, _ => exact List.mem_of_getElem? z_cwp218
    | 11, _ => exact List.mem_of_getElem? z_cwp219
    | 12, _ => exact List.mem_of_getElem? z_cwp220
    | 13, _ => exact List.mem_of_getElem? z_cwp221
    | 14, _ => exact List.mem_of_getElem? z_cwp222
    | 15, _ => exact List.mem_of_getElem? z_cwp223
    | k + 16, h => omega
  | 14, _ =>
    match r, hm with
    | 0, _ => exact List.mem_of_getElem? z_cwp224
    | 1, _ => exact List.mem_of_getElem? z_cwp225
    | 2, _ => exact List.mem_of_getElem? z_cwp226
    | 3, _ => exact List.mem_of_getElem? z_cwp227
    | 4, _ => exact List.mem_of_getElem? z_cwp228
    | 5, _ => exact List.mem_of_getElem? z_cwp229
    | 6, _ => exact List.mem_of_getElem? z_cwp230
    | 7, _ => exact List.mem_of_getElem? z_cwp231
    | 8, _ => exact List.mem_of_getElem? z_cwp232
    | 9, _ => exact List.mem_of_getElem? z_cwp233
    | 10, _ => exact List.mem_of_getElem? z_cwp234
    | 11, _ => exact List.mem_of_getElem? z_cwp235
    | 12, _ => exact List.mem_of_getElem? z_cwp236
    | 13, _ => exact List.mem_of_getElem? z_cwp237
    | 14, _ => exact List.mem_of_getElem? z_cwp238
    | 15, _ => exact List.mem_of_getElem? z_cwp239
    | k + 16, h => omega
  | 15, _ =>
    match r, hm with
    | 0, _ => exact List.mem_of_getElem? z_cwp240
    | 1, _ => exact List.mem_of_getElem? z_cwp241
    | 2, _ => exact List.mem_of_getElem? z_cwp242
    | 3, _ => exact List.mem_of_getElem? z_cwp243
    | 4, _ => exact List.mem_of_getElem? z_cwp244
    | 5, _ => exact List.mem_of_getElem? z_cwp245
    | 6, _ => exact List.mem_of_getElem? z_cwp246
    | 7, _ => exact List.mem_of_getElem? z_cwp247
    | 8, _ => exact List.mem_of_getElem? z_cwp248
    | 9, _ => exact List.mem_of_getElem? z_cwp249
    | 10, _ => exact List.mem_of_getElem? z_cwp250
    | 11, _ => exact List.mem_of_getElem? z_cwp251
    | 12, _ => exact List.mem_of_getElem? z_cwp252
    | 13, _ => exact List.mem_of_getElem? z_cwp253
    | 14, _ => exact List.mem_of_getElem? z_cwp254
    | 15, _ => exact List.mem_of_getElem? z_cwp255
    | k + 16, h => omega
  | 16, _ =>
    match r, hm with
    | 0, _ => exact List.mem_of_getElem? z_cwp256
    | 1, _ => exact List.mem_of_getElem? z_cwp257
    | 2, _ => exact List.mem_of_getElem? z_cwp258
    | 3, _ => exact List.mem_of_getElem? z_cwp259
    | 4, _ => exact List.mem_of_getElem? z_cwp260
    | 5, _ => exact List.mem_of_getElem? z_cwp261
    | 6, _ => exact List.mem_of_getElem? z_cwp262
    | 7, _ => exact List.mem_of_getElem? z_cwp263
    | 8, _ => exact List.mem_of_getElem? z_cwp264
    | 9, _ => exact List.mem_of_getElem? z_cwp265
    | 10, _ => exact List.mem_of_getElem? z_cwp266
    | 11, _ => exact List.mem_of_getElem? z_cwp267
    | 12, _ => exact List.mem_of_getElem? z_cwp268
    | 13, _ => exact List.mem_of_getElem? z_cwp269
    | 14, _ => exact List.mem_of_getElem? z_cwp270
    | 15, _ => exact List.mem_of_getElem? z_cwp271
    | k + 16, h => omega
  | 17, _ =>
    match r, hm with
    | 0, _ => exact List.mem_of_getElem? z_cwp272
    | 1, _ => exact List.mem_of_getElem? z_cwp273
    | 2, _ => exact List.mem_of_getElem? z_cwp274
    | 3, _ => exact List.mem_of_getElem? z_cwp275
    | 4, _ => exact List.mem_of_getElem? z_cwp276
    | 5, _ => exact List.mem_of_getElem? z_cwp277
    | 6, _ => exact List.mem_of_getElem? z_cwp278
    | 7, _ => exact List.mem_of_getElem? z_cwp279
    | 8, _ => exact List.mem_of_getElem? z_cwp280
    | 9, _ => exact List.mem_of_getElem? z_cwp281
    | 10, _ => exact List.mem_of_getElem? z_cwp282
    | 11, _ => exact List.mem_of_getElem? z_cwp283
    | 12, _ => exact List.mem_of_getElem? z_cwp284
    | 13, _ => omega
    | 14, _ => omega
    | 15, _ => omega
    | k + 16, h => omega
  | k + 18, h => omega
theorem z_ml_mi1 : ∀ y, y < 285 → z_ml y = (z_mi y).2.2.1 := by decide +kernel
theorem z_ml_mi2 : ∀ y, y < 285 → (z_mi y).2.2.1 ≤ 11 := by decide +kernel
theorem z_ml_mi3 : ∀ y, y < 285 → z_pl y = true → plainName (z_nm y).cls = true := by decide +kernel
theorem z_ml_mi : ∀ y, y < 285 → z_ml y = (z_mi y).2.2.1 ∧ (z_mi y).2.2.1 ≤ 11 := fun y hy => ⟨z_ml_mi1 y hy, z_ml_mi2 y hy⟩
theorem z_yc_cn : ∀ y, y < 285 → z_yc y < 13 → z_cn (z_yc y) = (z_nm y).cls := by decide +kernel
theorem z_yc_le : ∀ y, y < 285 → z_yc y ≤ 13 := by decide +kernel
theorem z_strm_cn : ∀ y, y ∈ z_strm → (z_nm y).cls = "java/lang/String" := by decide +kernel
theorem z_vt_all : ∀ v, v < 5 → ∀ c1, c1 < 13 → (match z_vt v c1 with | none => true | some y1 => decide (y1 < 285 ∧ c1 ∈ ([3, 6, 5, 0] : List Nat))) = true := by decide +kernel
theorem z_vo_all : ∀ v, v < 5 → z_vo v < 285 ∧ (z_nm (z_vo v)).name = (z_vx v).name ∧ (z_nm (z_vo v)).desc = (z_vx v).desc := by decide +kernel
theorem z_pn_spec {mn : MethodName} {n : Nat} (h : z_pn mn n = true) : mn.cls ≠ "java/lang/invoke/MethodHandle" ∧ mn.cls ≠ "java/lang/invoke/VarHandle" ∧ ∀ sig, parseMethodDescriptor mn.desc = some sig → n = sig.parameters.length := by
  have h1 := of_decide_eq_true h
  refine ⟨h1.1, h1.2.1, fun sig hs => ?_⟩
  have h2 := h1.2.2
  rw [hs] at h2
  exact (Option.some.inj h2).symm
/-- a callee's own word holds on -/
theorem z_cw_ws {y1 : Nat} (hw : ∀ w ∈ z_tbl, w.before args s = true) (hy : y1 < 285) : ∀ w ∈ [z_cw y1], ∀ (a' : Array Value) (U : State), s.WarmedH U.vm → w.before a' U = true := by
  intro w1 hw1 a1 U1 hW1
  rw [List.mem_singleton.mp hw1]
  exact word_at hW1 (Or.inl rfl) (hw _ (z_cwn y1 hy))
/-- the room that a callee asks for is there -/
theorem z_room {d1 y1 mc ms : Nat} (hy : y1 < 285) (hRf : d1 + 2 ≤ R.frames) (hRl : 40 * (d1 + 2) ≤ R.locals) : (z_rm d1 mc ms).frames + 1 ≤ R.frames ∧ 8 + ((z_mi y1).2.2.1 + 11) + (z_rm d1 mc ms).locals ≤ R.locals := by
  obtain ⟨-, h1⟩ := z_ml_mi y1 hy
  refine ⟨by show d1 + 1 + 1 ≤ _; omega, ?_⟩
  show 8 + ((z_mi y1).2.2.1 + 11) + 40 * (d1 + 1) ≤ _
  omega
theorem z_call_static {ix d1 y1 : Nat} {as1 : List z_V} {c1 : z_C} {r1 : Option z_V × z_M} (F : z_Fx G L xs p s m meth c y M0) (hn0 : n0 = z_nc M0) (hcd : z_cd y pc = some (.invokestatic ix, len, (a, b, e', f), ki, kj)) (h : z_step (y, pc, ls, st, M) = z_ca y1 as1 c1)
    (hM : z_Met G L xs l d1 y1 as1 M r1) (hRf : d1 + 2 ≤ R.frames) (hRl : 40 * (d1 + 2) ≤ R.locals) (hRc : z_nc r1.2 - n0 ≤ R.cells) (hRs : z_sl r1.2 - s0 ≤ R.slots) (hs0 : s0 ≤ z_sl M) (hnn : z_nc M ≤ z_nc r1.2) (hss : z_sl M ≤ z_sl r1.2)
    (K : z_K G L xs p l e R s m args below meth c Q n0 s0 (c1.1, c1.2.1, c1.2.2.1, r1.1.toList ++ c1.2.2.2.1, r1.2)) : z_K G L xs p l e R s m args below meth c Q n0 s0 (y, pc, ls, st, M) := by
  obtain ⟨hd, ho, hn⟩ := z_cd_ok hcd
  have hw := F.words args
  have hxx := F.ex
  obtain ⟨hx, hb, hml, hown, -, -, hnm, hSt⟩ := F
  have hsz0 := hSt.2.1
  rw [← hn0] at hsz0
  simp only [z_step, hcd, z_inv] at h
  simp only [z_oke, Bool.and_eq_true] at ho
  obtain ⟨⟨⟨ho1, ho2⟩, ho3⟩, ho4⟩ := ho
  have ha := Nat.le_of_ble_eq_true ho3
  have hb2 : b < 2 := Nat.le_of_ble_eq_true ho2
  split at h
  · cases h
  · next as2 r2 htk =>
    rw [ho2] at h
    simp only [cond_true] at h
    cases h8 : Nat.blt 8 (z_ct r2) with
    | true => rw [h8] at h; cases h
    | false =>
      rw [h8] at h
      simp only [cond_false] at h
      have h : z_ca a as2 (y, pc + 3, ls, r2, M) = z_ca y1 as1 c1 := by
        split at h
        · simp only [Bool.cond_eq_ite] at h
          split at h <;> cases h
        · exact h
      simp only [Sum.inr.injEq, Sum.inl.injEq, Prod.mk.injEq] at h
      obtain ⟨e1, e2, e3⟩ := h
      subst e1; subst e2; subst e3
      obtain ⟨ar, q1, q2, q3⟩ := z_tk_spec _ _ _ _ _ htk
      rw [List.append_nil] at q1
      subst q1
      have h8' : z_ct r2 ≤ 8 := by
        rcases Nat.lt_or_ge 8 (z_ct r2) with g1 | g1
        · have : Nat.blt 8 (z_ct r2) = true := Nat.ble_eq_true_of_le g1
          rw [this] at h8; cases h8
        · exact g1
      intro H locs lsC hR hl
      have hR : z_Rp G L xs s M H locs := hR
      show W p l e R s m args below meth c H locs (z_nc M - n0) (z_sl M - s0) Q _
      refine z_sized hsz0 hR fun hH => ?_
      have hle : n0 ≤ z_nc M := by have := hR.2.1; omega
      obtain ⟨pn1, pn2, pn3⟩ := z_pn_spec ho4
      have hroom := z_room (R := R) (mc := z_nc r1.2 - z_nc M) (ms := z_sl r1.2 - z_sl M) ha hRf hRl
      have hini := hw _ (hn (.initialized (z_nm a).cls) (by simp [z_need, show ¬ b = 9 by omega, show ¬ b = 6 by omega, show ¬ b = 7 by omega]) rfl)
      have hsta := hw _ (hn (.static (z_nm a)) (by simp [z_need, show ¬ b = 9 by omega, show ¬ b = 6 by omega, show ¬ b = 7 by omega, hb2]) rfl)
      have hpre : PreS s H (z_Pc G L xs as2 M) (as2.map (z_tv G)) := ⟨z_blind, fun U hU hW => ⟨rfl, hSt.moved hR hH hU hW⟩⟩
      have hstk : (F0 m pc lsC (List.map (z_tv G) st)).stack = (as2.map (z_tv G)).reverse ++ r2.map (z_tv G) := by
        show List.map (z_tv G) st = _
        rw [q2, List.map_append, List.map_reverse]
      have hcat : 2 * (F0 m pc lsC (List.map (z_tv G) st)).monitorRoom + ((r2.map (z_tv G)).map fun v => v.category).sum ≤ 8 := lv_room (by rw [z_ct_spec hxx]; exact h8')
      have hlen1 : (as2.map (z_tv G)).length = e' := by rw [List.length_map]; exact q3
      obtain rfl : len = 3 := Nat.eq_of_beq_eq_true ho1
      by_cases hb1 : b = 1
      · have hlk := hw _ (hn (.methodLinkNest (z_nm y).cls ix (z_nm a) "ShareNets") (by simp [z_need, hb1]) rfl)
        exact z_after (rest0 := r2) (va_runSN (bytes := (z_mi a).2.1) (maxL := (z_mi a).2.2.1) (ret := (z_mi a).2.2.2) ⟨hx, hb, hml, hown, hw⟩ hM ⟨⟨⟨rfl, rfl, hroom.1, hroom.2, z_cw_ws hw ha, List.mem_singleton.mpr rfl⟩, hw _ (z_cwn a ha), hini, ⟨pn1, pn2⟩, pn3, hlk⟩, hsta, trivial⟩ hpre rfl hlen1 hl.1 hstk hcat hd ⟨by omega, by omega⟩) rfl hR hl hle hs0 hnn hss K
      · have hlk := hw _ (hn (.methodLink (z_nm y).cls ix (z_nm a)) (by simp [z_need, show ¬ b = 9 by omega, show ¬ b = 6 by omega, show ¬ b = 7 by omega, hb1, show ¬ b = 3 by omega]) rfl)
        exact z_after (rest0 := r2) (va_runS (bytes := (z_mi a).2.1) (maxL := (z_mi a).2.2.1) (ret := (z_mi a).2.2.2) ⟨hx, hb, hml, hown, hw⟩ hM ⟨⟨rfl, rfl, hroom.1, hroom.2, z_cw_ws hw ha, List.mem_singleton.mpr rfl, hw _ (z_cwn a ha), hini, ⟨pn1, pn2⟩, pn3, hlk⟩, hsta⟩ hpre rfl hlen1 hl.1 hstk hcat hd ⟨by omega, by omega⟩) rfl hR hl hle hs0 hnn hss K
/-- Math.max, Math.abs -/
theorem z_s_math {ix : Nat} (F : z_Fx G L xs p s m meth c y M0) (hcd : z_cd y pc = some (.invokestatic ix, len, (a, b, e', f), ki, kj)) (h : z_step (y, pc, ls, st, M) = Sum.inl c') (hRf : 1 ≤ R.frames) (hRl : 40 ≤ R.locals) (hRc : z_nc c'.2.2.2.2 - n0 ≤ R.cells) (hRs : z_sl c'.2.2.2.2 - s0 ≤ R.slots) (K : z_K G L xs p l e R s m args below meth c Q n0 s0 c') : z_K G L xs p l e R s m args below meth c Q n0 s0 (y, pc, ls, st, M) := by
  obtain ⟨hd, ho, hn⟩ := z_cd_ok hcd
  have hw := F.words args
  have hxx := F.ex
  obtain ⟨hx, hb, hml, hown, -, -, hnm, hSt⟩ := F
  simp only [z_step, hcd, z_inv] at h
  simp only [z_oke, Bool.and_eq_true] at ho
  obtain ⟨⟨⟨ho1, ho2⟩, ho3⟩, ho4⟩ := ho
  obtain rfl : len = 3 := Nat.eq_of_beq_eq_true ho1
  split at h
  · cases h
  · next as2 r2 htk =>
    rw [ho2] at h
    simp only [cond_true] at h
    cases h8 : Nat.blt 8 (z_ct r2) with
    | true => rw [h8] at h; cases h
    | false =>
      rw [h8] at h
      simp only [cond_false] at h
      have h8' : z_ct r2 ≤ 8 := by
        rcases Nat.lt_or_ge 8 (z_ct r2) with g1 | g1
        · have : Nat.blt 8 (z_ct r2) = true := Nat.ble_eq_true_of_le g1
          rw [this] at h8; cases h8
        · exact g1
      obtain ⟨ar, q1, q2, q3⟩ := z_tk_spec _ _ _ _ _ htk
      rw [List.append_nil] at q1
      subst q1
      split at h
      · next v1 hma =>
        cases hb0 : Nat.beq b 0 with
        | false => rw [hb0] at h; cases h
        | true =>
          rw [hb0] at h
          obtain rfl : b = 0 := Nat.eq_of_beq_eq_true hb0
          simp only [cond_true, Sum.inl.injEq] at h
          subst h
          have hini := hw _ (hn (.initialized (z_nm a).cls) (by simp [z_need]) rfl)
          have hsta := hw _ (hn (.static (z_nm a)) (by simp [z_need]) rfl)
          have hlk := hw _ (hn (.methodLink (z_nm y).cls ix (z_nm a)) (by simp [z_need]) rfl)
          have hco := hw _ (z_cwn a (Nat.le_of_ble_eq_true ho3))
          have hct := z_ct_spec hxx r2
          intro H locs lsC hR hl
          have K1 := K H locs lsC hR hl
          have hRc : z_nc M - n0 ≤ R.cells := hRc
          have hRs : z_sl M - s0 ≤ R.slots := hRs
          show W p l e R s m args below meth c H locs (z_nc M - n0) (z_sl M - s0) Q _
          unfold z_math at hma
          by_cases h77 : a = 277
          · subst h77
            simp only [show Nat.beq 277 277 = true from rfl, cond_true] at hma
            split at hma
            · next x1 w1 =>
              have e5 : v1 = z_i (if x1 < w1 then w1 else x1) := (Option.some.inj hma).symm
              subst e5
              have e6 : st = Sum.inl w1 :: Sum.inl x1 :: r2 := q2
              subst e6
              exact va_mmax hx hb (hml.trans hl.1.symm) hown hlk hsta hini hco hRf (by rw [hct]; omega) hRc hRs hd K1
            · cases hma
          · rw [z_beq_f h77] at hma
            by_cases h76 : a = 276
            · subst h76
              simp only [show Nat.beq 276 276 = true from rfl, cond_true, cond_false] at hma
              split at hma
              · next x1 =>
                have e5 : v1 = z_j (if 0 < x1 then x1 else -x1) := (Option.some.inj hma).symm
                subst e5
                have e6 : st = Sum.inr (Sum.inl x1) :: r2 := q2
                subst e6
                exact va_mabs_long hx hb (hml.trans hl.1.symm) hown hlk hsta hini hco hRf (by rw [hct]; omega) hRc hRs hd K1
              · cases hma
            · rw [z_beq_f h76] at hma
              cases hma
      · cases h
end
end
section
/-! calls with a receiver -/
section
variable {G : z_G} {L : Nat} {xs : Nat → Int32} {p : Program} {l : Launch} {e : Env} {R : Room} {s : State} {m : MethodId} {args : Array Value} {below : List Frame} {meth : Method} {c : Code} {Q : State → Prop} {n0 s0 : Nat} {M0 : z_M}
variable {y pc len a b e' f : Nat} {ki : Int32} {kj : Int64} {ls : List (Option z_V)} {st : List z_V} {M : z_M} {c' : z_C}
/-- what a call with a receiver is, by its kind -/
theorem z_inv_spec {y1 : Nat} {as1 : List z_V} {c1 : z_C} (hb2 : ¬ b < 2) (h : z_inv a b e' y pc ls st M = z_ca y1 as1 c1) :
    ∃ (ar rest : List z_V) (t i : Nat), as1 = z_r t i :: ar ∧ st = ar.reverse ++ z_r t i :: rest ∧ ar.length = e' ∧ c1 = (y, pc + 3, ls, rest, M) ∧ z_ct rest ≤ 8 ∧ b ≠ 9 ∧
      (b < 4 → y1 = a ∧ t < 64) ∧ (b = 4 → y1 = a ∧ z_rc M t i a = true) ∧ (4 < b → z_g M t i = true ∧ ∃ cc, z_co M t i = some cc ∧ ((b = 7 ∧ y1 = a ∧ cc < 7) ∨ (b ≠ 7 ∧ z_vt a cc = some y1))) := by
  unfold z_inv at h
  split at h
  · cases h
  · next as2 r2 htk =>
    have hb2' : Nat.blt b 2 = false := by
      cases hq : Nat.blt b 2 with
      | false => rfl
      | true => exact absurd (Nat.le_of_ble_eq_true hq) hb2
    rw [hb2'] at h
    simp only [cond_false] at h
    obtain ⟨ar, q1, q2, q3⟩ := z_tk_spec _ _ _ _ _ htk
    rw [List.append_nil] at q1
    subst q1
    split at h
    · next t i rest =>
      cases h8 : Nat.blt 8 (z_ct rest) with
      | true => rw [h8] at h; cases h
      | false =>
        rw [h8] at h
        have h8' : z_ct rest ≤ 8 := by
          rcases Nat.lt_or_ge 8 (z_ct rest) with g1 | g1
          · have : Nat.blt 8 (z_ct rest) = true := Nat.ble_eq_true_of_le g1
            rw [this] at h8; cases h8
          · exact g1
        simp only [cond_false] at h
        cases h9 : Nat.beq b 9 with
        | true =>
          rw [h9] at h
          simp only [cond_true] at h
          cases h64 : Nat.blt t 64 with
          | true => rw [h64] at h; cases h
          | false => rw [h64] at h; cases h
        | false =>
          rw [h9] at h
          have hb9 : b ≠ 9 := fun q => by rw [q] at h9; cases h9
          simp only [cond_false] at h
          by_cases hb4 : b < 4
          · have hb4' : Nat.blt b 4 = true := Nat.ble_eq_true_of_le hb4
            rw [hb4'] at h
            cases h64 : Nat.blt t 64 with
            | false => rw [h64] at h; cases h
            | true =>
              rw [h64] at h
              simp only [cond_true, Sum.inr.injEq, Sum.inl.injEq, Prod.mk.injEq] at h
              obtain ⟨e1, e2, e3⟩ := h
              exact ⟨as2, rest, t, i, e2.symm, q2, q3, e3.symm, h8', hb9, fun _ => ⟨e1.symm, Nat.le_of_ble_eq_true h64⟩, fun q => by omega, fun q => by omega⟩
          · have hb4' : Nat.blt b 4 = false := by
              cases hq : Nat.blt b 4 with
              | false => rfl
              | true => exact absurd (Nat.le_of_ble_eq_true hq) hb4
            rw [hb4'] at h
            simp only [cond_false] at h
            by_cases hb44 : b = 4
            · subst hb44
              simp only [show Nat.beq 4 4 = true from rfl, cond_true] at h
              cases hrc : z_rc M t i a with
              | false => rw [hrc] at h; cases h
              | true =>
                rw [hrc] at h
                simp only [cond_true, Sum.inr.injEq, Sum.inl.injEq, Prod.mk.injEq] at h
                obtain ⟨e1, e2, e3⟩ := h
                exact ⟨as2, rest, t, i, e2.symm, q2, q3, e3.symm, h8', hb9, fun q => by omega, fun _ => ⟨e1.symm, hrc⟩, fun q => by omega⟩
            · rw [z_beq_f hb44] at h
              simp only [cond_false] at h
              cases hg : z_g M t i with
              | false => rw [hg] at h; cases h
              | true =>
                rw [hg] at h
                simp only [cond_true] at h
                split at h
                · cases h
                · next cc hcc =>
                  by_cases hb7 : b = 7
                  · subst hb7
                    simp only [show Nat.beq 7 7 = true from rfl, cond_true] at h
                    cases h7 : Nat.blt cc 7 with
                    | false => rw [h7] at h; cases h
                    | true =>
                      rw [h7] at h
                      simp only [cond_true, Sum.inr.injEq, Sum.inl.injEq, Prod.mk.injEq] at h
                      obtain ⟨e1, e2, e3⟩ := h
                      exact ⟨as2, rest, t, i, e2.symm, q2, q3, e3.symm, h8', hb9, fun q => by omega, fun q => by omega, fun _ => ⟨hg, cc, hcc, Or.inl ⟨rfl, e1.symm, Nat.le_of_ble_eq_true h7⟩⟩⟩
                  · rw [z_beq_f hb7] at h
                    simp only [cond_false] at h
                    split at h
                    · cases h
                    · next y2 hvt =>
                      simp only [Sum.inr.injEq, Sum.inl.injEq, Prod.mk.injEq] at h
                      obtain ⟨e1, e2, e3⟩ := h
                      exact ⟨as2, rest, t, i, e2.symm, q2, q3, e3.symm, h8', hb9, fun q => by omega, fun q => by omega, fun _ => ⟨hg, cc, hcc, Or.inr ⟨hb7, by rw [hvt, e1]⟩⟩⟩
    · cases h
/-- one class above another -/
theorem z_isSub {C1 C2 : String} {ps pm : ClassId} (h : (Cond.superclass C1 C2).before args s = true) (hps : s.vm.findClass C1 = some ps) (hpm : s.vm.findClass C2 = some pm) : s.vm.isSubclass ps pm = true := by
  obtain ⟨p1, k1, kp, f1, f2, f3, f4, -⟩ := Cond.superclass_spec hps h
  cases f1.symm.trans hpm
  have hlt : ps < s.vm.classes.size := (Array.getElem?_eq_some_iff.mp f2).1
  obtain ⟨k2, hk2⟩ : ∃ k2, s.vm.classes.size = k2 + 1 := ⟨s.vm.classes.size - 1, (Nat.succ_pred_eq_of_pos (Nat.lt_of_le_of_lt (Nat.zero_le _) hlt)).symm⟩
  unfold Vm.isSubclass
  rw [hk2]
  simp [Vm.isSubclassAux, f2, f4]
theorem z_sup_all : ∀ g, g < 18 → ∀ r, r < 16 → (z_kl (16 * g + r)).all (fun p1 => p1.2.all (fun q1 => (bif Nat.beq q1.2.2.2.1.2.1 7 then decide (z_cn q1.2.2.2.1.2.2.2 = (z_nm q1.2.2.2.1.1).cls) || (Nat.beq q1.2.2.2.1.2.2.2 6 && decide ((z_nm q1.2.2.2.1.1).cls = "ShareNets$Share")) else true) || (match q1.2.1 with | .invokespecial _ => false | _ => true))) = true := by decide +kernel
theorem z_sup_ok {ix : Nat} (hcd : z_cd y pc = some (.invokespecial ix, len, (a, b, e', f), ki, kj)) (hb : b = 7) : z_cn f = (z_nm a).cls ∨ (f = 6 ∧ (z_nm a).cls = "ShareNets$Share") := by
  subst hb
  obtain ⟨p1, h1, h2⟩ := z_lk2_mem hcd
  by_cases hy : 286 ≤ y
  · rw [z_kl_out hy] at h1
    cases h1
  · have h3 := z_sup_all (y / 16) (by omega) (y % 16) (Nat.mod_lt _ (by decide))
    rw [show 16 * (y / 16) + y % 16 = y by omega] at h3
    have h4 := List.all_eq_true.mp (List.all_eq_true.mp h3 p1 h1) _ h2
    simp only [show Nat.beq 7 7 = true from rfl, cond_true, Bool.or_eq_true, Bool.and_eq_true, decide_eq_true_eq, Bool.false_eq_true, or_false] at h4
    rcases h4 with h4 | ⟨h4, h5⟩
    · exact Or.inl h4
    · exact Or.inr ⟨Nat.eq_of_beq_eq_true h4, h5⟩
theorem z_g_lt {t i : Nat} (h : z_g M t i = true) : t < 64 := (z_g_off h).2.2.1
/-- a super call, also of a method that the superclass only inherits -/
theorem z_runSUO {ix : Nat} {x y2 : MethodName} {bytes cc : ByteArray} {maxL nL mc ms n : Nat} {ret : Option FieldType} {ws : List Cond} {rm : Room} {Pc : Array Value → State → Prop} {Qc : Array Value → State → Outcome → State → Prop} {free : Addr → Prop} {Ts : List Cond} {own : String} {b1 : Addr} {As rest : List Value} {g : JFrame} {H : Heap} {locs : List Loc} {cells slots : Nat}
    (S : CallFix p m c cc nL s args Ts own) (hM : Met l y2 ws rm Pc Qc mc ms free) (hback : rm.cells = mc ∧ rm.slots = ms ∧ rm.frames + 1 ≤ R.frames ∧ 8 + (maxL + 11) + rm.locals ≤ R.locals ∧ (∀ w ∈ ws, ∀ (a' : Array Value) (U : State), s.WarmedH U.vm → w.before a' U = true) ∧ Cond.code y2 bytes maxL ret ∈ ws)
    (hl1 : (Cond.methodLink own ix x).before args s = true) (hl2 : (Cond.sameMethod x.cls y2.cls x.name x.desc).before args s = true) (hl3 : (Cond.superclass own x.cls).before args s = true) (hinst : (Cond.instanceMethod y2).before args s = true) (hini : (Cond.initialized y2.cls).before args s = true) (hcode : (Cond.code y2 bytes maxL ret).before args s = true) (hnn : y2.name = x.name ∧ y2.desc = x.desc) (hno : x.name ≠ "<init>") (hlen : ∀ sig, parseMethodDescriptor y2.desc = some sig → n = sig.parameters.length)
    (hsub : ∀ ps pm : ClassId, s.vm.findClass x.cls = some ps → s.vm.findClass y2.cls = some pm → s.vm.isSubclass ps pm = true)
    (hrec : ∃ (cellB : Cell) (kB : Class), H[b1]? = some cellB ∧ cellB.vm.isStatics = false ∧ s.vm.classes[cellB.cls]? = some kB) (hp : FrameBlind Pc ∧ ∀ U : State, U.heap = H → s.WarmedH U.vm → Pc (Value.ref b1 :: As).toArray U)
    (hg : g.method = m) (hn : As.length = n) (hsize : g.locals.size = nL) (hstack : g.stack = As.reverse ++ .ref b1 :: rest) (hW : 2 * g.monitorRoom + (rest.map fun v => v.category).sum ≤ 8) (hdg : decode cc g.pc = .ok (.invokespecial ix, 3)) (hf : cells + mc ≤ R.cells ∧ slots + ms ≤ R.slots) :
    va_Run p l e R s m args below meth c H locs cells slots mc ms g rest (Qc (Value.ref b1 :: As).toArray) (free) := by
  obtain ⟨hrc, hrs, hfr, hlo, hws, hcw⟩ := hback
  have hK : Back l R p e below s args y2 3 8 (PreOf R mc ms Pc) (PostOf Qc mc ms free) := back_of (bytes := bytes) (maxL := maxL) (ret := ret) hM hp.1 hrc hrs hfr hlo hws hcw (fun a' U hW => word_at hW (Or.inl (by first | rfl | simp [Cond.onTables, Cond.keeps, Cond.steady])) hini)
  obtain ⟨hx, hb, hml, ho, -⟩ := S
  obtain ⟨cellB, kB, hcB, hoB, hkB⟩ := hrec
  intro T hT X
  obtain ⟨mk, methM, hnamed, hmethM, hstM, habM⟩ := Cond.instanceMethod_spec hinst
  obtain ⟨methM', cM, hmethM', -, -, -, -, -, -, hsigM⟩ := Cond.code_spec hnamed hcode
  cases hmethM.symm.trans hmethM'
  obtain ⟨ps, dk, kp, hps, hdk, hkp, hsuper, -, -, hnid⟩ := Cond.superclass_spec ho hl3
  have hn2 : s.methodNamed? ⟨y2.cls, x.name, x.desc⟩ = some mk := by rw [← hnn.1, ← hnn.2]; exact hnamed
  have hcB' : T.heap[b1]? = some cellB := by rw [hT]; exact hcB
  have hlenM : As.length = methM.sig.parameters.length := hn.trans (hlen _ hsigM)
  have hdg' : decode c.code g.pc = .ok (.invokespecial ix, 3) := by rw [hb]; exact hdg
  obtain ⟨vm₁, X₁, hstep₁⟩ := X.invokespecialUp hx ho hl1 hl2 hn2 hmethM hstM habM hno hdk hnid hps hsuper (hsub _ _ hps (findClass_of_methodNamed hnamed)) (a := b1) (cell := cellB) hcB'
    (fun z h => by rw [h] at hoB; cases hoB) hkB (g := g) hg (argsL := As) (rest := rest) hlenM hstack hdg'
  have hpre : PreOf R mc ms Pc ⟨T.setVm vm₁, locs, cells, slots⟩ (Value.ref b1 :: As).toArray := ⟨hf.1, hf.2, hp.2 (T.setVm vm₁) hT X₁.warmed⟩
  obtain ⟨v, ⟨U', l2, c2, s2⟩, X', ⟨g', mk', t, L', e1, e2, hq, h1, hL, h2, h3⟩, hsteps⟩ := hK m meth c ⟨T.setVm vm₁, locs, cells, slots⟩ { g with stack := rest } (.invokespecial ix) mk (Value.ref b1 :: As).toArray X₁ hg (hsize.trans hml.symm) hdg' hW (X₁.named hnamed) hpre
  dsimp only [Pt.U, Pt.locs, Pt.cells, Pt.slots] at X' e1 e2 h1 h2 h3 hsteps
  subst h1; subst h2; subst h3
  exact ⟨v, (T.setVm vm₁).calling g' mk' (Value.ref b1 :: As).toArray, t, U', L', hT, X', hL, e1, e2, hq, fun target h => hstep₁ _ (by rw [doInvoke_state]; exact hsteps.trans h)⟩
theorem z_call_special {ix d1 y1 : Nat} {as1 : List z_V} {c1 : z_C} {r1 : Option z_V × z_M} (F : z_Fx G L xs p s m meth c y M0) (hn0 : n0 = z_nc M0) (hcd : z_cd y pc = some (.invokespecial ix, len, (a, b, e', f), ki, kj)) (h : z_step (y, pc, ls, st, M) = z_ca y1 as1 c1)
    (hM : z_Met G L xs l d1 y1 as1 M r1) (hRf : d1 + 2 ≤ R.frames) (hRl : 40 * (d1 + 2) ≤ R.locals) (hRc : z_nc r1.2 - n0 ≤ R.cells) (hRs : z_sl r1.2 - s0 ≤ R.slots) (hs0 : s0 ≤ z_sl M) (hnn : z_nc M ≤ z_nc r1.2) (hss : z_sl M ≤ z_sl r1.2)
    (K : z_K G L xs p l e R s m args below meth c Q n0 s0 (c1.1, c1.2.1, c1.2.2.1, r1.1.toList ++ c1.2.2.2.1, r1.2)) : z_K G L xs p l e R s m args below meth c Q n0 s0 (y, pc, ls, st, M) := by
  obtain ⟨hd, ho, hn⟩ := z_cd_ok hcd
  have hw := F.words args
  have hxx := F.ex
  obtain ⟨hx, hb, hml, hown, -, -, hnm, hSt⟩ := F
  have hsz0 := hSt.2.1
  rw [← hn0] at hsz0
  simp only [z_step, hcd] at h
  simp only [z_oke, Bool.and_eq_true, Bool.or_eq_true, decide_eq_true_eq] at ho
  obtain ⟨ho1, ho⟩ := ho
  obtain rfl : len = 3 := Nat.eq_of_beq_eq_true ho1
  have hbk : b = 9 ∨ ((b = 2 ∨ b = 3) ∧ a < 285 ∧ (z_nm a).name = "<init>" ∧ z_pn (z_nm a) e' = true ∧ (z_mi a).2.2.2 = none) ∨ (b = 7 ∧ a < 285 ∧ (z_nm a).name ≠ "<init>" ∧ z_pn (z_nm a) e' = true) := by
    rcases ho with (⟨q1, -⟩ | ⟨⟨⟨⟨q1, q2⟩, q3⟩, q4⟩, q5⟩) | ⟨⟨⟨q1, q2⟩, q3⟩, q4⟩
    · exact Or.inl (Nat.eq_of_beq_eq_true q1)
    · refine Or.inr (Or.inl ⟨?_, Nat.le_of_ble_eq_true q2, q3, q4, q5⟩)
      rcases q1 with q1 | q1
      · exact Or.inl (Nat.eq_of_beq_eq_true q1)
      · exact Or.inr (Nat.eq_of_beq_eq_true q1)
    · exact Or.inr (Or.inr ⟨Nat.eq_of_beq_eq_true q1, Nat.le_of_ble_eq_true q2, q3, q4⟩)
  have hb2 : ¬ b < 2 := by omega
  obtain ⟨ar, rest, t, i, e1, e2, e3, e4, e5, e6, e7, e8, e9⟩ := z_inv_spec hb2 h
  subst e1; subst e4
  intro H locs lsC hR hl
  have hR : z_Rp G L xs s M H locs := hR
  show W p l e R s m args below meth c H locs (z_nc M - n0) (z_sl M - s0) Q _
  refine z_sized hsz0 hR fun hH => ?_
  have hle : n0 ≤ z_nc M := by have := hR.2.1; omega
  have hcat : 2 * (F0 m pc lsC (List.map (z_tv G) st)).monitorRoom + ((rest.map (z_tv G)).map fun v => v.category).sum ≤ 8 := lv_room (by rw [z_ct_spec hxx]; exact e5)
  have hlen1 : (ar.map (z_tv G)).length = e' := by rw [List.length_map]; exact e3
  rcases hbk with q9 | ⟨q1, ha, q3, q4, q5⟩ | ⟨q1, ha, q3, q4⟩
  · exact absurd q9 e6
  · obtain ⟨hy1, ht⟩ := e7 (by omega)
    subst hy1
    have had := z_tv_h (G := G) (i := i) ht
    obtain ⟨pn1, pn2, pn3⟩ := z_pn_spec q4
    have hroom := z_room (R := R) (mc := z_nc r1.2 - z_nc M) (ms := z_sl r1.2 - z_sl M) ha hRf hRl
    have hini := hw _ (hn (.initialized (z_nm y1).cls) (by simp [z_need, show ¬ b = 9 by omega, show ¬ b = 6 by omega, show ¬ b = 7 by omega]) rfl)
    have hins := hw _ (hn (.instanceMethod (z_nm y1)) (by simp [z_need, show ¬ b = 9 by omega, show ¬ b = 6 by omega, show ¬ b = 7 by omega, hb2, show b < 4 by omega]) rfl)
    have hcw : Cond.code (z_nm y1) (z_mi y1).2.1 (z_mi y1).2.2.1 none = z_cw y1 := by unfold z_cw; rw [q5]; rfl
    have hpre : PreS s H (z_Pc G L xs (z_r t i :: ar) M) (.ref (G.2.2.1 + z_off t i) :: ar.map (z_tv G)) := ⟨z_blind, fun U hU hW => ⟨by rw [← had]; rfl, hSt.moved hR hH hU hW⟩⟩
    have hstk : (F0 m pc lsC (List.map (z_tv G) st)).stack = (ar.map (z_tv G)).reverse ++ .ref (G.2.2.1 + z_off t i) :: rest.map (z_tv G) := by
      show List.map (z_tv G) st = _
      rw [e2, List.map_append, List.map_reverse, List.map_cons, had]
    by_cases hb3 : b = 3
    · have hlk := hw _ (hn (.methodLinkNest (z_nm y).cls ix (z_nm y1) "ShareNets") (by simp [z_need, hb3]) rfl)
      exact z_after (rest0 := rest) (va_runIN (bytes := (z_mi y1).2.1) (maxL := (z_mi y1).2.2.1) ⟨hx, hb, hml, hown, hw⟩ hM ⟨⟨⟨rfl, rfl, hroom.1, hroom.2, z_cw_ws hw ha, by rw [hcw]; exact List.mem_singleton.mpr rfl⟩, by rw [hcw]; exact hw _ (z_cwn y1 ha), hini, ⟨pn1, pn2⟩, pn3, hlk⟩, q3, hins⟩ hpre rfl hlen1 hl.1 hstk hcat hd ⟨by omega, by omega⟩) rfl hR hl hle hs0 hnn hss K
    · have hlk := hw _ (hn (.methodLink (z_nm y).cls ix (z_nm y1)) (by simp [z_need, show ¬ b = 9 by omega, show ¬ b = 6 by omega, show ¬ b = 7 by omega, hb3, show ¬ b = 1 by omega]) rfl)
      exact z_after (rest0 := rest) (va_runI (bytes := (z_mi y1).2.1) (maxL := (z_mi y1).2.2.1) ⟨hx, hb, hml, hown, hw⟩ hM ⟨⟨rfl, rfl, hroom.1, hroom.2, z_cw_ws hw ha, by rw [hcw]; exact List.mem_singleton.mpr rfl, by rw [hcw]; exact hw _ (z_cwn y1 ha), hini, ⟨pn1, pn2⟩, pn3, hlk⟩, q3, hins⟩ hpre rfl hlen1 hl.1 hstk hcat hd ⟨by omega, by omega⟩) rfl hR hl hle hs0 hnn hss K
  · obtain ⟨hg, cc, hcc, hk7⟩ := e9 (by omega)
    have hy1 : y1 = a ∧ cc < 7 := by
      rcases hk7 with ⟨-, z1, z2⟩ | ⟨z1, -⟩
      · exact ⟨z1, z2⟩
      · exact absurd q1 z1
    obtain ⟨hy1, hc7⟩ := hy1
    subst hy1
    have ht := z_g_lt hg
    obtain ⟨w1, w2, -⟩ := z_co_lt (G := G) hR.2.2.1 hg hcc
    obtain ⟨cellB, g1, g2, g3⟩ := va_recv (hSt.2.2.2.2.1) hR.1 (z_cl_at cc w1) w2
    obtain ⟨kB, hkB, -⟩ := Vm.findClass_spec g3
    obtain ⟨pn1, pn2, pn3⟩ := z_pn_spec q4
    have hroom := z_room (R := R) (mc := z_nc r1.2 - z_nc M) (ms := z_sl r1.2 - z_sl M) ha hRf hRl
    have hini := hw _ (hn (.initialized (z_nm y1).cls) (by simp [z_need, q1]) rfl)
    have hins := hw _ (hn (.instanceMethod (z_nm y1)) (by simp [z_need, q1]) rfl)
    have hlk := hw _ (hn (.methodLink (z_nm y).cls ix ⟨z_cn f, (z_nm y1).name, (z_nm y1).desc⟩) (by simp [z_need, q1]) rfl)
    have hsm := hw _ (hn (.sameMethod (z_cn f) (z_nm y1).cls (z_nm y1).name (z_nm y1).desc) (by simp [z_need, q1]) rfl)
    have hsp := hw _ (hn (.superclass (z_nm y).cls (z_cn f)) (by simp [z_need, q1]) rfl)
    have hstk : (F0 m pc lsC (List.map (z_tv G) st)).stack = (ar.map (z_tv G)).reverse ++ .ref (G.2.2.1 + z_off t i) :: rest.map (z_tv G) := by
      show List.map (z_tv G) st = _
      rw [e2, List.map_append, List.map_reverse, List.map_cons, z_tv_h ht]
    refine z_after (rest0 := rest) (z_runSUO (x := ⟨z_cn f, (z_nm y1).name, (z_nm y1).desc⟩) ⟨hx, hb, hml, hown, hw⟩ hM ⟨rfl, rfl, hroom.1, hroom.2, z_cw_ws hw ha, List.mem_singleton.mpr rfl⟩ hlk hsm hsp hins hini (hw _ (z_cwn y1 ha)) ⟨rfl, rfl⟩ q3 pn3 ?_ ⟨cellB, kB, g1, g2, hkB⟩ ⟨z_blind, fun U hU hW => ⟨by rw [List.map_cons, z_tv_h ht], hSt.moved hR hH hU hW⟩⟩ rfl hlen1 hl.1 hstk hcat hd ⟨by omega, by omega⟩) rfl hR hl hle hs0 hnn hss K
    intro ps pm hps hpm
    rcases z_sup_ok hcd q1 with z1 | ⟨z1, z2⟩
    · have z3 : s.vm.findClass (z_nm y1).cls = some ps := by rw [← z1]; exact hps
      cases hpm.symm.trans z3
      simp [Vm.isSubclass, Vm.isSubclassAux]
    · subst z1
      rw [z2] at hpm
      exact z_isSub (C1 := "ShareNets$Sum") (C2 := "ShareNets$Share") (hw _ (z_tbl_of (List.mem_of_getElem? (i := 821) (by decide +kernel)) rfl)) hps hpm
end
end
section
/-! virtual calls; Object.<init>; answers -/
section
variable {G : z_G} {L : Nat} {xs : Nat → Int32} {p : Program} {l : Launch} {e : Env} {R : Room} {s : State} {m : MethodId} {args : Array Value} {below : List Frame} {meth : Method} {c : Code} {Q : State → Prop} {n0 s0 : Nat} {M0 : z_M}
variable {y pc len a b e' f : Nat} {ki : Int32} {kj : Int64} {ls : List (Option z_V)} {st : List z_V} {M : z_M} {c' : z_C}
theorem z_call_virtual {ix d1 y1 : Nat} {as1 : List z_V} {c1 : z_C} {r1 : Option z_V × z_M} (F : z_Fx G L xs p s m meth c y M0) (hn0 : n0 = z_nc M0) (hcd : z_cd y pc = some (.invokevirtual ix, len, (a, b, e', f), ki, kj)) (h : z_step (y, pc, ls, st, M) = z_ca y1 as1 c1)
    (hM : z_Met G L xs l d1 y1 as1 M r1) (hRf : d1 + 2 ≤ R.frames) (hRl : 40 * (d1 + 2) ≤ R.locals) (hRc : z_nc r1.2 - n0 ≤ R.cells) (hRs : z_sl r1.2 - s0 ≤ R.slots) (hs0 : s0 ≤ z_sl M) (hnn : z_nc M ≤ z_nc r1.2) (hss : z_sl M ≤ z_sl r1.2)
    (K : z_K G L xs p l e R s m args below meth c Q n0 s0 (c1.1, c1.2.1, c1.2.2.1, r1.1.toList ++ c1.2.2.2.1, r1.2)) : z_K G L xs p l e R s m args below meth c Q n0 s0 (y, pc, ls, st, M) := by
  obtain ⟨hd, ho, hn⟩ := z_cd_ok hcd
  have hw := F.words args
  have hxx := F.ex
  obtain ⟨hx, hb, hml, hown, -, -, hnm, hSt⟩ := F
  have hsz0 := hSt.2.1
  rw [← hn0] at hsz0
  simp only [z_step, hcd] at h
  simp only [z_oke, Bool.and_eq_true, Bool.or_eq_true] at ho
  obtain ⟨ho1, ho⟩ := ho
  obtain rfl : len = 3 := Nat.eq_of_beq_eq_true ho1
  have hbk : (b = 4 ∧ a < 285 ∧ z_pn (z_nm a) e' = true) ∨ (b = 6 ∧ a < 5 ∧ z_pn (z_vx a) e' = true ∧ z_pn (z_nm (z_vo a)) e' = true) := by
    rcases ho with ⟨⟨q1, q2⟩, q3⟩ | ⟨⟨⟨q1, q2⟩, q3⟩, q4⟩
    · exact Or.inl ⟨Nat.eq_of_beq_eq_true q1, Nat.le_of_ble_eq_true q2, q3⟩
    · exact Or.inr ⟨Nat.eq_of_beq_eq_true q1, Nat.le_of_ble_eq_true q2, q3, q4⟩
  have hb2 : ¬ b < 2 := by omega
  obtain ⟨ar, rest, t, i, e1, e2, e3, e4, e5, e6, e7, e8, e9⟩ := z_inv_spec hb2 h
  subst e1; subst e4
  intro H locs lsC hR hl
  have hR : z_Rp G L xs s M H locs := hR
  show W p l e R s m args below meth c H locs (z_nc M - n0) (z_sl M - s0) Q _
  refine z_sized hsz0 hR fun hH => ?_
  have hle : n0 ≤ z_nc M := by have := hR.2.1; omega
  have hcat : 2 * (F0 m pc lsC (List.map (z_tv G) st)).monitorRoom + ((rest.map (z_tv G)).map fun v => v.category).sum ≤ 8 := lv_room (by rw [z_ct_spec hxx]; exact e5)
  have hlen1 : (ar.map (z_tv G)).length = e' := by rw [List.length_map]; exact e3
  rcases hbk with ⟨q1, ha, q3⟩ | ⟨q1, ha, q3, q4⟩
  · obtain ⟨hy1, hrc⟩ := e8 q1
    subst hy1
    obtain ⟨pn1, pn2, pn3⟩ := z_pn_spec q3
    have hroom := z_room (R := R) (mc := z_nc r1.2 - z_nc M) (ms := z_sl r1.2 - z_sl M) ha hRf hRl
    have hini := hw _ (hn (.initialized (z_nm y1).cls) (by simp [z_need, q1]) rfl)
    have hins := hw _ (hn (.instanceMethod (z_nm y1)) (by simp [z_need, q1]) rfl)
    have hsel := hw _ (hn (.selects (z_nm y1).cls (z_nm y1) (z_nm y1)) (by simp [z_need, q1]) rfl)
    have hlk := hw _ (hn (.methodLink (z_nm y).cls ix (z_nm y1)) (by simp [z_need, q1]) rfl)
    -- the receiver's cell
    have key : ∃ ad, z_tv G (z_r t i) = .ref ad ∧ ∃ cellB : Cell, H[ad]? = some cellB ∧ cellB.vm.isStatics = false ∧ s.vm.findClass (z_nm y1).cls = some cellB.cls := by
      unfold z_rc at hrc
      by_cases h13 : z_yc y1 = 13
      · rw [h13] at hrc
        simp only [show Nat.beq 13 13 = true from rfl, cond_true, Bool.and_eq_true, decide_eq_true_eq] at hrc
        obtain ⟨⟨w1, w2⟩, w3⟩ := hrc
        obtain rfl : t = 64 := Nat.eq_of_beq_eq_true w1
        have w2 : y1 ∈ z_strm := by simpa using w2
        obtain ⟨-, ⟨adK, adV, k1, k2, -⟩, -⟩ := hSt.2.2.2.2.2.2
        refine ⟨adK i, by rw [z_tv_x (by decide)]; exact (k1 i w3).1, ?_⟩
        rw [z_strm_cn y1 w2]
        exact vk_recv k2 w3 hR.2.2.2.2
      · rw [z_beq_f h13] at hrc
        simp only [cond_false, Bool.and_eq_true, decide_eq_true_eq] at hrc
        obtain ⟨w1, w2⟩ := hrc
        obtain ⟨g1, g2, g3⟩ := z_co_lt (G := G) hR.2.2.1 w2 w1
        refine ⟨_, z_tv_h g3, ?_⟩
        have hr := va_recv (hSt.2.2.2.2.1) hR.1 (z_cl_at _ g1) g2
        rw [← z_yc_cn y1 ha g1]
        exact hr
    obtain ⟨ad, had, hrec⟩ := key
    have hpre : PreV s H (z_nm y1).cls ad (z_Pc G L xs (z_r t i :: ar) M) (ar.map (z_tv G)) := ⟨z_blind, hrec, fun U hU hW => ⟨by rw [← had]; rfl, hSt.moved hR hH hU hW⟩⟩
    have hstk : (F0 m pc lsC (List.map (z_tv G) st)).stack = (ar.map (z_tv G)).reverse ++ .ref ad :: rest.map (z_tv G) := by
      show List.map (z_tv G) st = _
      rw [e2, List.map_append, List.map_reverse, List.map_cons, had]
    exact z_after (rest0 := rest) (va_runV (bytes := (z_mi y1).2.1) (maxL := (z_mi y1).2.2.1) (ret := (z_mi y1).2.2.2) ⟨hx, hb, hml, hown, hw⟩ hM ⟨⟨rfl, rfl, hroom.1, hroom.2, z_cw_ws hw ha, List.mem_singleton.mpr rfl, hw _ (z_cwn y1 ha), hini, ⟨pn1, pn2⟩, pn3, hlk⟩, hins, hsel⟩ hpre rfl hlen1 hl.1 hstk hcat hd ⟨by omega, by omega⟩) rfl hR hl hle hs0 hnn hss K
  · obtain ⟨hg, cc, hcc, hk7⟩ := e9 (by omega)
    have hvt : z_vt a cc = some y1 := by
      rcases hk7 with ⟨z1, -⟩ | ⟨-, z1⟩
      · omega
      · exact z1
    have ht := z_g_lt hg
    obtain ⟨g1, g2, -⟩ := z_co_lt (G := G) hR.2.2.1 hg hcc
    have hva := z_vt_all a ha cc g1
    rw [hvt] at hva
    have hva := of_decide_eq_true hva
    obtain ⟨hy1, hmem⟩ := hva
    obtain ⟨vo1, vo2, vo3⟩ := z_vo_all a ha
    obtain ⟨pn1, pn2, pn3⟩ := z_pn_spec q3
    obtain ⟨po1, po2, -⟩ := z_pn_spec q4
    have hroom := z_room (R := R) (mc := z_nc r1.2 - z_nc M) (ms := z_sl r1.2 - z_sl M) hy1 hRf hRl
    have hlk := hw _ (hn (.methodLink (z_nm y).cls ix (z_vx a)) (by simp [z_need, q1]) rfl)
    have hsm := hw _ (hn (.sameMethod (z_vx a).cls (z_nm (z_vo a)).cls (z_vx a).name (z_vx a).desc) (by simp [z_need, q1]) rfl)
    have hio := hw _ (hn (.instanceMethod (z_nm (z_vo a))) (by simp [z_need, q1]) rfl)
    have hin4 : ∀ w1, w1 ∈ ([.selects (z_cn cc) (z_vx a) (z_nm y1), .instanceMethod (z_nm y1), .initialized (z_nm y1).cls] : List Cond) → w1 ∈ z_need y (.invokevirtual ix, 3, (a, b, e', f), ki, kj) := by
      intro w1 hw1
      simp only [z_need, q1]
      refine List.mem_append_right _ (List.mem_flatMap.mpr ⟨cc, hmem, ?_⟩)
      rw [hvt]
      exact hw1
    have hsel := hw _ (hn (.selects (z_cn cc) (z_vx a) (z_nm y1)) (hin4 _ (by simp)) rfl)
    have hins := hw _ (hn (.instanceMethod (z_nm y1)) (hin4 _ (by simp)) rfl)
    have hini := hw _ (hn (.initialized (z_nm y1).cls) (hin4 _ (by simp)) rfl)
    have hrec := va_recv (hSt.2.2.2.2.1) hR.1 (z_cl_at _ g1) g2
    have hdecl : va_Decl s ⟨(z_nm (z_vo a)).cls, (z_vx a).name, (z_vx a).desc⟩ := by
      have h1 := va_Decl.of hio (hw _ (z_cwn (z_vo a) vo1))
      rw [← vo2, ← vo3]
      exact h1
    have hpre : PreV s H (z_cn cc) (G.2.2.1 + z_off t i) (z_Pc G L xs (z_r t i :: ar) M) (ar.map (z_tv G)) := ⟨z_blind, hrec, fun U hU hW => ⟨by rw [← z_tv_h (G := G) (i := i) ht]; rfl, hSt.moved hR hH hU hW⟩⟩
    have hstk : (F0 m pc lsC (List.map (z_tv G) st)).stack = (ar.map (z_tv G)).reverse ++ .ref (G.2.2.1 + z_off t i) :: rest.map (z_tv G) := by
      show List.map (z_tv G) st = _
      rw [e2, List.map_append, List.map_reverse, List.map_cons, z_tv_h ht]
    exact z_after (rest0 := rest) (va_runU (x := z_vx a) (owner := (z_nm (z_vo a)).cls) (bytes := (z_mi y1).2.1) (maxL := (z_mi y1).2.2.1) (ret := (z_mi y1).2.2.2) ⟨hx, hb, hml, hown, hw⟩ hM ⟨⟨rfl, rfl, hroom.1, hroom.2, z_cw_ws hw hy1, List.mem_singleton.mpr rfl⟩, hw _ (z_cwn y1 hy1), hini, ⟨po1, po2⟩, pn3, hlk, hsm, hdecl, hsel, hins⟩ hpre rfl hlen1 hl.1 hstk hcat hd ⟨by omega, by omega⟩) rfl hR hl hle hs0 hnn hss K
/-- Object.<init> -/
theorem z_s_objinit {ix : Nat} (F : z_Fx G L xs p s m meth c y M0) (hcd : z_cd y pc = some (.invokespecial ix, len, (a, b, e', f), ki, kj)) (h : z_step (y, pc, ls, st, M) = Sum.inl c') (hRf : 1 ≤ R.frames) (hRl : 40 ≤ R.locals) (K : z_K G L xs p l e R s m args below meth c Q n0 s0 c') : z_K G L xs p l e R s m args below meth c Q n0 s0 (y, pc, ls, st, M) := by
  obtain ⟨hd, ho, hn⟩ := z_cd_ok hcd
  have hw := F.words args
  have hxx := F.ex
  obtain ⟨hx, hb, hml, hown, -, -, hnm, hSt⟩ := F
  simp only [z_step, hcd, z_inv] at h
  simp only [z_oke, Bool.and_eq_true, Bool.or_eq_true, decide_eq_true_eq] at ho
  obtain ⟨ho1, ho⟩ := ho
  obtain rfl : len = 3 := Nat.eq_of_beq_eq_true ho1
  have hbk : (b = 9 ∧ e' = 0) ∨ (b = 2 ∨ b = 3 ∨ b = 7) := by
    rcases ho with (⟨q1, q2⟩ | ⟨⟨⟨⟨q1, q2⟩, q3⟩, q4⟩, q5⟩) | ⟨⟨⟨q1, q2⟩, q3⟩, q4⟩
    · exact Or.inl ⟨Nat.eq_of_beq_eq_true q1, Nat.eq_of_beq_eq_true q2⟩
    · rcases q1 with q1 | q1
      · exact Or.inr (Or.inl (Nat.eq_of_beq_eq_true q1))
      · exact Or.inr (Or.inr (Or.inl (Nat.eq_of_beq_eq_true q1)))
    · exact Or.inr (Or.inr (Or.inr (Nat.eq_of_beq_eq_true q1)))
  rcases hbk with ⟨q1, q2⟩ | q1
  · subst q1; subst q2
    simp only [z_tk, show Nat.blt 9 2 = false from rfl, show Nat.beq 9 9 = true from rfl, cond_true, cond_false] at h
    split at h
    · next t i rest =>
      cases h8 : Nat.blt 8 (z_ct rest) with
      | true => rw [h8] at h; cases h
      | false =>
        rw [h8] at h
        cases h64 : Nat.blt t 64 with
        | false => rw [h64] at h; cases h
        | true =>
          rw [h64] at h
          simp only [cond_true, cond_false, Sum.inl.injEq] at h
          subst h
          have h8' : z_ct rest ≤ 8 := by
            rcases Nat.lt_or_ge 8 (z_ct rest) with g1 | g1
            · have : Nat.blt 8 (z_ct rest) = true := Nat.ble_eq_true_of_le g1
              rw [this] at h8; cases h8
            · exact g1
          have hlk := hw _ (hn (.methodLink (z_nm y).cls ix Lib.objectInit) (by simp [z_need]) rfl)
          have hin := hw _ (hn (.instanceMethod Lib.objectInit) (by simp [z_need]) rfl)
          have hco := hw _ (hn (.code Lib.objectInit ⟨#[0xb1]⟩ 1 none) (by simp [z_need]) rfl)
          intro H locs lsC hR hl
          simp only [List.map_cons]
          rw [z_tv_h (Nat.le_of_ble_eq_true h64)]
          refine W.objInit hx hb hown hlk hin hco rfl (hl.1.trans hml.symm) rfl hd hRf ?_ (K H locs lsC hR hl)
          have h9 := z_ct_spec hxx rest
          show 2 * 0 + ((rest.map (z_tv G)).map fun v => v.category).sum + 12 ≤ R.locals
          rw [h9]
          omega
    · cases h
  · exfalso
    split at h
    · cases h
    · next as2 r2 htk =>
      have hb2' : Nat.blt b 2 = false := by rcases q1 with q1 | q1 | q1 <;> rw [q1] <;> rfl
      have hb9' : Nat.beq b 9 = false := by rcases q1 with q1 | q1 | q1 <;> rw [q1] <;> rfl
      rw [hb2'] at h
      simp only [cond_false, hb9'] at h
      split at h
      · next t i rest =>
        revert h
        cases Nat.blt 8 (z_ct rest) <;> cases Nat.blt b 4 <;> cases Nat.blt t 64 <;> cases Nat.beq b 4 <;> cases z_rc M t i a <;> cases z_g M t i <;> simp only [cond_true, cond_false] <;> intro h <;> first
          | cases h
          | (split at h <;> first | cases h | (cases hq7 : Nat.beq b 7 <;> rw [hq7] at h <;> simp only [cond_true, cond_false] at h <;> first | (split at h <;> cases h) | (next cc1 _ => cases hq8 : Nat.blt cc1 7 <;> rw [hq8] at h <;> cases h)))
      · cases h
end
end
section
/-! one step, a whole run -/
section
variable {G : z_G} {L : Nat} {xs : Nat → Int32} {p : Program} {l : Launch} {e : Env} {R : Room} {s : State} {m : MethodId} {args : Array Value} {below : List Frame} {meth : Method} {c : Code} {Q : State → Prop} {n0 s0 : Nat} {M0 : z_M}
variable {y pc len a b e' f : Nat} {ki : Int32} {kj : Int64} {ls : List (Option z_V)} {st : List z_V} {M : z_M} {c' : z_C}
theorem z_one (F : z_Fx G L xs p s m meth c y M0) (hn0 : n0 = z_nc M0) (h : z_step (y, pc, ls, st, M) = Sum.inl c') (hRf : 1 ≤ R.frames) (hRl : 40 ≤ R.locals) (hRc : z_nc c'.2.2.2.2 - n0 ≤ R.cells) (hRs : z_sl c'.2.2.2.2 - s0 ≤ R.slots) (hs0 : s0 ≤ z_sl M) (K : z_K G L xs p l e R s m args below meth c Q n0 s0 c') : z_K G L xs p l e R s m args below meth c Q n0 s0 (y, pc, ls, st, M) := by
  cases hcd : z_cd y pc with
  | none =>
    exfalso
    simp only [z_step, hcd] at h
    cases h
  | some q9 =>
    obtain ⟨ins, len, ⟨a, b, e', f⟩, ki, kj⟩ := q9
    cases ins with
    | iadd => exact z_s_iadd F hcd h K
    | isub => exact z_s_isub F hcd h K
    | imul => exact z_s_imul F hcd h K
    | iand => exact z_s_iand F hcd h K
    | ior => exact z_s_ior F hcd h K
    | ixor => exact z_s_ixor F hcd h K
    | ishl => exact z_s_ishl F hcd h K
    | ishr => exact z_s_ishr F hcd h K
    | ladd => exact z_s_ladd F hcd h K
    | lsub => exact z_s_lsub F hcd h K
    | lmul => exact z_s_lmul F hcd h K
    | land => exact z_s_land F hcd h K
    | lor => exact z_s_lor F hcd h K
    | lneg => exact z_s_lneg F hcd h K
    | iushr => exact z_s_iushr F hcd h K
    | lshl => exact z_s_lshl F hcd h K
    | lshr => exact z_s_lshr F hcd h K
    | lushr => exact z_s_lushr F hcd h K
    | i2l => exact z_s_i2l F hcd h K
    | l2i => exact z_s_l2i F hcd h K
    | i2b => exact z_s_i2b F hcd h K
    | i2s => exact z_s_i2s F hcd h K
    | i2c => exact z_s_i2c F hcd h K
    | lcmp => exact z_s_lcmp F hcd h K
    | idiv => exact z_s_idiv F hcd h K
    | irem => exact z_s_irem F hcd h K
    | ldiv => exact z_s_ldiv F hcd h K
    | lrem => exact z_s_lrem F hcd h K
    | pop => exact z_s_pop F hcd h K
    | dup => exact z_s_dup F hcd h K
    | dup2 => exact z_s_dup2 F hcd h K
    | iaload => exact z_s_iaload F hcd h K
    | baload => exact z_s_baload F hcd h K
    | laload => exact z_s_laload F hcd h K
    | aaload => exact z_s_aaload F hcd h K
    | iastore => exact z_s_iastore F hcd h K
    | lastore => exact z_s_lastore F hcd h K
    | aastore => exact z_s_aastore F hcd h K
    | arraylength => exact z_s_arraylength F hcd h K
    | iconst _ => exact z_s_iconst F hcd h K
    | bipush _ => exact z_s_bipush F hcd h K
    | sipush _ => exact z_s_sipush F hcd h K
    | lconst _ => exact z_s_lconst F hcd h K
    | iload _ => exact z_s_iload F hcd h K
    | iload_n _ => exact z_s_iload_n F hcd h K
    | lload _ => exact z_s_lload F hcd h K
    | lload_n _ => exact z_s_lload_n F hcd h K
    | aload _ => exact z_s_aload F hcd h K
    | aload_n _ => exact z_s_aload_n F hcd h K
    | istore _ => exact z_s_istore F hcd h K
    | istore_n _ => exact z_s_istore_n F hcd h K
    | lstore _ => exact z_s_lstore F hcd h K
    | lstore_n _ => exact z_s_lstore_n F hcd h K
    | astore _ => exact z_s_astore F hcd h K
    | astore_n _ => exact z_s_astore_n F hcd h K
    | goto _ => exact z_s_goto F hcd h K
    | ifnull _ => exact z_s_ifnull F hcd h K
    | ifnonnull _ => exact z_s_ifnonnull F hcd h K
    | getfield _ => exact z_s_getfield F hcd h K
    | putfield _ => exact z_s_putfield F hcd h K
    | getstatic _ => exact z_s_getstatic F hcd h K
    | ldc _ => exact z_s_ldc F hcd h K
    | instanceof _ => exact z_s_instanceof F hcd h K
    | aconst_null => exact z_s_null F hcd h K
    | ldc_w _ => exact z_s_ldcw F hcd h K
    | ldc2_w _ => exact z_s_ldc2 F hcd h K
    | iinc _ _ => exact z_s_iinc F hcd h K
    | tableswitch _ _ _ _ => exact z_s_tableswitch F hcd h K
    | lookupswitch _ _ => exact z_s_lookupswitch F hcd h K
    | new _ => exact z_s_new F hn0 hcd h hRc hRs hs0 K
    | newarray _ => exact z_s_newarray F hn0 hcd h hRc hRs hs0 K
    | anewarray _ => exact z_s_anewarray F hn0 hcd h hRc hRs hs0 K
    | invokespecial _ => exact z_s_objinit F hcd h hRf hRl K
    | invokestatic _ => exact z_s_math F hcd h hRf hRl hRc hRs K
    | ifCond cnd off =>
      cases cnd with
      | eq => exact z_s_if_eq F hcd h K
      | ne => exact z_s_if_ne F hcd h K
      | lt => exact z_s_if_lt F hcd h K
      | ge => exact z_s_if_ge F hcd h K
      | gt => exact z_s_if_gt F hcd h K
      | le => exact z_s_if_le F hcd h K
    | if_icmp cnd off =>
      cases cnd with
      | eq => exact z_s_icmp_eq F hcd h K
      | ne => exact z_s_icmp_ne F hcd h K
      | lt => exact z_s_icmp_lt F hcd h K
      | ge => exact z_s_icmp_ge F hcd h K
      | gt => exact z_s_icmp_gt F hcd h K
      | le => exact z_s_icmp_le F hcd h K
    | invokevirtual _ =>
      exfalso
      obtain ⟨-, ho, -⟩ := z_cd_ok hcd
      simp only [z_oke, Bool.and_eq_true, Bool.or_eq_true] at ho
      have hb46 : b = 4 ∨ b = 6 := by
        rcases ho.2 with ⟨⟨q1, -⟩, -⟩ | ⟨⟨⟨q1, -⟩, -⟩, -⟩
        · exact Or.inl (Nat.eq_of_beq_eq_true q1)
        · exact Or.inr (Nat.eq_of_beq_eq_true q1)
      rcases hb46 with rfl | rfl
      · simp only [z_step, hcd, z_inv, show Nat.blt 4 2 = false from rfl, show Nat.beq 4 9 = false from rfl, show Nat.blt 4 4 = false from rfl, show Nat.beq 4 4 = true from rfl, cond_true, cond_false] at h
        simp only [Bool.cond_eq_ite] at h
        (repeat' split at h) <;> (cases h; done)
      · simp only [z_step, hcd, z_inv, show Nat.blt 6 2 = false from rfl, show Nat.beq 6 9 = false from rfl, show Nat.blt 6 4 = false from rfl, show Nat.beq 6 4 = false from rfl, show Nat.beq 6 7 = false from rfl, cond_true, cond_false] at h
        simp only [Bool.cond_eq_ite] at h
        (repeat' split at h) <;> (cases h; done)
    | _ =>
      exfalso
      simp only [z_step, hcd] at h
      first
        | (cases h; done)
        | (unfold z_inv at h; simp only [Bool.cond_eq_ite] at h; (repeat' split at h) <;> cases h)
        | ((repeat' split at h) <;> cases h)
        | (simp only [Bool.cond_eq_ite] at h; (repeat' split at h) <;> cases h)
end
end
section
/-! the memory only grows; a call's place -/
theorem z_new_mono {M M' : z_M} {a t i : Nat} (h : z_new M a = some (M', t, i)) : z_nc M ≤ z_nc M' ∧ z_sl M ≤ z_sl M' := by
  unfold z_new at h
  dsimp only at h
  cases hM : M.1 with
  | true =>
    rw [hM] at h
    cases hm : (([0, 3, 5, 6] : List Nat).contains a) with
    | false => rw [hm] at h; cases h
    | true =>
      rw [hm] at h
      simp only [cond_true, Option.some.injEq, Prod.mk.injEq] at h
      obtain ⟨e1, -⟩ := h
      subst e1
      refine ⟨?_, ?_⟩
      · unfold z_nc
        rw [hM]
        show 102 + M.2.1.1 ≤ 102 + (M.2.1.1 + 1)
        omega
      · show M.2.1.2.1 ≤ M.2.1.2.1 + _
        omega
  | false =>
    rw [hM] at h
    cases hm : decide (z_tc (z_un M.2.1.1).1 = some a) with
    | false => rw [hm] at h; cases h
    | true =>
      rw [hm] at h
      simp only [cond_true, cond_false, Option.some.injEq, Prod.mk.injEq] at h
      obtain ⟨e1, -⟩ := h
      subst e1
      refine ⟨?_, ?_⟩
      · unfold z_nc
        rw [hM]
        show M.2.1.1 ≤ M.2.1.1 + 1
        omega
      · show M.2.1.2.1 ≤ M.2.1.2.1 + _
        omega
theorem z_newa_mono {M M' : z_M} {a t i : Nat} {x : Int32} (h : z_newa M a x = some (M', t, i)) : z_nc M ≤ z_nc M' ∧ z_sl M ≤ z_sl M' := by
  unfold z_newa at h
  cases hM : M.1 with
  | true => rw [hM] at h; cases h
  | false =>
    rw [hM] at h
    dsimp only [cond_false] at h
    split at h
    · cases h
    · next e1 n1 hta =>
      cases hm : (Nat.beq e1 a && z_in x (n1 + 1) && Nat.beq x.toNatClampNeg n1) with
      | false => rw [hm] at h; cases h
      | true =>
        rw [hm] at h
        simp only [cond_true, Option.some.injEq, Prod.mk.injEq] at h
        obtain ⟨e2, -⟩ := h
        subst e2
        refine ⟨?_, ?_⟩
        · unfold z_nc
          rw [hM]
          show M.2.1.1 ≤ M.2.1.1 + 1
          omega
        · show M.2.1.2.1 ≤ M.2.1.2.1 + _
          omega
set_option maxHeartbeats 4000000 in
theorem z_step_mono {y pc : Nat} {ls : List (Option z_V)} {st : List z_V} {M : z_M} {c' : z_C} (h : z_step (y, pc, ls, st, M) = Sum.inl c') : c'.1 = y ∧ z_nc M ≤ z_nc c'.2.2.2.2 ∧ z_sl M ≤ z_sl c'.2.2.2.2 := by
  cases hcd : z_cd y pc with
  | none =>
    exfalso
    simp only [z_step, hcd] at h
    cases h
  | some q9 =>
    obtain ⟨ins, len, ⟨a, b, e', f⟩, ki, kj⟩ := q9
    have key : ∀ {c2 : z_C}, (z_nx c2 : z_S) = Sum.inl c' → (c2.1 = y ∧ z_nc M ≤ z_nc c2.2.2.2.2 ∧ z_sl M ≤ z_sl c2.2.2.2.2) → c'.1 = y ∧ z_nc M ≤ z_nc c'.2.2.2.2 ∧ z_sl M ≤ z_sl c'.2.2.2.2 := by
      intro c2 e1 e2
      cases e1
      exact e2
    cases ins with
    | putfield _ =>
      simp only [z_step, hcd] at h
      split at h
      · simp only [Bool.cond_eq_ite] at h
        (repeat' split at h) <;> first | (cases h; done) | exact key h ⟨rfl, Nat.le_refl _, Nat.le_refl _⟩
      · simp only [Bool.cond_eq_ite] at h
        (repeat' split at h) <;> first | (cases h; done) | exact key h ⟨rfl, Nat.le_refl _, Nat.le_refl _⟩
      · next x t i r =>
        cases hg : (decide (z_tc t = some e') && Nat.beq b 2 && Nat.blt x.1 64 && (bif M.1 then false else true) && z_g M t i) with
        | false => rw [hg] at h; cases h
        | true =>
          rw [hg] at h
          simp only [Bool.and_eq_true] at hg
          have h5 := hg.1.2
          have hM : M.1 = false := by
            cases hq : M.1 with
            | false => rfl
            | true => rw [hq] at h5; cases h5
          cases hdn : z_done M.2.1.1 (z_up M.2.1.2.2.2 t i a (some x)) with
          | true =>
            simp only [cond_true, hdn] at h
            refine key h ⟨rfl, ?_, Nat.le_refl _⟩
            have h102 := (z_done_spec hdn).1
            unfold z_nc
            rw [hM, h102]
            exact Nat.le_refl _
          | false =>
            simp only [cond_true, hdn, cond_false] at h
            refine key h ⟨rfl, ?_, Nat.le_refl _⟩
            unfold z_nc
            rw [hM]
            exact Nat.le_refl _
      · cases h
    | new _ =>
      simp only [z_step, hcd] at h
      split at h
      · next M' t i hnew => exact key h ⟨rfl, z_new_mono hnew⟩
      · cases h
    | newarray _ =>
      simp only [z_step, hcd] at h
      split at h
      · split at h
        · next M' t i hnew => exact key h ⟨rfl, z_newa_mono hnew⟩
        · cases h
      · cases h
    | anewarray _ =>
      simp only [z_step, hcd] at h
      split at h
      · split at h
        · next M' t i hnew => exact key h ⟨rfl, z_newa_mono hnew⟩
        · cases h
      · cases h
    | invokespecial _ =>
      simp only [z_step, hcd, z_inv, Bool.cond_eq_ite] at h
      (repeat' split at h) <;> first | (cases h; done) | exact key h ⟨rfl, Nat.le_refl _, Nat.le_refl _⟩
    | invokestatic _ =>
      simp only [z_step, hcd, z_inv, Bool.cond_eq_ite] at h
      (repeat' split at h) <;> first | (cases h; done) | exact key h ⟨rfl, Nat.le_refl _, Nat.le_refl _⟩
    | invokevirtual _ =>
      simp only [z_step, hcd, z_inv, Bool.cond_eq_ite] at h
      (repeat' split at h) <;> first | (cases h; done) | exact key h ⟨rfl, Nat.le_refl _, Nat.le_refl _⟩
    | ifCond cnd off =>
      cases cnd <;> (simp only [z_step, hcd] at h; split at h <;> first | (cases h; done) | exact key h ⟨rfl, Nat.le_refl _, Nat.le_refl _⟩)
    | if_icmp cnd off =>
      cases cnd <;> (simp only [z_step, hcd] at h; split at h <;> first | (cases h; done) | exact key h ⟨rfl, Nat.le_refl _, Nat.le_refl _⟩)
    | _ =>
      simp only [z_step, hcd, Bool.cond_eq_ite] at h
      first
        | (cases h; done)
        | exact key h ⟨rfl, Nat.le_refl _, Nat.le_refl _⟩
        | ((repeat' split at h) <;> first | (cases h; done) | exact key h ⟨rfl, Nat.le_refl _, Nat.le_refl _⟩)
end
section
/-! the machine does what the interpreter does -/
theorem z_inv_stat {a b e' y pc : Nat} {ls : List (Option z_V)} {st : List z_V} {M : z_M} {y1 : Nat} {as1 : List z_V} {c1 : z_C} (hb2 : b < 2) (h : z_inv a b e' y pc ls st M = z_ca y1 as1 c1) : y1 = a ∧ c1.1 = y ∧ c1.2.2.2.2 = M := by
  unfold z_inv at h
  have hb2' : Nat.blt b 2 = true := Nat.ble_eq_true_of_le hb2
  split at h
  · cases h
  · next as2 r2 htk =>
    rw [hb2'] at h
    simp only [cond_true] at h
    cases h8 : Nat.blt 8 (z_ct r2) with
    | true => rw [h8] at h; cases h
    | false =>
      rw [h8] at h
      simp only [cond_false] at h
      split at h
      · next v1 hma =>
        cases hb0 : Nat.beq b 0 <;> rw [hb0] at h <;> cases h
      · simp only [Sum.inr.injEq, Sum.inl.injEq, Prod.mk.injEq] at h
        obtain ⟨e1, -, e3⟩ := h
        rw [← e1, ← e3]
        exact ⟨rfl, rfl, rfl⟩
theorem z_step_ca {y pc : Nat} {ls : List (Option z_V)} {st : List z_V} {M : z_M} {y1 : Nat} {as1 : List z_V} {c1 : z_C} (h : z_step (y, pc, ls, st, M) = z_ca y1 as1 c1) : c1.1 = y ∧ c1.2.2.2.2 = M ∧ ∃ ins len a b e' f ki kj, z_cd y pc = some (ins, len, (a, b, e', f), ki, kj) ∧ z_inv a b e' y pc ls st M = z_ca y1 as1 c1 ∧ ((∃ ix, ins = .invokestatic ix) ∨ (∃ ix, ins = .invokespecial ix) ∨ (∃ ix, ins = .invokevirtual ix)) := by
  have hinv : ∀ {a b e' : Nat}, z_inv a b e' y pc ls st M = z_ca y1 as1 c1 → c1.1 = y ∧ c1.2.2.2.2 = M := by
    intro a b e' h
    by_cases hb2 : b < 2
    · exact (z_inv_stat hb2 h).2
    · obtain ⟨ar, rest, t, i, -, -, -, e4, -⟩ := z_inv_spec hb2 h
      rw [e4]
      exact ⟨rfl, rfl⟩
  cases hcd : z_cd y pc with
  | none =>
    exfalso
    simp only [z_step, hcd] at h
    cases h
  | some q9 =>
    obtain ⟨ins, len, ⟨a, b, e', f⟩, ki, kj⟩ := q9
    cases ins with
    | invokestatic ix =>
      simp only [z_step, hcd] at h
      exact ⟨(hinv h).1, (hinv h).2, _, _, _, _, _, _, _, _, rfl, h, Or.inl ⟨ix, rfl⟩⟩
    | invokespecial ix =>
      simp only [z_step, hcd] at h
      exact ⟨(hinv h).1, (hinv h).2, _, _, _, _, _, _, _, _, rfl, h, Or.inr (Or.inl ⟨ix, rfl⟩)⟩
    | invokevirtual ix =>
      simp only [z_step, hcd] at h
      exact ⟨(hinv h).1, (hinv h).2, _, _, _, _, _, _, _, _, rfl, h, Or.inr (Or.inr ⟨ix, rfl⟩)⟩
    | ifCond cnd off =>
      exfalso
      cases cnd <;> (simp only [z_step, hcd] at h; split at h <;> cases h)
    | if_icmp cnd off =>
      exfalso
      cases cnd <;> (simp only [z_step, hcd] at h; split at h <;> cases h)
    | _ =>
      exfalso
      simp only [z_step, hcd, Bool.cond_eq_ite] at h
      first
        | (cases h; done)
        | ((repeat' split at h) <;> (cases h; done))
/-- the method that is called is one of ours -/
theorem z_ca_lt {y pc : Nat} {ls : List (Option z_V)} {st : List z_V} {M : z_M} {y1 : Nat} {as1 : List z_V} {c1 : z_C} (h : z_step (y, pc, ls, st, M) = z_ca y1 as1 c1) (hk : z_kok M) : y1 < 285 := by
  obtain ⟨-, -, ins, len, a, b, e', f, ki, kj, hcd, hinv, hins⟩ := z_step_ca h
  obtain ⟨-, ho, -⟩ := z_cd_ok hcd
  rcases hins with ⟨ix, rfl⟩ | ⟨ix, rfl⟩ | ⟨ix, rfl⟩
  · simp only [z_oke, Bool.and_eq_true] at ho
    obtain ⟨⟨⟨ho1, ho2⟩, ho3⟩, ho4⟩ := ho
    rw [(z_inv_stat (Nat.le_of_ble_eq_true ho2) hinv).1]
    exact Nat.le_of_ble_eq_true ho3
  · simp only [z_oke, Bool.and_eq_true, Bool.or_eq_true, decide_eq_true_eq] at ho
    obtain ⟨-, ho⟩ := ho
    rcases ho with (⟨q1, -⟩ | ⟨⟨⟨⟨q1, q2⟩, q3⟩, q4⟩, q5⟩) | ⟨⟨⟨q1, q2⟩, q3⟩, q4⟩
    · obtain rfl : b = 9 := Nat.eq_of_beq_eq_true q1
      obtain ⟨ar, rest, t, i, -, -, -, -, -, e6, -⟩ := z_inv_spec (by decide) hinv
      exact absurd rfl e6
    · have hb : b = 2 ∨ b = 3 := by
        rcases q1 with q1 | q1
        · exact Or.inl (Nat.eq_of_beq_eq_true q1)
        · exact Or.inr (Nat.eq_of_beq_eq_true q1)
      obtain ⟨ar, rest, t, i, -, -, -, -, -, -, e7, -⟩ := z_inv_spec (by omega) hinv
      rw [(e7 (by omega)).1]
      exact Nat.le_of_ble_eq_true q2
    · obtain rfl : b = 7 := Nat.eq_of_beq_eq_true q1
      obtain ⟨ar, rest, t, i, -, -, -, -, -, -, -, -, e9⟩ := z_inv_spec (by decide) hinv
      obtain ⟨-, cc, -, hk7⟩ := e9 (by decide)
      rcases hk7 with ⟨-, z1, -⟩ | ⟨z1, -⟩
      · rw [z1]; exact Nat.le_of_ble_eq_true q2
      · exact absurd rfl z1
  · simp only [z_oke, Bool.and_eq_true, Bool.or_eq_true] at ho
    obtain ⟨-, ho⟩ := ho
    rcases ho with ⟨⟨q1, q2⟩, q3⟩ | ⟨⟨⟨q1, q2⟩, q3⟩, q4⟩
    · obtain rfl : b = 4 := Nat.eq_of_beq_eq_true q1
      obtain ⟨ar, rest, t, i, -, -, -, -, -, -, -, e8, -⟩ := z_inv_spec (by decide) hinv
      rw [(e8 rfl).1]
      exact Nat.le_of_ble_eq_true q2
    · obtain rfl : b = 6 := Nat.eq_of_beq_eq_true q1
      obtain ⟨ar, rest, t, i, -, -, -, -, -, -, -, -, e9⟩ := z_inv_spec (by decide) hinv
      obtain ⟨hg, cc, hcc, hk7⟩ := e9 (by decide)
      rcases hk7 with ⟨z1, -⟩ | ⟨-, z1⟩
      · cases z1
      · have h13 := (z_co_lt (G := (((fun _ => 0, fun _ _ => 0), fun _ => 0, 0, fun _ _ => .null) : z_G)) hk hg hcc).1
        have hva := z_vt_all a (Nat.le_of_ble_eq_true q2) cc h13
        rw [z1] at hva
        exact (of_decide_eq_true hva).1
/-- an answer, by its instruction -/
theorem z_step_rt {y pc : Nat} {ls : List (Option z_V)} {st : List z_V} {M : z_M} {r : Option z_V × z_M} (h : z_step (y, pc, ls, st, M) = Sum.inr (Sum.inl r)) : r.2 = M ∧ ∃ ins len a b e' f ki kj, z_cd y pc = some (ins, len, (a, b, e', f), ki, kj) ∧
    ((ins = .ireturn ∧ ∃ v1, st = [z_i v1] ∧ r.1 = some (z_i v1) ∧ z_nr a v1 = true) ∨ (ins = .lreturn ∧ ∃ v1, st = [z_j v1] ∧ r.1 = some (z_j v1)) ∨ (ins = .areturn ∧ ∃ v1, st = [Sum.inr (Sum.inr v1)] ∧ r.1 = some (Sum.inr (Sum.inr v1))) ∨ (ins = .return_ ∧ st = [] ∧ r.1 = none)) := by
  cases hcd : z_cd y pc with
  | none =>
    exfalso
    simp only [z_step, hcd] at h
    cases h
  | some q9 =>
    obtain ⟨ins, len, ⟨a, b, e', f⟩, ki, kj⟩ := q9
    cases ins with
    | ireturn =>
      simp only [z_step, hcd] at h
      split at h
      · next v1 =>
        cases hn : z_nr a v1 with
        | false => rw [hn] at h; cases h
        | true =>
          rw [hn] at h
          cases h
          exact ⟨rfl, _, _, _, _, _, _, _, _, rfl, Or.inl ⟨rfl, v1, rfl, rfl, hn⟩⟩
      · cases h
    | lreturn =>
      simp only [z_step, hcd] at h
      split at h
      · next v1 =>
        cases h
        exact ⟨rfl, _, _, _, _, _, _, _, _, rfl, Or.inr (Or.inl ⟨rfl, v1, rfl, rfl⟩)⟩
      · cases h
    | areturn =>
      simp only [z_step, hcd] at h
      split at h
      · next v1 =>
        cases h
        exact ⟨rfl, _, _, _, _, _, _, _, _, rfl, Or.inr (Or.inr (Or.inl ⟨rfl, v1, rfl, rfl⟩))⟩
      · cases h
    | return_ =>
      simp only [z_step, hcd] at h
      split at h
      · cases h
        exact ⟨rfl, _, _, _, _, _, _, _, _, rfl, Or.inr (Or.inr (Or.inr ⟨rfl, rfl, rfl⟩))⟩
      · cases h
    | invokestatic _ =>
      exfalso
      simp only [z_step, hcd, z_inv, Bool.cond_eq_ite] at h
      (repeat' split at h) <;> (cases h; done)
    | invokespecial _ =>
      exfalso
      simp only [z_step, hcd, z_inv, Bool.cond_eq_ite] at h
      (repeat' split at h) <;> (cases h; done)
    | invokevirtual _ =>
      exfalso
      simp only [z_step, hcd, z_inv, Bool.cond_eq_ite] at h
      (repeat' split at h) <;> (cases h; done)
    | ifCond cnd off =>
      exfalso
      cases cnd <;> (simp only [z_step, hcd] at h; split at h <;> cases h)
    | if_icmp cnd off =>
      exfalso
      cases cnd <;> (simp only [z_step, hcd] at h; split at h <;> cases h)
    | _ =>
      exfalso
      simp only [z_step, hcd, Bool.cond_eq_ite] at h
      first
        | (cases h; done)
        | ((repeat' split at h) <;> (cases h; done))
theorem z_rn_mono : ∀ (n d : Nat) (cf : z_C) (r : Option z_V × z_M), z_rn n d cf = some r → z_nc cf.2.2.2.2 ≤ z_nc r.2 ∧ z_sl cf.2.2.2.2 ≤ z_sl r.2 := by
  intro n
  induction n with
  | zero => intro d cf r h; simp [z_rn] at h
  | succ n ih =>
    intro d cf r h
    obtain ⟨y, pc, ls, st, M⟩ := cf
    simp only [z_rn] at h
    split at h
    · next c1 hs =>
      obtain ⟨-, h1, h2⟩ := z_step_mono hs
      obtain ⟨h3, h4⟩ := ih d c1 r h
      exact ⟨Nat.le_trans h1 h3, Nat.le_trans h2 h4⟩
    · next r1 hs =>
      cases h
      obtain ⟨hM, -⟩ := z_step_rt hs
      rw [hM]
      exact ⟨Nat.le_refl _, Nat.le_refl _⟩
    · next y1 as1 y0 pc0 ls0 st0 M1 hs =>
      obtain ⟨-, hM, -⟩ := z_step_ca hs
      have hM : M1 = M := hM
      subst hM
      split at h
      · cases h
      · simp only [Bool.cond_eq_ite] at h
        split at h
        · split at h
          · cases h
          · next v1 M2 hc =>
            obtain ⟨h1, h2⟩ := ih _ _ _ hc
            obtain ⟨h3, h4⟩ := ih _ _ _ h
            exact ⟨Nat.le_trans h1 h3, Nat.le_trans h2 h4⟩
        · cases h
    · cases h
end
section
/-! the main theorem -/
theorem z_la_len {G : z_G} (hxx : ∀ t i, G.2.2.2 t i = .null ∨ ∃ a, G.2.2.2 t i = .ref a) : ∀ as1 : List z_V, (lg_sl (as1.map (z_tv G))).length = (z_la as1).length := by
  intro as1
  induction as1 with
  | nil => rfl
  | cons v l ih =>
    match v with
    | Sum.inl x =>
      show (lg_sl (Value.int x :: l.map (z_tv G))).length = (z_la l).length + 1
      rw [← ih]
      simp [lg_sl, Value.category]
    | Sum.inr (Sum.inl x) =>
      show (lg_sl (Value.long x :: l.map (z_tv G))).length = (z_la l).length + 1 + 1
      rw [← ih]
      simp [lg_sl, Value.category]
    | Sum.inr (Sum.inr x) =>
      show (lg_sl (z_tv G (Sum.inr (Sum.inr x)) :: l.map (z_tv G))).length = (z_la l).length + 1
      rw [← ih]
      rcases z_tv_ref hxx x with q | ⟨r1, q⟩ <;> rw [q] <;> simp [lg_sl, Value.category]
theorem z_la_args {G : z_G} (hxx : ∀ t i, G.2.2.2 t i = .null ∨ ∃ a, G.2.2.2 t i = .ref a) : ∀ (as1 : List z_V) (k i : Nat) (v : z_V), (z_la as1).getD i none = some v → (k + i, z_tv G v) ∈ lv_args k (as1.map (z_tv G)) := by
  intro as1
  induction as1 with
  | nil =>
    intro k i v h
    simp [z_la] at h
  | cons v0 l ih =>
    intro k i v h
    have one : (∀ x, v0 ≠ z_j x) → z_la (v0 :: l) = some v0 :: z_la l := by
      intro hne
      match v0, hne with
      | Sum.inl x, _ => rfl
      | Sum.inr (Sum.inl x), hne => exact absurd rfl (hne x)
      | Sum.inr (Sum.inr x), _ => rfl
    by_cases hj : ∃ x, v0 = z_j x
    · obtain ⟨x, rfl⟩ := hj
      have e1 : z_la (z_j x :: l) = some (z_j x) :: none :: z_la l := rfl
      rw [e1] at h
      match i, h with
      | 0, h =>
        have e2 : z_j x = v := Option.some.inj h
        rw [← e2]
        exact List.mem_cons_self
      | 1, h => cases h
      | i1 + 2, h =>
        have h2 := ih (k + 2) i1 v h
        have e3 : lv_args k ((z_j x :: l).map (z_tv G)) = (k, Value.long x) :: lv_args (k + 2) (l.map (z_tv G)) := rfl
        rw [e3, show k + (i1 + 2) = k + 2 + i1 by omega]
        exact List.mem_cons_of_mem _ h2
    · have hne : ∀ x, v0 ≠ z_j x := fun x q => hj ⟨x, q⟩
      rw [one hne] at h
      have hc : ¬ (z_tv G v0).category = 2 := fun q => hj ((z_tv_cat hxx v0).mp q)
      have e3 : lv_args k ((v0 :: l).map (z_tv G)) = (k, z_tv G v0) :: lv_args (k + 1) (l.map (z_tv G)) := by
        show (k, z_tv G v0) :: lv_args (if (z_tv G v0).category = 2 then k + 2 else k + 1) (l.map (z_tv G)) = _
        rw [if_neg hc]
      rw [e3]
      match i, h with
      | 0, h =>
        have e2 : v0 = v := Option.some.inj h
        rw [← e2]
        exact List.mem_cons_self
      | i1 + 1, h =>
        have h2 := ih (k + 1) i1 v h
        rw [show k + (i1 + 1) = k + 1 + i1 by omega]
        exact List.mem_cons_of_mem _ h2
theorem z_getD_rep {l : List (Option z_V)} {k i : Nat} {v : z_V} (h : (l ++ List.replicate k none).getD i none = some v) : l.getD i none = some v := by
  rw [List.getD_eq_getElem?_getD] at h ⊢
  by_cases hi : i < l.length
  · rw [List.getElem?_append_left hi] at h
    exact h
  · rw [List.getElem?_append_right (by omega)] at h
    exfalso
    cases hq : (List.replicate k (none : Option z_V))[i - l.length]? with
    | none => rw [hq] at h; cases h
    | some q1 =>
      rw [hq] at h
      have h1 := List.eq_of_mem_replicate (List.mem_of_getElem? hq)
      rw [h1] at h
      cases h
theorem z_entry {G : z_G} (hxx : ∀ t i, G.2.2.2 t i = .null ∨ ∃ a, G.2.2.2 t i = .ref a) {as1 : List z_V} {n : Nat} (h : (z_la as1).length ≤ n) : z_Lh G (z_la as1 ++ List.replicate (n - (z_la as1).length) none) n ((lg_sl (as1.map (z_tv G)) ++ List.replicate (n - (lg_sl (as1.map (z_tv G))).length) Slot.unset).toArray) := by
  have h1 := lv_entry (as1.map (z_tv G)) (n := n) (by rw [z_la_len hxx]; exact h)
  refine ⟨h1.1, h1.2.1, fun i v hv => ?_⟩
  have h2 := z_la_args hxx as1 0 i v (z_getD_rep hv)
  rw [Nat.zero_add] at h2
  exact h1.2.2 _ h2
section
variable {G : z_G} {L : Nat} {xs : Nat → Int32} {p : Program} {l : Launch} {e : Env} {R : Room} {s : State} {m : MethodId} {args : Array Value} {below : List Frame} {meth : Method} {c : Code} {Q : State → Prop} {n0 s0 : Nat} {M0 : z_M}
variable {y pc : Nat} {ls : List (Option z_V)} {st : List z_V} {M : z_M}
/-- an answer ends a method as its contract says -/
theorem z_ret_met {r : Option z_V × z_M} (F : z_Fx G L xs p s m meth c y M0) (hn0 : n0 = z_nc M0) (h : z_step (y, pc, ls, st, M) = Sum.inr (Sum.inl r)) : z_K G L xs p l e R s m args below meth c (MQ below (z_Qc G L xs r) args s (z_nc r.2 - n0) (z_sl r.2 - s0) (z_A G.2.2.1)) n0 s0 (y, pc, ls, st, M) := by
  have hxx := F.ex
  obtain ⟨hx, hb, hml, hown, hret, hlk, hnm, hSt⟩ := F
  have hsz0 := hSt.2.1
  rw [← hn0] at hsz0
  obtain ⟨hM, ins, len, a, b, e', f, ki, kj, hcd, hcase⟩ := z_step_rt h
  obtain ⟨rv, rM⟩ := r
  have hM : rM = M := hM
  subst hM
  obtain ⟨hd, ho, -⟩ := z_cd_ok hcd
  intro H locs lsC hR hl
  have hR : z_Rp G L xs s rM H locs := hR
  show W p l e R s m args below meth c H locs (z_nc rM - n0) (z_sl rM - s0) _ _
  refine z_sized hsz0 hR fun hH => ?_
  have hq : ∀ t : State, t.heap = H → s.WarmedH t.vm → z_Qc G L xs (rv, rM) args s (.returned (rv.map (z_tv G))) t := fun t ht hW => ⟨rfl, hSt.moved hR hH ht hW, hR.2.2.2.2.F ht⟩
  have hf := hR.2.2.2.2.2.2
  rcases hcase with ⟨rfl, v1, e1, e2, hnr⟩ | ⟨rfl, v1, e1, e2⟩ | ⟨rfl, v1, e1, e2⟩ | ⟨rfl, e1, e2⟩
  · have e2 : rv = some (z_i v1) := e2
    subst e1; subst e2
    simp only [z_oke, Bool.and_eq_true, Bool.or_eq_true, decide_eq_true_eq] at ho
    obtain ⟨ho1, ho⟩ := ho
    obtain rfl : len = 1 := Nat.eq_of_beq_eq_true ho1
    rcases ho with ((⟨q1, q2⟩ | ⟨q1, q2⟩) | ⟨q1, q2⟩) | ⟨q1, q2⟩
    · exact W.zret hx hb (hret.trans q2) rfl hq hf hd hlk
    · obtain rfl : a = 1 := Nat.eq_of_beq_eq_true q1
      have h01 : v1 = 0 ∨ v1 = 1 := by
        have h1 : (v1 == 0 || v1 == 1) = true := hnr
        simpa using h1
      exact W.zret hx hb (hret.trans q2) (by rcases h01 with h01 | h01 <;> rw [h01] <;> rfl) hq hf hd hlk
    · obtain rfl : a = 2 := Nat.eq_of_beq_eq_true q1
      have h1 : v1.toInt8.toInt32 = v1 := of_decide_eq_true hnr
      exact W.zret hx hb (hret.trans q2) (by show Value.int v1.toInt8.toInt32 = _; rw [h1]) hq hf hd hlk
    · obtain rfl : a = 3 := Nat.eq_of_beq_eq_true q1
      have h1 : v1.toUInt32.toUInt16.toUInt32.toInt32 = v1 := of_decide_eq_true hnr
      exact W.zret hx hb (hret.trans q2) (by show Value.int v1.toUInt32.toUInt16.toUInt32.toInt32 = _; rw [h1]) hq hf hd hlk
  · have e2 : rv = some (z_j v1) := e2
    subst e1; subst e2
    simp only [z_oke, Bool.and_eq_true, decide_eq_true_eq] at ho
    obtain ⟨ho1, ho⟩ := ho
    obtain rfl : len = 1 := Nat.eq_of_beq_eq_true ho1
    exact W.lret hx hb (hret.trans ho) hq hf hd hlk
  · have e2 : rv = some (Sum.inr (Sum.inr v1)) := e2
    subst e1; subst e2
    simp only [z_oke, Bool.and_eq_true, decide_eq_true_eq] at ho
    obtain ⟨ho1, ho⟩ := ho
    obtain rfl : len = 1 := Nat.eq_of_beq_eq_true ho1
    exact W.aret hx hb (hret.trans ho) (Or.inl ⟨_, rfl⟩) (z_tv_ref hxx v1) hq hf hd hlk
  · have e2 : rv = none := e2
    subst e1; subst e2
    simp only [z_oke, Bool.and_eq_true, decide_eq_true_eq] at ho
    obtain ⟨ho1, ho⟩ := ho
    obtain rfl : len = 1 := Nat.eq_of_beq_eq_true ho1
    exact W.vret hx hb (hret.trans ho) hq hf hd hlk
theorem z_met_of {d y1 : Nat} {as1 : List z_V} {r1 : Option z_V × z_M} (hy : y1 < 285) (hpl : z_pl y1 = true) (hlen : (z_la as1).length ≤ z_ml y1)
    (ih : ∀ (p : Program) (e : Env) (s : State) (m : MethodId) (args : Array Value) (below : List Frame) (meth : Method) (c : Code), z_Fx G L xs p s m meth c y1 M → z_K G L xs p l e (z_rm d (z_nc r1.2 - z_nc M) (z_sl r1.2 - z_sl M)) s m args below meth c (MQ below (z_Qc G L xs r1) args s (z_nc r1.2 - z_nc M) (z_sl r1.2 - z_sl M) (z_A G.2.2.1)) (z_nc M) (z_sl M) (z_en y1 as1 M)) : z_Met G L xs l d y1 as1 M r1 := by
  unfold z_Met
  refine Met.ofW (cc := (z_mi y1).2.1) (maxL := (z_mi y1).2.2.1) (ret := (z_mi y1).2.2.2) (z_ml_mi3 y1 hy hpl) rfl ?_
  intro p e s m args below meth c s₁ B hml hv
  obtain ⟨rfl, hSt⟩ := hv
  obtain ⟨e1, -⟩ := z_ml_mi y1 hy
  have F : z_Fx G L xs p s m meth c y1 M := ⟨B.exec, B.bytes, hml.trans e1.symm, findClass_of_methodNamed B.named, B.returns, B.notSynchronized, (name_of_methodNamed B.named B.method).1, hSt⟩
  have hR : z_Rp G L xs s M s.heap [] := ⟨hSt.1, by rw [hSt.2.1]; exact Nat.le_refl _, hSt.2.2.1, hSt.2.2.2.1, va_S.rf⟩
  have K := ih p e s m (as1.map (z_tv G)).toArray below meth c F s.heap [] _ hR (z_entry F.ex hlen)
  rw [lg_entry_eq]
  have e3 : z_nc M - z_nc M = 0 := Nat.sub_self _
  have e4 : z_sl M - z_sl M = 0 := Nat.sub_self _
  have K : W p l e (z_rm d (z_nc r1.2 - z_nc M) (z_sl r1.2 - z_sl M)) s m (as1.map (z_tv G)).toArray below meth c s.heap [] (z_nc M - z_nc M) (z_sl M - z_sl M) (MQ below (z_Qc G L xs r1) (as1.map (z_tv G)).toArray s (z_nc r1.2 - z_nc M) (z_sl r1.2 - z_sl M) (z_A G.2.2.1)) (F0 m 0 ((lg_sl (as1.map (z_tv G)) ++ List.replicate (z_ml y1 - (lg_sl (as1.map (z_tv G))).length) Slot.unset).toArray) []) := K
  rw [e3, e4, e1] at K
  exact K
end
theorem z_snd {G : z_G} {L : Nat} {xs : Nat → Int32} {l : Launch} : ∀ (n d : Nat) (cf : z_C) (r : Option z_V × z_M), z_rn n d cf = some r → ∀ (p : Program) (e : Env) (R : Room) (s : State) (m : MethodId) (args : Array Value) (below : List Frame) (meth : Method) (c : Code) (Q : State → Prop) (M0 : z_M), z_Fx G L xs p s m meth c cf.1 M0 → z_sl M0 ≤ z_sl cf.2.2.2.2 → d + 1 ≤ R.frames → 40 * (d + 1) ≤ R.locals → z_nc r.2 - z_nc M0 ≤ R.cells → z_sl r.2 - z_sl M0 ≤ R.slots →
    (∀ pc ls st M, z_step (cf.1, pc, ls, st, M) = Sum.inr (Sum.inl r) → z_K G L xs p l e R s m args below meth c Q (z_nc M0) (z_sl M0) (cf.1, pc, ls, st, M)) → z_K G L xs p l e R s m args below meth c Q (z_nc M0) (z_sl M0) cf := by
  intro n
  induction n with
  | zero => intro d cf r h; simp [z_rn] at h
  | succ n ih =>
    intro d cf r h p e R s m args below meth c Q M0 F hs0 hRf hRl hRc hRs hQ
    obtain ⟨y, pc, ls, st, M⟩ := cf
    simp only [z_rn] at h
    split at h
    · next c1 hs =>
      obtain ⟨h0, h1, h2⟩ := z_step_mono hs
      obtain ⟨h3, h4⟩ := z_rn_mono n d c1 r h
      have hs0 : z_sl M0 ≤ z_sl M := hs0
      refine z_one F rfl hs (by omega) (by omega) (by omega) (by omega) hs0 ?_
      have F1 : z_Fx G L xs p s m meth c c1.1 M0 := by rw [h0]; exact F
      exact ih d c1 r h p e R s m args below meth c Q M0 F1 (by omega) hRf hRl hRc hRs (by rw [h0]; exact hQ)
    · next r1 hs =>
      cases h
      exact hQ pc ls st M hs
    · next y1 as1 y0 pc0 ls0 st0 M1 hs =>
      obtain ⟨e0, e1, ins, len, a, b, e', f, ki, kj, hcd, -, hins⟩ := z_step_ca hs
      have e0 : y0 = y := e0
      have e1 : M1 = M := e1
      subst e0; subst e1
      split at h
      · cases h
      · next d1 =>
        cases hg : (Nat.ble (z_la as1).length (z_ml y1) && z_pl y1) with
        | false => rw [hg] at h; cases h
        | true =>
          rw [hg] at h
          simp only [cond_true] at h
          simp only [Bool.and_eq_true] at hg
          obtain ⟨hg1, hg2⟩ := hg
          have hg1 := Nat.le_of_ble_eq_true hg1
          split at h
          · cases h
          · next v1 M2 hc =>
            obtain ⟨m1, m2⟩ := z_rn_mono _ _ _ _ hc
            obtain ⟨m3, m4⟩ := z_rn_mono _ _ _ _ h
            have m1 : z_nc M1 ≤ z_nc M2 := m1
            have m2 : z_sl M1 ≤ z_sl M2 := m2
            have m3 : z_nc M2 ≤ z_nc r.2 := m3
            have m4 : z_sl M2 ≤ z_sl r.2 := m4
            have hs0 : z_sl M0 ≤ z_sl M1 := hs0
            have K := ih (d1 + 1) _ r h p e R s m args below meth c Q M0 F (by show z_sl M0 ≤ z_sl M2; omega) hRf hRl hRc hRs hQ
            intro H locs lsC hR hl
            have hy := z_ca_lt hs hR.2.2.1
            have hMet : z_Met G L xs l d1 y1 as1 M1 (v1, M2) := by
              refine z_met_of hy hg2 hg1 fun p' e2 s' m' args' below' meth' c2 F' => ?_
              exact ih d1 _ _ hc p' e2 _ s' m' args' below' meth' c2 _ M1 F' (Nat.le_refl _) (Nat.le_refl _) (Nat.le_refl _) (Nat.le_refl _) (Nat.le_refl _) (fun pc2 ls2 st2 M3 h2 => z_ret_met F' rfl h2)
            have hc1 : z_nc M2 - z_nc M0 ≤ R.cells := by omega
            have hc2 : z_sl M2 - z_sl M0 ≤ R.slots := by omega
            rcases hins with ⟨ix, rfl⟩ | ⟨ix, rfl⟩ | ⟨ix, rfl⟩
            · exact z_call_static F rfl hcd hs hMet (by omega) (by omega) hc1 hc2 hs0 m1 m2 K H locs lsC hR hl
            · exact z_call_special F rfl hcd hs hMet (by omega) (by omega) hc1 hc2 hs0 m1 m2 K H locs lsC hR hl
            · exact z_call_virtual F rfl hcd hs hMet (by omega) (by omega) hc1 hc2 hs0 m1 m2 K H locs lsC hR hl
    · cases h
end
section
/-! runs: more fuel, more depth; one step, many steps, guards, branches, calls -/
theorem z_rn_le : ∀ (n m d : Nat) (cf : z_C) (r : Option z_V × z_M), n ≤ m → z_rn n d cf = some r → z_rn m d cf = some r := by
  intro n
  induction n with
  | zero => intro m d cf r _ h; simp [z_rn] at h
  | succ n ih =>
    intro m d cf r hm h
    obtain ⟨m1, rfl⟩ : ∃ m1, m = m1 + 1 := ⟨m - 1, by omega⟩
    have hm1 : n ≤ m1 := by omega
    simp only [z_rn] at h ⊢
    split at h
    · next c1 hs =>
      exact ih m1 d c1 r hm1 h
    · exact h
    · next y1 as1 y0 pc0 ls0 st0 M1 hs =>
      split at h
      · cases h
      · next d1 =>
        cases hg : (Nat.ble (z_la as1).length (z_ml y1) && z_pl y1) with
        | false => rw [hg] at h; cases h
        | true =>
          rw [hg] at h
          simp only [cond_true] at h ⊢
          split at h
          · cases h
          · next v1 M2 hc =>
            rw [ih m1 d1 _ _ hm1 hc]
            exact ih m1 (d1 + 1) _ r hm1 h
    · cases h
theorem z_rn_dp : ∀ (n d e : Nat) (cf : z_C) (r : Option z_V × z_M), d ≤ e → z_rn n d cf = some r → z_rn n e cf = some r := by
  intro n
  induction n with
  | zero => intro d e cf r _ h; simp [z_rn] at h
  | succ n ih =>
    intro d e cf r hm h
    simp only [z_rn] at h ⊢
    split at h
    · next c1 hs =>
      exact ih d e c1 r hm h
    · exact h
    · next y1 as1 y0 pc0 ls0 st0 M1 hs =>
      split at h
      · cases h
      · next d1 =>
        obtain ⟨e1, rfl⟩ : ∃ e1, e = e1 + 1 := ⟨e - 1, by omega⟩
        have hm1 : d1 ≤ e1 := by omega
        cases hg : (Nat.ble (z_la as1).length (z_ml y1) && z_pl y1) with
        | false => rw [hg] at h; cases h
        | true =>
          rw [hg] at h
          simp only [cond_true] at h ⊢
          split at h
          · cases h
          · next v1 M2 hc =>
            rw [ih d1 e1 _ _ hm1 hc]
            exact ih (d1 + 1) (e1 + 1) _ r hm h
    · cases h
section
variable {d : Nat} {cf c1 c2 : z_C} {r : Option z_V × z_M} {b : Bool}
theorem z_ev_dp {e : Nat} (h : z_ev d cf r) (hd : d ≤ e) : z_ev e cf r := by
  obtain ⟨n, h⟩ := h
  exact ⟨n, z_rn_dp n d e cf r hd h⟩
theorem z_ev_st (h : z_step cf = Sum.inl c1) (k : z_ev d c1 r) : z_ev d cf r := by
  obtain ⟨n, k⟩ := k
  refine ⟨n + 1, ?_⟩
  simp only [z_rn, h]
  exact k
theorem z_ev_rt (h : z_step cf = Sum.inr (Sum.inl r)) : z_ev d cf r := by
  refine ⟨1, ?_⟩
  simp only [z_rn, h]
theorem z_ev_ok (h : z_step cf = (bif b then Sum.inl c1 else z_er)) (hb : b = true) (k : z_ev d c1 r) : z_ev d cf r := by
  subst hb
  exact z_ev_st h k
/-- many plain steps -/
noncomputable def z_gs : Nat → z_C → z_S
  | 0, cf => Sum.inl cf
  | n + 1, cf => match z_step cf with
    | Sum.inl c' => z_gs n c'
    | q => q
theorem z_ev_gs : ∀ (n : Nat) {cf c1 : z_C} (_ : z_gs n cf = Sum.inl c1) (_ : z_ev d c1 r), z_ev d cf r := by
  intro n
  induction n with
  | zero =>
    intro cf c1 h k
    have h : cf = c1 := Sum.inl.inj h
    rw [h]; exact k
  | succ n ih =>
    intro cf c1 h k
    simp only [z_gs] at h
    split at h
    · next c' hs => exact z_ev_st hs (ih h k)
    · next hq => exact absurd h (fun q1 => hq _ q1)
/-- plain steps, then an answer -/
theorem z_ev_gr : ∀ (n : Nat) {cf : z_C} (_ : z_gs n cf = Sum.inr (Sum.inl r)), z_ev d cf r := by
  intro n
  induction n with
  | zero => intro cf h; cases h
  | succ n ih =>
    intro cf h
    simp only [z_gs] at h
    split at h
    · next c' hs => exact z_ev_st hs (ih h)
    · exact z_ev_rt h
/-- plain steps, then a guard -/
theorem z_ev_go : ∀ (n : Nat) {cf c1 : z_C} (_ : z_gs n cf = (bif b then Sum.inl c1 else z_er)) (_ : b = true) (_ : z_ev d c1 r), z_ev d cf r := by
  intro n cf c1 h hb k
  subst hb
  exact z_ev_gs n h k
/-- a branch -/
theorem z_ev_if {P : Prop} [Decidable P] {y p1 p2 : Nat} {ls : List (Option z_V)} {st : List z_V} {M : z_M} (h1 : P → z_ev d (y, p1, ls, st, M) r) (h2 : ¬ P → z_ev d (y, p2, ls, st, M) r) : z_ev d (y, (if P then p1 else p2), ls, st, M) r := by
  by_cases h : P
  · rw [if_pos h]; exact h1 h
  · rw [if_neg h]; exact h2 h
/-- a call -/
theorem z_ev_ca {y y0 pc : Nat} {as1 : List z_V} {ls : List (Option z_V)} {st : List z_V} {M M1 : z_M} {v : Option z_V} (h : z_step cf = z_ca y as1 (y0, pc, ls, st, M)) (hg : (Nat.ble (z_la as1).length (z_ml y) && z_pl y) = true)
    (hc : z_ev d (z_en y as1 M) (v, M1)) (k : z_ev (d + 1) (y0, pc, ls, v.toList ++ st, M1) r) : z_ev (d + 1) cf r := by
  obtain ⟨n1, hc⟩ := hc
  obtain ⟨n2, k⟩ := k
  refine ⟨(n1 + n2) + 1, ?_⟩
  simp only [z_rn, h, hg, cond_true]
  rw [z_rn_le n1 (n1 + n2) d _ _ (by omega) hc]
  exact z_rn_le n2 (n1 + n2) (d + 1) _ _ (by omega) k
/-- plain steps, then a call -/
theorem z_ev_gc : ∀ (n : Nat) {cf : z_C} {y y0 pc : Nat} {as1 : List z_V} {ls : List (Option z_V)} {st : List z_V} {M M1 : z_M} {v : Option z_V} (_ : z_gs n cf = z_ca y as1 (y0, pc, ls, st, M)) (_ : (Nat.ble (z_la as1).length (z_ml y) && z_pl y) = true)
    (_ : z_ev d (z_en y as1 M) (v, M1)) (_ : z_ev (d + 1) (y0, pc, ls, v.toList ++ st, M1) r), z_ev (d + 1) cf r := by
  intro n
  induction n with
  | zero => intro cf y y0 pc as1 ls st M M1 v h; cases h
  | succ n ih =>
    intro cf y y0 pc as1 ls st M M1 v h hg hc k
    simp only [z_gs] at h
    split at h
    · next c' hs => exact z_ev_st hs (ih h hg hc k)
    · exact z_ev_ca h hg hc k
end
end
section
/-! THE CLAIM OUT OF ONE WALK OF THE LAW'S BODY. Your part is whole_start (and what it stands on); all else here is the same for every law, but numbers. -/
def R_law : String := "ShareNetsLaw"
def lw_P (b : Addr) (xs : List Int32) (args : Array Value) (s : State) : Prop := args = #[.ref b] ∧ s.IntsAt b xs ∧ xs.length ≤ 384 ∧ (Jvm.Cond.and given_1 narrow_1).before args s = true
def lw_Q (_ : Array Value) (s : State) (o : Outcome) (t : State) : Prop := o = .returned (some (.int 1)) ∧ Framed s o t [] 600000 7302250
def lw_Z (below : List Frame) (a : Array Value) (s : State) : State → Prop := fun t => ∃ o, t.status = .running ∧ Ended t below o ∧ lw_Q a s o t
/-- the law's own end, with 1 on the stack, nothing written that was there before, its room as the claim has it -/
theorem lw_ret {p : Program} {l : Launch} {e : Env} {s : State} {m : MethodId} {below : List Frame} {meth : Method} {c : Code} {b : Nat} (hx : p.tables.exec = Jvm.exec) (hb : c.code = code) (hr : meth.sig.returnType = ret) (hlocks : meth.locks = false) {pc : Nat} {H : Heap} {ls : Array Slot} (hdg : decode code pc = .ok (.ireturn, 1)) : W p l e room_1 s m #[Value.ref b] below meth c H [] 600000 7302250 (lw_Z below #[Value.ref b] s) (F0 m pc ls [.int 1]) := by
  intro T hT X
  obtain ⟨fs, hret, hrun, hended, hW, hframe⟩ := X.leave (v := some (.int 1)) (hlocks := hlocks) (fun h => by rw [hr] at h; cases h)
  have hmeth' : T.vm.method? m = some meth := X.method'
  refine ⟨T.setFrames fs, ?_, .returned (some (.int 1)), hrun, hended, rfl, ⟨_, rfl⟩, hW, hframe⟩
  jvm_step X.here [X.here.top, hx, hb, hdg, hmeth', hr, ret, narrow_b1]
  (try refine ⟨rfl, ?_⟩); (try refine ⟨rfl, ?_⟩)
  first | (intro acts; rw [hret _ acts rfl rfl rfl]) | rw [hret _ _ rfl rfl rfl]
  exact Steps.refl _
/-- what holds at the law's entry: the machine, the code, the tables' words (any of lw_tbl by 'hts w (by decide +kernel)'), the script of L ints xs at the cell b, what the Statement gives of the start (any of its parts by flat_of_before) -/
def lw_At (p : Program) (s : State) (m : MethodId) (meth : Method) (c : Code) (b L : Nat) (xs : Nat → Int32) : Prop :=
  p.tables.exec = Jvm.exec ∧ c.code = code ∧ meth.sig.returnType = ret ∧ c.maxLocals = 4 ∧ s.vm.findClass R_law = some m.cls ∧ (∀ w ∈ lw_tbl, w.before #[Value.ref b] s = true) ∧ va_X b L xs s s.heap ∧ b < s.heap.size ∧ meth.locks = false ∧ (Jvm.Cond.and given_1 narrow_1).before #[Value.ref b] s = true ∧ meth.name = (z_nm 285).name
/-! the start: what the Statement gives, as the interpreter's memory has it -/
def z_gv : Cond := Jvm.Cond.and given_1 narrow_1
def z_tm (i : Nat) : Term := .string "ShareNets$Tape" (([39, 60, 62, 64] : List Nat).getD i 0)
def z_ts (k : Nat) : Term := .static (z_stn k).1 (z_stn k).2.1 (z_stn k).2.2
theorem z_gv_el : ∀ k, k < 4 → ∀ j, j < (z_stc.getD k []).length → Cond.eq (.elem (z_ts k) (.int (Int32.ofNat j))) (.int ((z_stc.getD k []).getD j 0)) ∈ flatC z_gv := by decide +kernel
theorem z_gv_le : ∀ k, k < 4 → Cond.eq (.length (z_ts k)) (.int (Int32.ofNat (z_stc.getD k []).length)) ∈ flatC z_gv ∧ Cond.arrayOf (z_ts k) .int ∈ flatC z_gv ∧ (z_stc.getD k []).length < 2 ^ 31 := by decide +kernel
theorem z_gv_s1 : ∀ i, i < 4 → Cond.exactly (z_tm i) "java/lang/String" ∈ flatC z_gv := by decide +kernel
theorem z_gv_s2 : ∀ i, i < 4 → Cond.eq (.field (z_tm i) "java/lang/String" "coder" "B") (.int 0) ∈ flatC z_gv := by decide +kernel
theorem z_gv_s3 : ∀ i, i < 4 → Cond.arrayOf (.field (z_tm i) "java/lang/String" "value" "[B") .byte ∈ flatC z_gv := by decide +kernel
theorem z_gv_s4 : ∀ i, i < 4 → Cond.eq (.length (.field (z_tm i) "java/lang/String" "value" "[B")) (.int (Int32.ofNat (z_lens.getD i 0))) ∈ flatC z_gv := by decide +kernel
theorem z_gv_s5 : ∀ i, i < 4 → ∀ j, j < z_lens.getD i 0 → Cond.eq (.elem (.field (z_tm i) "java/lang/String" "value" "[B") (.int (Int32.ofNat j))) (.int ((z_sby.getD i []).getD j 0)) ∈ flatC z_gv := by decide +kernel
theorem z_gv_s6 : ∀ i, i < 4 → ∀ j, j < 4 → i ≠ j → Cond.not (Cond.eq (z_tm i) (z_tm j)) ∈ flatC z_gv ∨ Cond.not (Cond.eq (z_tm j) (z_tm i)) ∈ flatC z_gv := by decide +kernel
theorem z_gv_nc : ∀ c ∈ ([0, 3, 5, 6] : List Nat), ∀ d ∈ ([0, 5, 6] : List Nat), z_sub c d = false → Cond.not (.castable (z_cn c) (z_cn d)) ∈ flatC z_gv := by decide +kernel
theorem z_gv_c : Cond.eq (z_ts 4) (.int 1) ∈ flatC z_gv := by decide +kernel
theorem z_gv_f : Cond.isRef (z_ts 5) ∈ flatC z_gv := by decide +kernel
theorem z_tb_st : ∀ k, k < 6 → Cond.laysStatic (z_stn k).1 (z_stn k).2.1 (z_stn k).2.2 ∈ lw_tbl ∧ Cond.initialized (z_stn k).1 ∈ lw_tbl := by decide +kernel
theorem z_tb_sr : ∀ i, i < 4 → Cond.stringRef "ShareNets$Tape" (([39, 60, 62, 64] : List Nat).getD i 0) (z_stx i) ∈ lw_tbl := by decide +kernel
theorem z_tb_in : ∀ c, c < 13 → Cond.instantiable (z_cn c) (z_fn c) ∈ lw_tbl := by decide +kernel
theorem z_tb_ar : Cond.arrayClass .int ∈ lw_tbl ∧ Cond.arrayClass .long ∈ lw_tbl ∧ Cond.arrayOver (.object "ShareNets$Net") ∈ lw_tbl ∧ Cond.arrayOver (.object "ShareNets$Share") ∈ lw_tbl ∧ Cond.arrayOver (.object "ShareNets$Sheet") ∈ lw_tbl := by decide +kernel
theorem z_wk_of {w : Cond} (hw : z_wk w = true) {s : State} {args : Array Value} (h : w.before args s = true) : va_Nw w s := by
  unfold z_wk at hw
  split at hw
  all_goals first
    | exact va_Nw.of rfl h
    | exact va_AO.of h
    | exact h
    | (simp only [Bool.and_eq_true] at hw; exact va_Nw.of hw.1 h)
theorem z_arr_of {U : State} {args : Array Value} {ty : FieldType} (hp : ∀ C, ty ≠ .object C) (h : (Cond.arrayClass ty).before args U = true) : ∃ cA : ClassId, ArrOfT U cA ty ∧ va_RA U cA ty := by
  obtain ⟨cA, kA, comp, f1, f2, f3⟩ := Cond.arrayClass_spec (args := args) (first := U) (o := none) (idx := []) h
  refine ⟨cA, fun N z1 => ⟨(fun k h => by cases h), kA, f2, comp, f3⟩, ?_⟩
  cases ty with
  | object C => exact absurd rfl (hp C)
  | _ => exact f1
theorem z_aro_of {U : State} {args : Array Value} {C : String} (h : (Cond.arrayOver (.object C)).before args U = true) : ∃ cA : ClassId, ArrOfT U cA (.object C) ∧ va_RA U cA (.object C) := by
  obtain ⟨comp, cA, kA, f1, -, f2, f3, f4⟩ := Cond.arrayOver_spec (args := args) (first := U) (o := none) (idx := []) h
  exact ⟨cA, fun N z1 => ⟨(fun k h => by cases h), kA, f2, comp, f3⟩, kA, comp, f2, f3, f1, f4⟩
/-- the memory at the start -/
def z_M0 (L : Nat) (xs : Nat → Int32) : z_M := (false, (0, 0, fun _ => 0, fun _ _ _ => none), (fun t i j => if t = 67 then (if i = 0 then xs j else Int32.ofNat L) else 0), fun _ _ _ => 0)
theorem z_beg {p : Program} {s : State} {m : MethodId} {meth : Method} {c : Code} {b L : Nat} {xs : Nat → Int32} (hL : L ≤ 384) (C0 : lw_At p s m meth c b L xs) : ∃ G : z_G, G.2.2.1 = s.heap.size ∧ G.2.2.2 67 0 = .ref b ∧ z_Fx G L xs p s m meth c 285 (z_M0 L xs) := by
  obtain ⟨hx, hb, hr, hml, hown, hts, hX, hbl, hlocks, hgv, hnm⟩ := C0
  have hs := flat_of_before _ hgv
  have hA : ∀ a : Nat, a < s.heap.size → ¬ z_A s.heap.size a := fun a h1 h2 => absurd h1 (Nat.not_lt.mpr h2)
  -- texts
  obtain ⟨adK, adV, hK1, hK2⟩ := vk_Sof (args := #[Value.ref b]) (s := s) (N := 4) (tm := z_tm) (len := z_lens) (byt := z_sby) (A := z_A s.heap.size) (by decide) (fun i hi => hs _ (z_gv_s1 i hi)) (fun i hi => hs _ (z_gv_s2 i hi)) (fun i hi => hs _ (z_gv_s3 i hi)) (fun i hi => hs _ (z_gv_s4 i hi)) (fun i hi j hj => hs _ (z_gv_s5 i hi j hj))
    (fun i j hi hj hij => (z_gv_s6 i hi j hj hij).imp (hs _) (hs _)) hA
  -- constant rows
  have hrow : ∀ k, ∃ t : Nat, k < 4 → va_Z (z_stn k).1 (z_stn k).2.1 (z_stn k).2.2 (.ref t) (z_A s.heap.size) s s.heap ∧ va_T .int t (z_stc.getD k []).length (fun j => .int ((z_stc.getD k []).getD j 0)) (z_A s.heap.size) s s.heap := by
    intro k
    by_cases hk : k < 4
    · obtain ⟨g1, g2, g3⟩ := z_gv_le k hk
      obtain ⟨t, ht, hT⟩ := va_Tof (args := #[Value.ref b]) (s := s) (tm := z_ts k) (ty := .int) (f := fun j => .int ((z_stc.getD k []).getD j 0)) (A := z_A s.heap.size) g3 (hs _ g2) (va_eqt (hs _ g1)) (fun j hj => va_eqt (hs _ (z_gv_el k hk j hj))) hA
      exact ⟨t, fun _ => ⟨va_Zof (hts _ (z_tb_st k (by omega)).1) (hts _ (z_tb_st k (by omega)).2) ht hA, hT⟩⟩
    · exact ⟨0, fun h => absurd h hk⟩
  obtain ⟨atr, hatr⟩ := Classical.axiomOfChoice hrow
  -- the formatter
  obtain ⟨fv, hfv, hfr⟩ := Cond.isRef_spec (args := #[Value.ref b]) (first := s) (o := none) (idx := []) (hs _ z_gv_f)
  -- the classes
  have hkn : ∀ c9 : Nat, ∃ q : ClassId × (Nat → Nat), c9 < 13 → u_Kn s (z_cn c9) (z_clT c9) (z_fn c9) q.1 q.2 := by
    intro c9
    by_cases hc : c9 < 13
    · obtain ⟨q1, q2, q3⟩ := u_known (ws := z_tbl) (C := z_cn c9) (T := z_clT c9) (N := z_fn c9) (n := z_fn c9) (fun w hw => hts w (List.mem_filter.mp hw).1) (z_lays c9 hc) (hts _ (z_tb_in c9 hc))
      exact ⟨(q1, q2), fun _ => q3⟩
    · exact ⟨(0, fun _ => 0), fun h => absurd h hc⟩
  obtain ⟨kn, hkn⟩ := Classical.axiomOfChoice hkn
  -- the row classes
  obtain ⟨t1, t2, t3, t4, t5⟩ := z_tb_ar
  obtain ⟨a0, ha0⟩ := z_arr_of (ty := .int) (fun C h => by cases h) (hts _ t1)
  obtain ⟨a1, ha1⟩ := z_arr_of (ty := .long) (fun C h => by cases h) (hts _ t2)
  obtain ⟨a2, ha2⟩ := z_aro_of (hts _ t3)
  obtain ⟨a3, ha3⟩ := z_aro_of (hts _ t4)
  obtain ⟨a4, ha4⟩ := z_aro_of (hts _ t5)
  refine ⟨((fun c9 => (kn c9).1, fun c9 => (kn c9).2), (fun e9 => if e9 = 0 then a0 else if e9 = 1 then a1 else if e9 = 2 then a2 else if e9 = 3 then a3 else a4), s.heap.size, fun t i => if t = 64 then .ref (adK i) else if t = 65 then .ref (adV i) else if t = 66 then .ref (atr i) else if t = 67 then .ref b else fv), rfl, rfl, ?_⟩
  refine ⟨hx, hb, hml, hown, hr, hlocks, hnm, ?_, rfl, ⟨?_, ?_⟩, ⟨rfl, fun j _ => rfl⟩, ⟨?_, ?_⟩, ?_, ?_⟩
  · intro k q h
    cases h
  · intro h; cases h
  · intro t i j q h; cases h
  · intro c9 q hq
    have h13 : c9 < 13 := (List.getElem?_eq_some_iff.mp hq).1
    rw [z_cl_at c9 h13] at hq
    cases hq
    exact hkn c9 h13
  · intro k q hq
    match k, hq with
    | 0, hq => cases hq; exact ha0
    | 1, hq => cases hq; exact ha1
    | 2, hq => cases hq; exact ha2
    | 3, hq => cases hq; exact ha3
    | 4, hq => cases hq; exact ha4
    | k + 5, hq => exact absurd (List.getElem?_eq_some_iff.mp hq).1 (by show ¬ k + 5 < 5; omega)
  · intro w hw
    exact z_wk_of (List.all_eq_true.mp z_wk_all w hw) (hts w (List.mem_filter.mp hw).1)
  · refine ⟨?_, ⟨adK, adV, fun i hi => ⟨rfl, rfl⟩, hK1, fun i hi => vk_R.of (hts _ (z_tb_sr i hi)) (hK2 i hi)⟩, fun k hk => ⟨atr k, rfl, (hatr k hk).1, (hatr k hk).2⟩, ?_, ?_, ⟨b, rfl, hbl, hX⟩, fun c9 hc d9 hd hsub => va_Nc.of (hs _ (z_gv_nc c9 hc d9 hd hsub)), by omega⟩
    · intro t i
      show (if t = 64 then _ else _) = _ ∨ ∃ a, (if t = 64 then _ else _) = _
      by_cases h1 : t = 64
      · rw [if_pos h1]; exact Or.inr ⟨_, rfl⟩
      · rw [if_neg h1]
        by_cases h2 : t = 65
        · rw [if_pos h2]; exact Or.inr ⟨_, rfl⟩
        · rw [if_neg h2]
          by_cases h3 : t = 66
          · rw [if_pos h3]; exact Or.inr ⟨_, rfl⟩
          · rw [if_neg h3]
            by_cases h4 : t = 67
            · rw [if_pos h4]; exact Or.inr ⟨_, rfl⟩
            · rw [if_neg h4]
              cases fv with
              | ref a => exact Or.inr ⟨a, rfl⟩
              | null => exact Or.inl rfl
              | _ => cases hfr
    · exact va_Zof (hts _ (z_tb_st 4 (by decide)).1) (hts _ (z_tb_st 4 (by decide)).2) (va_eqi (hs _ z_gv_c)) hA
    · exact va_Zof (hts _ (z_tb_st 5 (by decide)).1) (hts _ (z_tb_st 5 (by decide)).2) hfv hA
end
section
/-! from a run of the law in the interpreter to the law on the machine -/
/-- what is wanted of the interpreter: on each script the law answers 1, in its room -/
def z_law (L : Nat) (xs : Nat → Int32) : Prop := ∃ (d : Nat) (M : z_M), d ≤ 2000 ∧ z_ev d (z_en 285 [z_r 67 0] (z_M0 L xs)) (some (z_i 1), M) ∧ z_nc M ≤ 600000 ∧ z_sl M ≤ 7302250
theorem z_mi285 : (z_mi 285).2.1 = code := rfl
theorem z_ml285 : z_ml 285 = 4 := rfl
theorem z_brd {p : Program} {e : Env} {s : State} {m : MethodId} {below : List Frame} {meth : Method} {c : Code} (l : Launch) {b L : Nat} {xs : Nat → Int32} (hL : L ≤ 384) (hw : z_law L xs) (C0 : lw_At p s m meth c b L xs) : W p l e room_1 s m #[Value.ref b] below meth c s.heap [] 0 0 (lw_Z below #[Value.ref b] s) (entryFrame m ([Value.ref b] : List Value).toArray 4) := by
  obtain ⟨d, M, hd, ⟨n, hn⟩, hc, hsl⟩ := hw
  obtain ⟨G, hG, hGb, F⟩ := z_beg hL C0
  have hx := F.1
  have hb : c.code = code := F.2.1
  have hr : meth.sig.returnType = ret := F.2.2.2.2.1
  have hlocks := F.2.2.2.2.2.1
  have hSt := F.2.2.2.2.2.2.2
  have e0 : z_nc (z_M0 L xs) = 0 := rfl
  have e1 : z_sl (z_M0 L xs) = 0 := rfl
  have K := z_snd (G := G) (L := L) (xs := xs) (l := l) n d (z_en 285 [z_r 67 0] (z_M0 L xs)) _ hn p e room_1 s m #[Value.ref b] below meth c (lw_Z below #[Value.ref b] s) (z_M0 L xs) F (Nat.le_refl _)
    (by show d + 1 ≤ 2048; omega) (by show 40 * (d + 1) ≤ 84000; omega) (by show z_nc M - _ ≤ 600000; omega) (by show z_sl M - _ ≤ 7302250; omega) (by
      intro pc ls st M1 hst
      have hst : z_step (285, pc, ls, st, M1) = Sum.inr (Sum.inl (some (z_i 1), M)) := hst
      obtain ⟨hM, ins, len, a, b9, e', f, ki, kj, hcd, hcase⟩ := z_step_rt hst
      have hM : M = M1 := hM
      subst hM
      obtain ⟨hdc, ho, -⟩ := z_cd_ok hcd
      have hdc : decode (z_mi 285).2.1 pc = .ok (ins, len) := hdc
      rw [z_mi285] at hdc
      rcases hcase with ⟨rfl, v1, e4, e5, -⟩ | ⟨-, v1, -, e5⟩ | ⟨-, v1, -, e5⟩ | ⟨-, -, e5⟩
      · have e5 : some (z_i 1) = some (z_i v1) := e5
        cases e5
        subst e4
        simp only [z_oke, Bool.and_eq_true] at ho
        obtain rfl : len = 1 := Nat.eq_of_beq_eq_true ho.1
        intro H locs lsC hR hl
        refine va_forget (fun q hq => ?_) ?_
        · have h1 : z_A G.2.2.1 q.base := hR.2.2.2.2.2.2 q hq
          rw [hG] at h1
          exact h1
        · refine W.widen (k := 600000) (n := 7302250) (by show z_nc M - 0 ≤ 600000; omega) (by show z_sl M - 0 ≤ 7302250; omega) ?_
          have hdc : decode code pc = .ok (.ireturn, 1) := hdc
          have q9 := lw_ret (p := p) (l := l) (e := e) (s := s) (m := m) (below := below) (meth := meth) (c := c) (b := b) (pc := pc) (H := H) (ls := lsC) hx hb hr hlocks hdc
          exact q9
      · cases e5
      · cases e5
      · cases e5)
  have hR : z_Rp G L xs s (z_M0 L xs) s.heap [] := ⟨hSt.1, by rw [hSt.2.1]; exact Nat.le_refl _, hSt.2.2.1, hSt.2.2.2.1, va_S.rf⟩
  have hE := z_entry (G := G) F.ex (as1 := [z_r 67 0]) (n := z_ml 285) (by decide)
  have K := K s.heap [] _ hR hE
  rw [z_ml285] at K
  rw [lg_entry_eq]
  have hA : ([z_r 67 0] : List z_V).map (z_tv G) = [Value.ref b] := by
    show [z_tv G (z_r 67 0)] = _
    rw [← hGb]
    rfl
  rw [hA] at K
  exact K
end
section
/-! steps with a guard, branches by their sense -/
def z_c (b : Bool) : Int32 := bif b then 1 else 0
theorem z_gt {i n : Nat} (h : i < n) : decide (i < n) = true := decide_eq_true h
theorem z_lt40 {k : Nat} (h : k < 4) : k < 10 := by omega
theorem z_lt41 {k : Nat} (h : k < 4) : 4 + k < 10 := by omega
theorem z_cl_nat {k n : Nat} (hk : k < n) (hn : n ≤ 1000000) : (Int32.ofNat k).toNatClampNeg = k := Int32.toNatClampNeg_ofNat_of_lt (by omega)
theorem z_in_nat {k n : Nat} (hk : k < n) (hn : n ≤ 1000000) : z_in (Int32.ofNat k) n = true := by
  unfold z_in
  rw [decide_eq_true_iff, z_cl_nat hk hn]
  rintro (h | h)
  · have h0 : (0 : Int32) ≤ Int32.ofNat k := (Int32.ofNat_le_ofNat (by decide) (by omega)).mpr (Nat.zero_le k)
    exact absurd h (Int32.not_lt.mpr h0)
  · omega
section
variable {d : Nat} {cf c1 : z_C} {r : Option z_V × z_M} {b : Bool} {y p1 p2 : Nat} {ls : List (Option z_V)} {st : List z_V} {M : z_M}
theorem z_ev_gi {i n : Nat} (h : z_step cf = (bif decide (i < n) then Sum.inl c1 else z_er)) (hi : i < n) (k : z_ev d c1 r) : z_ev d cf r := z_ev_ok h (z_gt hi) k
theorem z_ev_dvi {w1 : Int32} (h : z_step cf = (if w1 = 0 then z_er else Sum.inl c1)) (hp : ¬ w1 = 0) (k : z_ev d c1 r) : z_ev d cf r := by
  rw [if_neg hp] at h
  exact z_ev_st h k
theorem z_ev_dvj {w1 : Int64} (h : z_step cf = (if w1 = 0 then z_er else Sum.inl c1)) (hp : ¬ w1 = 0) (k : z_ev d c1 r) : z_ev d cf r := by
  rw [if_neg hp] at h
  exact z_ev_st h k
theorem z_ev_ifn {P : Prop} [Decidable P] (h1 : ¬ P → z_ev d (y, p1, ls, st, M) r) (h2 : P → z_ev d (y, p2, ls, st, M) r) : z_ev d (y, (if ¬ P then p1 else p2), ls, st, M) r := by
  by_cases h : P
  · rw [if_neg (fun q => q h)]; exact h2 h
  · rw [if_pos h]; exact h1 h
theorem z_ev_iflt {a c : Int32} (h1 : a < c → z_ev d (y, p1, ls, st, M) r) (h2 : c ≤ a → z_ev d (y, p2, ls, st, M) r) : z_ev d (y, (if a < c then p1 else p2), ls, st, M) r := z_ev_if h1 (fun q => h2 (Int32.not_lt.mp q))
theorem z_ev_ifle {a c : Int32} (h1 : a ≤ c → z_ev d (y, p1, ls, st, M) r) (h2 : c < a → z_ev d (y, p2, ls, st, M) r) : z_ev d (y, (if a ≤ c then p1 else p2), ls, st, M) r := z_ev_if h1 (fun q => h2 (Int32.not_le.mp q))
theorem z_c_0 {b : Bool} : z_c b = 0 ↔ b = false := by cases b <;> decide
theorem z_ev_ifc (h1 : b = false → z_ev d (y, p1, ls, st, M) r) (h2 : b = true → z_ev d (y, p2, ls, st, M) r) : z_ev d (y, (if z_c b = 0 then p1 else p2), ls, st, M) r :=
  z_ev_if (fun q => h1 (z_c_0.mp q)) (fun q => h2 (by cases b; exact absurd rfl q; rfl))
theorem z_ev_ifcn (h1 : b = true → z_ev d (y, p1, ls, st, M) r) (h2 : b = false → z_ev d (y, p2, ls, st, M) r) : z_ev d (y, (if ¬ z_c b = 0 then p1 else p2), ls, st, M) r :=
  z_ev_ifn (fun q => h1 (by cases b; exact absurd rfl q; rfl)) (fun q => h2 (z_c_0.mp q))
theorem z_ev_rtn {v : Int32} {a : Nat} (h : z_step cf = (bif z_nr a v then z_rt (some (z_i v)) M else z_er)) (hn : z_nr a v = true) : z_ev d cf (some (z_i v), M) := by
  rw [hn] at h
  exact z_ev_rt h
theorem z_ev_rtb (h : z_step cf = (bif z_nr 1 (z_c b) then z_rt (some (z_i (z_c b))) M else z_er)) : z_ev d cf (some (z_i (z_c b)), M) := z_ev_rtn h (by cases b <;> decide)
theorem z_ev_iald {t i k n : Nat} {x : Int32} (h : z_step cf = (bif (z_g M t i && z_in x n) then Sum.inl (y, p1, ls, z_i (M.2.2.1 t i x.toNatClampNeg) :: st, M) else z_er)) (hg : z_g M t i = true) (hx : x = Int32.ofNat k) (hk : k < n) (hn : n ≤ 1000000)
    (kk : z_ev d (y, p1, ls, z_i (M.2.2.1 t i k) :: st, M) r) : z_ev d cf r := by
  subst hx
  rw [z_cl_nat hk hn] at h
  exact z_ev_ok h (by rw [hg, z_in_nat hk hn]; rfl) kk
theorem z_ev_lald {t i k n : Nat} {x : Int32} (h : z_step cf = (bif (z_g M t i && z_in x n) then Sum.inl (y, p1, ls, z_j (M.2.2.2 t i x.toNatClampNeg) :: st, M) else z_er)) (hg : z_g M t i = true) (hx : x = Int32.ofNat k) (hk : k < n) (hn : n ≤ 1000000)
    (kk : z_ev d (y, p1, ls, z_j (M.2.2.2 t i k) :: st, M) r) : z_ev d cf r := by
  subst hx
  rw [z_cl_nat hk hn] at h
  exact z_ev_ok h (by rw [hg, z_in_nat hk hn]; rfl) kk
theorem z_ev_iast {t i k n : Nat} {x v : Int32} (h : z_step cf = (bif (z_g M t i && z_in x n) then Sum.inl (y, p1, ls, st, (M.1, M.2.1, z_up M.2.2.1 t i x.toNatClampNeg v, M.2.2.2)) else z_er)) (hg : z_g M t i = true) (hx : x = Int32.ofNat k) (hk : k < n) (hn : n ≤ 1000000)
    (kk : z_ev d (y, p1, ls, st, (M.1, M.2.1, z_up M.2.2.1 t i k v, M.2.2.2)) r) : z_ev d cf r := by
  subst hx
  rw [z_cl_nat hk hn] at h
  exact z_ev_ok h (by rw [hg, z_in_nat hk hn]; rfl) kk
theorem z_ev_last {t i k n : Nat} {x : Int32} {v : Int64} (h : z_step cf = (bif (z_g M t i && z_in x n) then Sum.inl (y, p1, ls, st, (M.1, M.2.1, M.2.2.1, z_up M.2.2.2 t i x.toNatClampNeg v)) else z_er)) (hg : z_g M t i = true) (hx : x = Int32.ofNat k) (hk : k < n) (hn : n ≤ 1000000)
    (kk : z_ev d (y, p1, ls, st, (M.1, M.2.1, M.2.2.1, z_up M.2.2.2 t i k v)) r) : z_ev d cf r := by
  subst hx
  rw [z_cl_nat hk hn] at h
  exact z_ev_ok h (by rw [hg, z_in_nat hk hn]; rfl) kk
/-- a constant row -/
theorem z_ev_sld {w : Nat} {k n : Nat} {x : Int32} (h : z_step cf = (bif (decide (w < 4) && z_in x (z_stc.getD w []).length) then Sum.inl (y, p1, ls, z_i ((z_stc.getD w []).getD x.toNatClampNeg 0) :: st, M) else z_er)) (hx : x = Int32.ofNat k) (hk : k < n) (hn : (w < 4 ∧ n = (z_stc.getD w []).length) ∧ n ≤ 1000000)
    (kk : z_ev d (y, p1, ls, z_i ((z_stc.getD w []).getD k 0) :: st, M) r) : z_ev d cf r := by
  obtain ⟨⟨h4, rfl⟩, hn⟩ := hn
  subst hx
  rw [z_cl_nat hk hn] at h
  exact z_ev_ok h (by rw [z_in_nat hk hn, decide_eq_true h4]; rfl) kk
/-- the script -/
theorem z_ev_scr {k : Nat} {x : Int32} (h : z_step cf = (bif (true && z_in x (M.2.2.1 67 1 0).toNatClampNeg) then Sum.inl (y, p1, ls, z_i (M.2.2.1 67 0 x.toNatClampNeg) :: st, M) else z_er)) (hx : x = Int32.ofNat k) (hk : k < (M.2.2.1 67 1 0).toNatClampNeg) (hn : (M.2.2.1 67 1 0).toNatClampNeg ≤ 1000000)
    (kk : z_ev d (y, p1, ls, z_i (M.2.2.1 67 0 k) :: st, M) r) : z_ev d cf r := by
  subst hx
  rw [z_cl_nat hk hn] at h
  exact z_ev_ok h (by rw [z_in_nat hk hn]; rfl) kk
/-- the nets of a world, the sheets, the shares -/
theorem z_fin_nt0 : ∀ k, k < 4 → z_fin 2 0 k = some (13, k) := by decide +kernel
theorem z_fin_nt1 : ∀ k, k < 4 → z_fin 2 1 k = some (13, 4 + k) := by decide +kernel
theorem z_fin_sh : ∀ k, k < 4 → z_fin 21 0 k = some (30, k) := by decide +kernel
theorem z_ev_nt0 {k : Nat} {x : Int32} (h : z_step cf = (bif (true && z_in x 4) then Sum.inl (y, p1, ls, z_rf (z_fin 2 0 x.toNatClampNeg) :: st, M) else z_er)) (hx : x = Int32.ofNat k) (hk : k < 4) (kk : z_ev d (y, p1, ls, z_r 13 k :: st, M) r) : z_ev d cf r := by
  subst hx
  rw [z_cl_nat hk (by decide), z_fin_nt0 k hk] at h
  exact z_ev_ok h (by rw [z_in_nat hk (by decide)]; rfl) kk
theorem z_ev_nt1 {k : Nat} {x : Int32} (h : z_step cf = (bif (true && z_in x 4) then Sum.inl (y, p1, ls, z_rf (z_fin 2 1 x.toNatClampNeg) :: st, M) else z_er)) (hx : x = Int32.ofNat k) (hk : k < 4) (kk : z_ev d (y, p1, ls, z_r 13 (4 + k) :: st, M) r) : z_ev d cf r := by
  subst hx
  rw [z_cl_nat hk (by decide), z_fin_nt1 k hk] at h
  exact z_ev_ok h (by rw [z_in_nat hk (by decide)]; rfl) kk
theorem z_ev_sh {k : Nat} {x : Int32} (h : z_step cf = (bif (true && z_in x 4) then Sum.inl (y, p1, ls, z_rf (z_fin 21 0 x.toNatClampNeg) :: st, M) else z_er)) (hx : x = Int32.ofNat k) (hk : k < 4) (kk : z_ev d (y, p1, ls, z_r 30 k :: st, M) r) : z_ev d cf r := by
  subst hx
  rw [z_cl_nat hk (by decide), z_fin_sh k hk] at h
  exact z_ev_ok h (by rw [z_in_nat hk (by decide)]; rfl) kk
theorem z_ev_so {k i q : Nat} {x : Int32} (h : z_step cf = (bif (z_g M 11 i && z_in x 6) then Sum.inl (y, p1, ls, z_rf (M.2.1.2.2.2 11 i x.toNatClampNeg) :: st, M) else z_er)) (hg : z_g M 11 i = true) (hx : x = Int32.ofNat k) (hk : k < 6) (hq : M.2.1.2.2.2 11 i k = some (32, q)) (kk : z_ev d (y, p1, ls, z_r 32 q :: st, M) r) : z_ev d cf r := by
  subst hx
  rw [z_cl_nat hk (by decide), hq] at h
  exact z_ev_ok h (by rw [hg, z_in_nat hk (by decide)]; rfl) kk
/-- a call on a receiver whose number is a variable -/
theorem z_ev_cg {y0 pc i n : Nat} {as1 : List z_V} {M1 : z_M} {v : Option z_V} (h : z_step cf = (bif decide (i < n) then z_ca y as1 (y0, pc, ls, st, M) else z_er)) (hi : i < n) (hg : (Nat.ble (z_la as1).length (z_ml y) && z_pl y) = true)
    (hc : z_ev d (z_en y as1 M) (v, M1)) (k : z_ev (d + 1) (y0, pc, ls, v.toList ++ st, M1) r) : z_ev (d + 1) cf r := by
  rw [z_gt hi] at h
  exact z_ev_ca h hg hc k
theorem z_ev_son {k i : Nat} {x : Int32} (h : z_step cf = (bif (z_g M 11 i && z_in x 6) then Sum.inl (y, p1, ls, z_rf (M.2.1.2.2.2 11 i x.toNatClampNeg) :: st, M) else z_er)) (hg : z_g M 11 i = true) (hx : x = Int32.ofNat k) (hk : k < 6) (hq : M.2.1.2.2.2 11 i k = none) (kk : z_ev d (y, p1, ls, z_n :: st, M) r) : z_ev d cf r := by
  subst hx
  rw [z_cl_nat hk (by decide), hq] at h
  exact z_ev_ok h (by rw [hg, z_in_nat hk (by decide)]; rfl) kk
theorem z_ev_bld {w1 : Nat} {k n : Nat} {x : Int32} (h : z_step cf = (bif (true && decide (w1 < 4) && z_in x (z_sby.getD w1 []).length) then Sum.inl (y, p1, ls, z_i ((z_sby.getD w1 []).getD x.toNatClampNeg 0) :: st, M) else z_er)) (hx : x = Int32.ofNat k) (hk : k < n) (hn : (w1 < 4 ∧ n = (z_sby.getD w1 []).length) ∧ n ≤ 1000000)
    (kk : z_ev d (y, p1, ls, z_i ((z_sby.getD w1 []).getD k 0) :: st, M) r) : z_ev d cf r := by
  obtain ⟨⟨h4, rfl⟩, hn⟩ := hn
  subst hx
  rw [z_cl_nat hk hn] at h
  exact z_ev_ok h (by rw [z_in_nat hk hn, decide_eq_true h4]; rfl) kk
theorem z_mem4 {a : Nat} (h : a ∈ ([0, 3, 5, 6] : List Nat)) : ([0, 3, 5, 6] : List Nat).contains a = true := by
  rw [List.contains_iff_mem]
  exact h
theorem z_ev_ins {q a n : Nat} (h : z_step cf = (bif decide (q < n) then (bif ([0, 3, 5, 6] : List Nat).contains a && true then Sum.inl c1 else z_er) else z_er)) (hq : q < n) (ha : a ∈ ([0, 3, 5, 6] : List Nat)) (kk : z_ev d c1 r) : z_ev d cf r := by
  rw [z_gt hq, z_mem4 ha] at h
  exact z_ev_st h kk
theorem z_ev_aon {k i : Nat} {x : Int32} (h : z_step cf = (bif (z_g M 11 i && z_in x 6 && true) then Sum.inl (y, p1, ls, st, (M.1, (M.2.1.1, M.2.1.2.1, M.2.1.2.2.1, z_up M.2.1.2.2.2 11 i x.toNatClampNeg none), M.2.2.1, M.2.2.2)) else z_er)) (hg : z_g M 11 i = true) (hx : x = Int32.ofNat k) (hk : k < 6)
    (kk : z_ev d (y, p1, ls, st, (M.1, (M.2.1.1, M.2.1.2.1, M.2.1.2.2.1, z_up M.2.1.2.2.2 11 i k none), M.2.2.1, M.2.2.2)) r) : z_ev d cf r := by
  subst hx
  rw [z_cl_nat hk (by decide)] at h
  exact z_ev_ok h (by rw [hg, z_in_nat hk (by decide)]; rfl) kk
theorem z_fit_sh {X : z_X} {I : Nat → Nat → Nat → Int32} {J : Nat → Nat → Nat → Int64} {q : Nat} (hq : q < X.1) (ha : X.2.2.1 q ∈ ([0, 3, 5, 6] : List Nat)) : z_fit (true, X, I, J) 3 (z_r 32 q) = some (some (32, q)) := by
  show (bif (true && decide (q < X.1)) then (bif ([0, 3, 5, 6] : List Nat).contains (X.2.2.1 q) then some (some (32, q)) else none) else none) = _
  rw [z_gt hq, z_mem4 ha]
  rfl
theorem z_ev_ao {X : z_X} {I : Nat → Nat → Nat → Int32} {J : Nat → Nat → Nat → Int64} {k i q : Nat} {x : Int32} (h : z_step cf = (match z_fit (true, X, I, J) 3 (z_r 32 q) with
      | some o => bif (z_g (true, X, I, J) 11 i && z_in x 6 && true) then Sum.inl (y, p1, ls, st, (true, (X.1, X.2.1, X.2.2.1, z_up X.2.2.2 11 i x.toNatClampNeg o), I, J)) else z_er
      | none => z_er)) (hg : z_g (true, X, I, J) 11 i = true) (hq : q < X.1) (ha : X.2.2.1 q ∈ ([0, 3, 5, 6] : List Nat)) (hx : x = Int32.ofNat k) (hk : k < 6)
    (kk : z_ev d (y, p1, ls, st, (true, (X.1, X.2.1, X.2.2.1, z_up X.2.2.2 11 i k (some (32, q))), I, J)) r) : z_ev d cf r := by
  subst hx
  rw [z_fit_sh hq ha, z_cl_nat hk (by decide)] at h
  exact z_ev_ok h (by rw [hg, z_in_nat hk (by decide)]; rfl) kk
/-- a share's method: the one above its class's, the one of its class -/
theorem z_ev_vs {y0 pc q n a : Nat} {as1 : List z_V} {M1 : z_M} {v : Option z_V} (h : z_step cf = (bif decide (q < n) then (bif Nat.blt a 7 then z_ca y as1 (y0, pc, ls, st, M) else z_er) else z_er)) (hq : q < n) (ha : a < 7) (hg : (Nat.ble (z_la as1).length (z_ml y) && z_pl y) = true)
    (hc : z_ev d (z_en y as1 M) (v, M1)) (k : z_ev (d + 1) (y0, pc, ls, v.toList ++ st, M1) r) : z_ev (d + 1) cf r := by
  have h7 : Nat.blt a 7 = true := Nat.ble_eq_true_of_le ha
  rw [z_gt hq, h7] at h
  exact z_ev_ca h hg hc k
theorem z_ev_vv {y0 pc q n a w1 : Nat} {as1 : List z_V} {M1 : z_M} {v : Option z_V} (h : z_step cf = (bif decide (q < n) then (match z_vt w1 a with
      | none => z_er
      | some y' => z_ca y' as1 (y0, pc, ls, st, M)) else z_er)) (hq : q < n) (ha : z_vt w1 a = some y) (hg : (Nat.ble (z_la as1).length (z_ml y) && z_pl y) = true)
    (hc : z_ev d (z_en y as1 M) (v, M1)) (k : z_ev (d + 1) (y0, pc, ls, v.toList ++ st, M1) r) : z_ev (d + 1) cf r := by
  rw [z_gt hq, ha] at h
  exact z_ev_ca h hg hc k
end
end
section
/-! segments: leaves -/
theorem z_q118_e {d : Nat} {r : Option z_V × z_M} {X : z_X} {I : Nat → Nat → Nat → Int32} {J : Nat → Nat → Nat → Int64} (x0 : Int32)
    (h : ((x0 < 0 → r = (some (z_i 0), (true, X, I, J))) ∧ (0 ≤ x0 → (((4 : Int32) ≤ x0 → r = (some (z_i 0), (true, X, I, J))) ∧ (x0 < (4 : Int32) → r = (some (z_i 1), (true, X, I, J))))))) :
    z_ev (d + 1) (z_en 118 [z_i (x0)] (true, X, I, J)) r := by
  show z_ev (d + 1) (118, 0, [some (z_i (x0))], [], (true, X, I, J)) r
  refine z_ev_gs 2 (c1 := (118, (if x0 < 0 then 13 else 4), [some (z_i (x0))], [], (true, X, I, J))) rfl ?_
  refine z_ev_iflt (fun e4 => ?_) (fun e4 => ?_)
  · have h5 := h.1 e4
    refine z_ev_gs 1 (c1 := (118, 14, [some (z_i (x0))], [z_i 0], (true, X, I, J))) rfl ?_
    rw [h5]
    exact z_ev_rt rfl
  · have h6 := h.2 e4
    refine z_ev_gs 3 (c1 := (118, (if (4 : Int32) ≤ x0 then 13 else 9), [some (z_i (x0))], [], (true, X, I, J))) rfl ?_
    refine z_ev_ifle (fun e1 => ?_) (fun e1 => ?_)
    · have h2 := h6.1 e1
      refine z_ev_gs 1 (c1 := (118, 14, [some (z_i (x0))], [z_i 0], (true, X, I, J))) rfl ?_
      rw [h2]
      exact z_ev_rt rfl
    · have h3 := h6.2 e1
      refine z_ev_gs 2 (c1 := (118, 14, [some (z_i (x0))], [z_i 1], (true, X, I, J))) rfl ?_
      rw [h3]
      exact z_ev_rt rfl
theorem z_q121_e {d : Nat} {r : Option z_V × z_M} {X : z_X} {I : Nat → Nat → Nat → Int32} {J : Nat → Nat → Nat → Int64} (x0 : Int32)
    (h : ((x0 = 0 → r = (some (z_i 1), (true, X, I, J))) ∧ (¬ x0 = 0 → ((¬ x0 = (1 : Int32) → r = (some (z_i 0), (true, X, I, J))) ∧ (x0 = (1 : Int32) → r = (some (z_i 1), (true, X, I, J))))))) :
    z_ev (d + 1) (z_en 121 [z_i (x0)] (true, X, I, J)) r := by
  show z_ev (d + 1) (121, 0, [some (z_i (x0))], [], (true, X, I, J)) r
  refine z_ev_gs 2 (c1 := (121, (if x0 = 0 then 9 else 4), [some (z_i (x0))], [], (true, X, I, J))) rfl ?_
  refine z_ev_if (fun e4 => ?_) (fun e4 => ?_)
  · have h5 := h.1 e4
    refine z_ev_gs 2 (c1 := (121, 14, [some (z_i (x0))], [z_i 1], (true, X, I, J))) rfl ?_
    rw [h5]
    exact z_ev_rt rfl
  · have h6 := h.2 e4
    refine z_ev_gs 3 (c1 := (121, (if ¬ x0 = (1 : Int32) then 13 else 9), [some (z_i (x0))], [], (true, X, I, J))) rfl ?_
    refine z_ev_ifn (fun e1 => ?_) (fun e1 => ?_)
    · have h2 := h6.1 e1
      refine z_ev_gs 1 (c1 := (121, 14, [some (z_i (x0))], [z_i 0], (true, X, I, J))) rfl ?_
      rw [h2]
      exact z_ev_rt rfl
    · have h3 := h6.2 e1
      refine z_ev_gs 2 (c1 := (121, 14, [some (z_i (x0))], [z_i 1], (true, X, I, J))) rfl ?_
      rw [h3]
      exact z_ev_rt rfl
theorem z_q122_e {d : Nat} {r : Option z_V × z_M} {X : z_X} {I : Nat → Nat → Nat → Int32} {J : Nat → Nat → Nat → Int64} (x0 : Int32)
    (h : ((x0 < 0 → r = (some (z_i 0), (true, X, I, J))) ∧ (0 ≤ x0 → (((4 : Int32) ≤ x0 → r = (some (z_i 0), (true, X, I, J))) ∧ (x0 < (4 : Int32) → r = (some (z_i 1), (true, X, I, J))))))) :
    z_ev (d + 1) (z_en 122 [z_i (x0)] (true, X, I, J)) r := by
  show z_ev (d + 1) (122, 0, [some (z_i (x0))], [], (true, X, I, J)) r
  refine z_ev_gs 2 (c1 := (122, (if x0 < 0 then 13 else 4), [some (z_i (x0))], [], (true, X, I, J))) rfl ?_
  refine z_ev_iflt (fun e4 => ?_) (fun e4 => ?_)
  · have h5 := h.1 e4
    refine z_ev_gs 1 (c1 := (122, 14, [some (z_i (x0))], [z_i 0], (true, X, I, J))) rfl ?_
    rw [h5]
    exact z_ev_rt rfl
  · have h6 := h.2 e4
    refine z_ev_gs 3 (c1 := (122, (if (4 : Int32) ≤ x0 then 13 else 9), [some (z_i (x0))], [], (true, X, I, J))) rfl ?_
    refine z_ev_ifle (fun e1 => ?_) (fun e1 => ?_)
    · have h2 := h6.1 e1
      refine z_ev_gs 1 (c1 := (122, 14, [some (z_i (x0))], [z_i 0], (true, X, I, J))) rfl ?_
      rw [h2]
      exact z_ev_rt rfl
    · have h3 := h6.2 e1
      refine z_ev_gs 2 (c1 := (122, 14, [some (z_i (x0))], [z_i 1], (true, X, I, J))) rfl ?_
      rw [h3]
      exact z_ev_rt rfl
theorem z_q123_e {d : Nat} {r : Option z_V × z_M} {X : z_X} {I : Nat → Nat → Nat → Int32} {J : Nat → Nat → Nat → Int64} (x0 : Int32)
    (h : ((x0 < 0 → r = (some (z_i 0), (true, X, I, J))) ∧ (0 ≤ x0 → (((3 : Int32) < x0 → r = (some (z_i 0), (true, X, I, J))) ∧ (x0 ≤ (3 : Int32) → r = (some (z_i 1), (true, X, I, J))))))) :
    z_ev (d + 1) (z_en 123 [z_i (x0)] (true, X, I, J)) r := by
  show z_ev (d + 1) (123, 0, [some (z_i (x0))], [], (true, X, I, J)) r
  refine z_ev_gs 2 (c1 := (123, (if x0 < 0 then 13 else 4), [some (z_i (x0))], [], (true, X, I, J))) rfl ?_
  refine z_ev_iflt (fun e4 => ?_) (fun e4 => ?_)
  · have h5 := h.1 e4
    refine z_ev_gs 1 (c1 := (123, 14, [some (z_i (x0))], [z_i 0], (true, X, I, J))) rfl ?_
    rw [h5]
    exact z_ev_rt rfl
  · have h6 := h.2 e4
    refine z_ev_gs 3 (c1 := (123, (if (3 : Int32) < x0 then 13 else 9), [some (z_i (x0))], [], (true, X, I, J))) rfl ?_
    refine z_ev_iflt (fun e1 => ?_) (fun e1 => ?_)
    · have h2 := h6.1 e1
      refine z_ev_gs 1 (c1 := (123, 14, [some (z_i (x0))], [z_i 0], (true, X, I, J))) rfl ?_
      rw [h2]
      exact z_ev_rt rfl
    · have h3 := h6.2 e1
      refine z_ev_gs 2 (c1 := (123, 14, [some (z_i (x0))], [z_i 1], (true, X, I, J))) rfl ?_
      rw [h3]
      exact z_ev_rt rfl
theorem z_q124_e {d : Nat} {r : Option z_V × z_M} {X : z_X} {I : Nat → Nat → Nat → Int32} {J : Nat → Nat → Nat → Int64} (x0 : Int32)
    (h : ((x0 < 0 → r = (some (z_i 0), (true, X, I, J))) ∧ (0 ≤ x0 → (((4 : Int32) ≤ x0 → r = (some (z_i 0), (true, X, I, J))) ∧ (x0 < (4 : Int32) → r = (some (z_i 1), (true, X, I, J))))))) :
    z_ev (d + 1) (z_en 124 [z_i (x0)] (true, X, I, J)) r := by
  show z_ev (d + 1) (124, 0, [some (z_i (x0))], [], (true, X, I, J)) r
  refine z_ev_gs 2 (c1 := (124, (if x0 < 0 then 13 else 4), [some (z_i (x0))], [], (true, X, I, J))) rfl ?_
  refine z_ev_iflt (fun e4 => ?_) (fun e4 => ?_)
  · have h5 := h.1 e4
    refine z_ev_gs 1 (c1 := (124, 14, [some (z_i (x0))], [z_i 0], (true, X, I, J))) rfl ?_
    rw [h5]
    exact z_ev_rt rfl
  · have h6 := h.2 e4
    refine z_ev_gs 3 (c1 := (124, (if (4 : Int32) ≤ x0 then 13 else 9), [some (z_i (x0))], [], (true, X, I, J))) rfl ?_
    refine z_ev_ifle (fun e1 => ?_) (fun e1 => ?_)
    · have h2 := h6.1 e1
      refine z_ev_gs 1 (c1 := (124, 14, [some (z_i (x0))], [z_i 0], (true, X, I, J))) rfl ?_
      rw [h2]
      exact z_ev_rt rfl
    · have h3 := h6.2 e1
      refine z_ev_gs 2 (c1 := (124, 14, [some (z_i (x0))], [z_i 1], (true, X, I, J))) rfl ?_
      rw [h3]
      exact z_ev_rt rfl
theorem z_q158_e {d : Nat} {r : Option z_V × z_M} {X : z_X} {I : Nat → Nat → Nat → Int32} {J : Nat → Nat → Nat → Int64} (x0 : Int32) (x1 : Int32) (x2 : Int32)
    (h : ((x0 < x1 → r = (some (z_i 0), (true, X, I, J))) ∧ (x1 ≤ x0 → ((x2 < x0 → r = (some (z_i 0), (true, X, I, J))) ∧ (x0 ≤ x2 → r = (some (z_i 1), (true, X, I, J))))))) :
    z_ev (d + 1) (z_en 158 [z_i (x0), z_i (x1), z_i (x2)] (true, X, I, J)) r := by
  show z_ev (d + 1) (158, 0, [some (z_i (x0)), some (z_i (x1)), some (z_i (x2))], [], (true, X, I, J)) r
  refine z_ev_gs 3 (c1 := (158, (if x0 < x1 then 14 else 5), [some (z_i (x0)), some (z_i (x1)), some (z_i (x2))], [], (true, X, I, J))) rfl ?_
  refine z_ev_iflt (fun e4 => ?_) (fun e4 => ?_)
  · have h5 := h.1 e4
    refine z_ev_gs 1 (c1 := (158, 15, [some (z_i (x0)), some (z_i (x1)), some (z_i (x2))], [z_i 0], (true, X, I, J))) rfl ?_
    rw [h5]
    exact z_ev_rt rfl
  · have h6 := h.2 e4
    refine z_ev_gs 3 (c1 := (158, (if x2 < x0 then 14 else 10), [some (z_i (x0)), some (z_i (x1)), some (z_i (x2))], [], (true, X, I, J))) rfl ?_
    refine z_ev_iflt (fun e1 => ?_) (fun e1 => ?_)
    · have h2 := h6.1 e1
      refine z_ev_gs 1 (c1 := (158, 15, [some (z_i (x0)), some (z_i (x1)), some (z_i (x2))], [z_i 0], (true, X, I, J))) rfl ?_
      rw [h2]
      exact z_ev_rt rfl
    · have h3 := h6.2 e1
      refine z_ev_gs 2 (c1 := (158, 15, [some (z_i (x0)), some (z_i (x1)), some (z_i (x2))], [z_i 1], (true, X, I, J))) rfl ?_
      rw [h3]
      exact z_ev_rt rfl
theorem z_q126_e {d : Nat} {r : Option z_V × z_M} {X : z_X} {I : Nat → Nat → Nat → Int32} {J : Nat → Nat → Nat → Int64} (x0 : Int32)
    (h : r = (some (z_i ((x0 * (x0 - (1 : Int32))) / (2 : Int32))), (true, X, I, J))) :
    z_ev (d + 1) (z_en 126 [z_i (x0)] (true, X, I, J)) r := by
  show z_ev (d + 1) (126, 0, [some (z_i (x0))], [], (true, X, I, J)) r
  refine z_ev_gs 6 (c1 := (126, 6, [some (z_i (x0))], [z_i 2, z_i (x0 * (x0 - (1 : Int32)))], (true, X, I, J))) rfl ?_
  refine z_ev_dvi (w1 := (2 : Int32)) (c1 := (126, 7, [some (z_i (x0))], [z_i ((x0 * (x0 - (1 : Int32))) / (2 : Int32))], (true, X, I, J))) rfl (by decide) ?_
  rw [h]
  exact z_ev_rt rfl
theorem z_q127_e {d : Nat} {r : Option z_V × z_M} {X : z_X} {I : Nat → Nat → Nat → Int32} {J : Nat → Nat → Nat → Int64} (x0 : Int32)
    (h : ((x0 = 1 → r = (some (z_i 1), (true, X, I, J))) ∧ (¬ x0 = 1 → ((x0 = 2 → r = (some (z_i 2), (true, X, I, J))) ∧ (¬ x0 = 2 → ((x0 = 3 → r = (some (z_i 4), (true, X, I, J))) ∧ (¬ x0 = 3 → ((x0 = 4 → r = (some (z_i 11), (true, X, I, J))) ∧ (¬ x0 = 4 → r = (some (z_i 0), (true, X, I, J))))))))))) :
    z_ev (d + 1) (z_en 127 [z_i (x0)] (true, X, I, J)) r := by
  show z_ev (d + 1) (127, 0, [some (z_i (x0))], [], (true, X, I, J)) r
  refine z_ev_gs 2 (c1 := (127, (if x0 = 1 then 32 else (if x0 = 2 then 34 else (if x0 = 3 then 36 else (if x0 = 4 then 38 else 41)))), [some (z_i (x0))], [], (true, X, I, J))) rfl ?_
  refine z_ev_if (fun e1 => ?_) (fun e1 => ?_)
  · have h2 := h.1 e1
    refine z_ev_gs 1 (c1 := (127, 33, [some (z_i (x0))], [z_i 1], (true, X, I, J))) rfl ?_
    rw [h2]
    exact z_ev_rt rfl
  · have h3 := h.2 e1
    refine z_ev_if (fun e4 => ?_) (fun e4 => ?_)
    · have h5 := h3.1 e4
      refine z_ev_gs 1 (c1 := (127, 35, [some (z_i (x0))], [z_i 2], (true, X, I, J))) rfl ?_
      rw [h5]
      exact z_ev_rt rfl
    · have h6 := h3.2 e4
      refine z_ev_if (fun e7 => ?_) (fun e7 => ?_)
      · have h8 := h6.1 e7
        refine z_ev_gs 1 (c1 := (127, 37, [some (z_i (x0))], [z_i 4], (true, X, I, J))) rfl ?_
        rw [h8]
        exact z_ev_rt rfl
      · have h9 := h6.2 e7
        refine z_ev_if (fun e10 => ?_) (fun e10 => ?_)
        · have h11 := h9.1 e10
          refine z_ev_gs 1 (c1 := (127, 40, [some (z_i (x0))], [z_i 11], (true, X, I, J))) rfl ?_
          rw [h11]
          exact z_ev_rt rfl
        · have h12 := h9.2 e10
          refine z_ev_gs 1 (c1 := (127, 42, [some (z_i (x0))], [z_i 0], (true, X, I, J))) rfl ?_
          rw [h12]
          exact z_ev_rt rfl
theorem z_q159_e {d : Nat} {r : Option z_V × z_M} {X : z_X} {I : Nat → Nat → Nat → Int32} {J : Nat → Nat → Nat → Int64} (x0 : Int32)
    (h : r = (some (z_i ((x0 * (x0 - (1 : Int32))) / (2 : Int32))), (true, X, I, J))) :
    z_ev (d + 1) (z_en 159 [z_i (x0)] (true, X, I, J)) r := by
  show z_ev (d + 1) (159, 0, [some (z_i (x0))], [], (true, X, I, J)) r
  refine z_ev_gs 6 (c1 := (159, 6, [some (z_i (x0))], [z_i 2, z_i (x0 * (x0 - (1 : Int32)))], (true, X, I, J))) rfl ?_
  refine z_ev_dvi (w1 := (2 : Int32)) (c1 := (159, 7, [some (z_i (x0))], [z_i ((x0 * (x0 - (1 : Int32))) / (2 : Int32))], (true, X, I, J))) rfl (by decide) ?_
  rw [h]
  exact z_ev_rt rfl
theorem z_q54_e {d : Nat} {r : Option z_V × z_M} {X : z_X} {I : Nat → Nat → Nat → Int32} {J : Nat → Nat → Nat → Int64} (x0 : Int32)
    (h : ((x0 < (97 : Int32) → r = (some (z_i 0), (true, X, I, J))) ∧ ((97 : Int32) ≤ x0 → (((122 : Int32) < x0 → r = (some (z_i 0), (true, X, I, J))) ∧ (x0 ≤ (122 : Int32) → r = (some (z_i 1), (true, X, I, J))))))) :
    z_ev (d + 1) (z_en 54 [z_i (x0)] (true, X, I, J)) r := by
  show z_ev (d + 1) (54, 0, [some (z_i (x0))], [], (true, X, I, J)) r
  refine z_ev_gs 3 (c1 := (54, (if x0 < (97 : Int32) then 16 else 6), [some (z_i (x0))], [], (true, X, I, J))) rfl ?_
  refine z_ev_iflt (fun e4 => ?_) (fun e4 => ?_)
  · have h5 := h.1 e4
    refine z_ev_gs 1 (c1 := (54, 17, [some (z_i (x0))], [z_i 0], (true, X, I, J))) rfl ?_
    rw [h5]
    exact z_ev_rt rfl
  · have h6 := h.2 e4
    refine z_ev_gs 3 (c1 := (54, (if (122 : Int32) < x0 then 16 else 12), [some (z_i (x0))], [], (true, X, I, J))) rfl ?_
    refine z_ev_iflt (fun e1 => ?_) (fun e1 => ?_)
    · have h2 := h6.1 e1
      refine z_ev_gs 1 (c1 := (54, 17, [some (z_i (x0))], [z_i 0], (true, X, I, J))) rfl ?_
      rw [h2]
      exact z_ev_rt rfl
    · have h3 := h6.2 e1
      refine z_ev_gs 2 (c1 := (54, 17, [some (z_i (x0))], [z_i 1], (true, X, I, J))) rfl ?_
      rw [h3]
      exact z_ev_rt rfl
theorem z_q55_e {d : Nat} {r : Option z_V × z_M} {X : z_X} {I : Nat → Nat → Nat → Int32} {J : Nat → Nat → Nat → Int64} (x0 : Int32)
    (h : ((x0 < (48 : Int32) → r = (some (z_i 0), (true, X, I, J))) ∧ ((48 : Int32) ≤ x0 → (((57 : Int32) < x0 → r = (some (z_i 0), (true, X, I, J))) ∧ (x0 ≤ (57 : Int32) → r = (some (z_i 1), (true, X, I, J))))))) :
    z_ev (d + 1) (z_en 55 [z_i (x0)] (true, X, I, J)) r := by
  show z_ev (d + 1) (55, 0, [some (z_i (x0))], [], (true, X, I, J)) r
  refine z_ev_gs 3 (c1 := (55, (if x0 < (48 : Int32) then 16 else 6), [some (z_i (x0))], [], (true, X, I, J))) rfl ?_
  refine z_ev_iflt (fun e4 => ?_) (fun e4 => ?_)
  · have h5 := h.1 e4
    refine z_ev_gs 1 (c1 := (55, 17, [some (z_i (x0))], [z_i 0], (true, X, I, J))) rfl ?_
    rw [h5]
    exact z_ev_rt rfl
  · have h6 := h.2 e4
    refine z_ev_gs 3 (c1 := (55, (if (57 : Int32) < x0 then 16 else 12), [some (z_i (x0))], [], (true, X, I, J))) rfl ?_
    refine z_ev_iflt (fun e1 => ?_) (fun e1 => ?_)
    · have h2 := h6.1 e1
      refine z_ev_gs 1 (c1 := (55, 17, [some (z_i (x0))], [z_i 0], (true, X, I, J))) rfl ?_
      rw [h2]
      exact z_ev_rt rfl
    · have h3 := h6.2 e1
      refine z_ev_gs 2 (c1 := (55, 17, [some (z_i (x0))], [z_i 1], (true, X, I, J))) rfl ?_
      rw [h3]
      exact z_ev_rt rfl
theorem z_q120_e {d : Nat} {r : Option z_V × z_M} {X : z_X} {I : Nat → Nat → Nat → Int32} {J : Nat → Nat → Nat → Int64} (x1 : Int32)
    (h : ((x1 < 0 → r = (some (z_i 0), (true, X, I, J))) ∧ (0 ≤ x1 → (((I 1 0 5) ≤ x1 → r = (some (z_i 0), (true, X, I, J))) ∧ (x1 < (I 1 0 5) → r = (some (z_i 1), (true, X, I, J))))))) :
    z_ev (d + 1) (z_en 120 [z_r 0 0, z_i (x1)] (true, X, I, J)) r := by
  show z_ev (d + 1) (120, 0, [some (z_r 0 0), some (z_i (x1))], [], (true, X, I, J)) r
  refine z_ev_gs 2 (c1 := (120, (if x1 < 0 then 19 else 4), [some (z_r 0 0), some (z_i (x1))], [], (true, X, I, J))) rfl ?_
  refine z_ev_iflt (fun e4 => ?_) (fun e4 => ?_)
  · have h5 := h.1 e4
    refine z_ev_gs 1 (c1 := (120, 20, [some (z_r 0 0), some (z_i (x1))], [z_i 0], (true, X, I, J))) rfl ?_
    rw [h5]
    exact z_ev_rt rfl
  · have h6 := h.2 e4
    refine z_ev_gs 5 (c1 := (120, (if (I 1 0 5) ≤ x1 then 19 else 15), [some (z_r 0 0), some (z_i (x1))], [], (true, X, I, J))) rfl ?_
    refine z_ev_ifle (fun e1 => ?_) (fun e1 => ?_)
    · have h2 := h6.1 e1
      refine z_ev_gs 1 (c1 := (120, 20, [some (z_r 0 0), some (z_i (x1))], [z_i 0], (true, X, I, J))) rfl ?_
      rw [h2]
      exact z_ev_rt rfl
    · have h3 := h6.2 e1
      refine z_ev_gs 2 (c1 := (120, 20, [some (z_r 0 0), some (z_i (x1))], [z_i 1], (true, X, I, J))) rfl ?_
      rw [h3]
      exact z_ev_rt rfl
theorem z_q5_e {d : Nat} {r : Option z_V × z_M} {X : z_X} {I : Nat → Nat → Nat → Int32} {J : Nat → Nat → Nat → Int64} (x1 : Int32)
    (h : ((x1 < 0 → r = (some (z_i 0), (true, X, I, J))) ∧ (0 ≤ x1 → (((I 4 0 2) ≤ x1 → r = (some (z_i 0), (true, X, I, J))) ∧ (x1 < (I 4 0 2) → r = (some (z_i 1), (true, X, I, J))))))) :
    z_ev (d + 1) (z_en 5 [z_r 4 0, z_i (x1)] (true, X, I, J)) r := by
  show z_ev (d + 1) (5, 0, [some (z_r 4 0), some (z_i (x1))], [], (true, X, I, J)) r
  refine z_ev_gs 2 (c1 := (5, (if x1 < 0 then 16 else 4), [some (z_r 4 0), some (z_i (x1))], [], (true, X, I, J))) rfl ?_
  refine z_ev_iflt (fun e4 => ?_) (fun e4 => ?_)
  · have h5 := h.1 e4
    refine z_ev_gs 1 (c1 := (5, 17, [some (z_r 4 0), some (z_i (x1))], [z_i 0], (true, X, I, J))) rfl ?_
    rw [h5]
    exact z_ev_rt rfl
  · have h6 := h.2 e4
    refine z_ev_gs 4 (c1 := (5, (if (I 4 0 2) ≤ x1 then 16 else 12), [some (z_r 4 0), some (z_i (x1))], [], (true, X, I, J))) rfl ?_
    refine z_ev_ifle (fun e1 => ?_) (fun e1 => ?_)
    · have h2 := h6.1 e1
      refine z_ev_gs 1 (c1 := (5, 17, [some (z_r 4 0), some (z_i (x1))], [z_i 0], (true, X, I, J))) rfl ?_
      rw [h2]
      exact z_ev_rt rfl
    · have h3 := h6.2 e1
      refine z_ev_gs 2 (c1 := (5, 17, [some (z_r 4 0), some (z_i (x1))], [z_i 1], (true, X, I, J))) rfl ?_
      rw [h3]
      exact z_ev_rt rfl
theorem z_q125_e {d : Nat} {r : Option z_V × z_M} {X : z_X} {I : Nat → Nat → Nat → Int32} {J : Nat → Nat → Nat → Int64} (x1 : Int32) (x2 : Int32)
    (h : ((x1 < 0 → r = (some (z_i 0), (true, X, I, J))) ∧ (0 ≤ x1 → (((I 0 0 7) ≤ x1 → r = (some (z_i 0), (true, X, I, J))) ∧ (x1 < (I 0 0 7) → ((x2 = 0 → r = (some (z_i 1), (true, X, I, J))) ∧ (¬ x2 = 0 → ((¬ x2 = (1 : Int32) → r = (some (z_i 0), (true, X, I, J))) ∧ (x2 = (1 : Int32) → r = (some (z_i 1), (true, X, I, J))))))))))) :
    z_ev (d + 1) (z_en 125 [z_r 0 0, z_i (x1), z_i (x2)] (true, X, I, J)) r := by
  show z_ev (d + 1) (125, 0, [some (z_r 0 0), some (z_i (x1)), some (z_i (x2))], [], (true, X, I, J)) r
  refine z_ev_gs 2 (c1 := (125, (if x1 < 0 then 25 else 4), [some (z_r 0 0), some (z_i (x1)), some (z_i (x2))], [], (true, X, I, J))) rfl ?_
  refine z_ev_iflt (fun e10 => ?_) (fun e10 => ?_)
  · have h11 := h.1 e10
    refine z_ev_gs 1 (c1 := (125, 26, [some (z_r 0 0), some (z_i (x1)), some (z_i (x2))], [z_i 0], (true, X, I, J))) rfl ?_
    rw [h11]
    exact z_ev_rt rfl
  · have h12 := h.2 e10
    refine z_ev_gs 4 (c1 := (125, (if (I 0 0 7) ≤ x1 then 25 else 12), [some (z_r 0 0), some (z_i (x1)), some (z_i (x2))], [], (true, X, I, J))) rfl ?_
    refine z_ev_ifle (fun e7 => ?_) (fun e7 => ?_)
    · have h8 := h12.1 e7
      refine z_ev_gs 1 (c1 := (125, 26, [some (z_r 0 0), some (z_i (x1)), some (z_i (x2))], [z_i 0], (true, X, I, J))) rfl ?_
      rw [h8]
      exact z_ev_rt rfl
    · have h9 := h12.2 e7
      refine z_ev_gs 2 (c1 := (125, (if x2 = 0 then 21 else 16), [some (z_r 0 0), some (z_i (x1)), some (z_i (x2))], [], (true, X, I, J))) rfl ?_
      refine z_ev_if (fun e4 => ?_) (fun e4 => ?_)
      · have h5 := h9.1 e4
        refine z_ev_gs 2 (c1 := (125, 26, [some (z_r 0 0), some (z_i (x1)), some (z_i (x2))], [z_i 1], (true, X, I, J))) rfl ?_
        rw [h5]
        exact z_ev_rt rfl
      · have h6 := h9.2 e4
        refine z_ev_gs 3 (c1 := (125, (if ¬ x2 = (1 : Int32) then 25 else 21), [some (z_r 0 0), some (z_i (x1)), some (z_i (x2))], [], (true, X, I, J))) rfl ?_
        refine z_ev_ifn (fun e1 => ?_) (fun e1 => ?_)
        · have h2 := h6.1 e1
          refine z_ev_gs 1 (c1 := (125, 26, [some (z_r 0 0), some (z_i (x1)), some (z_i (x2))], [z_i 0], (true, X, I, J))) rfl ?_
          rw [h2]
          exact z_ev_rt rfl
        · have h3 := h6.2 e1
          refine z_ev_gs 2 (c1 := (125, 26, [some (z_r 0 0), some (z_i (x1)), some (z_i (x2))], [z_i 1], (true, X, I, J))) rfl ?_
          rw [h3]
          exact z_ev_rt rfl
theorem z_q199_e {d : Nat} {r : Option z_V × z_M} {X : z_X} {I : Nat → Nat → Nat → Int32} {J : Nat → Nat → Nat → Int64} (x1 : Int32)
    (h : ((¬ x1 = 0 → r = (some (z_j (J 33 0 27)), (true, X, I, J))) ∧ (x1 = 0 → r = (some (z_j (J 33 0 26)), (true, X, I, J))))) :
    z_ev (d + 1) (z_en 199 [z_r 33 0, z_i (x1)] (true, X, I, J)) r := by
  show z_ev (d + 1) (199, 0, [some (z_r 33 0), some (z_i (x1))], [], (true, X, I, J)) r
  refine z_ev_gs 2 (c1 := (199, (if ¬ x1 = 0 then 11 else 4), [some (z_r 33 0), some (z_i (x1))], [], (true, X, I, J))) rfl ?_
  refine z_ev_ifn (fun e1 => ?_) (fun e1 => ?_)
  · have h2 := h.1 e1
    refine z_ev_gs 2 (c1 := (199, 15, [some (z_r 33 0), some (z_i (x1))], [z_j (J 33 0 27)], (true, X, I, J))) rfl ?_
    rw [h2]
    exact z_ev_rt rfl
  · have h3 := h.2 e1
    refine z_ev_gs 3 (c1 := (199, 15, [some (z_r 33 0), some (z_i (x1))], [z_j (J 33 0 26)], (true, X, I, J))) rfl ?_
    rw [h3]
    exact z_ev_rt rfl
theorem z_q65_e {d : Nat} {r : Option z_V × z_M} {X : z_X} {I : Nat → Nat → Nat → Int32} {J : Nat → Nat → Nat → Int64} 
    (h : r = (some (z_i ((((z_up I 1 0 6 (((I 1 0 6) * (1103515245 : Int32)) + (12345 : Int32))) 1 0 6).toUInt32 >>> ((16 : Int32).toUInt32 &&& Int32.toUInt32 31)).toInt32)), (true, X, (z_up I 1 0 6 (((I 1 0 6) * (1103515245 : Int32)) + (12345 : Int32))), J))) :
    z_ev (d + 1) (z_en 65 [z_r 1 0] (true, X, I, J)) r := by
  show z_ev (d + 1) (65, 0, [some (z_r 1 0)], [], (true, X, I, J)) r
  refine z_ev_gs 12 (c1 := (65, 22, [some (z_r 1 0)], [z_i ((((z_up I 1 0 6 (((I 1 0 6) * (1103515245 : Int32)) + (12345 : Int32))) 1 0 6).toUInt32 >>> ((16 : Int32).toUInt32 &&& Int32.toUInt32 31)).toInt32)], (true, X, (z_up I 1 0 6 (((I 1 0 6) * (1103515245 : Int32)) + (12345 : Int32))), J))) rfl ?_
  rw [h]
  exact z_ev_rt rfl
theorem z_q222_e {d : Nat} {r : Option z_V × z_M} {X : z_X} {I : Nat → Nat → Nat → Int32} {J : Nat → Nat → Nat → Int64} 
    (h : r = (some (z_i ((((z_up I 33 0 7 (((I 33 0 7) * (1103515245 : Int32)) + (12345 : Int32))) 33 0 7).toUInt32 >>> ((16 : Int32).toUInt32 &&& Int32.toUInt32 31)).toInt32)), (true, X, (z_up I 33 0 7 (((I 33 0 7) * (1103515245 : Int32)) + (12345 : Int32))), J))) :
    z_ev (d + 1) (z_en 222 [z_r 33 0] (true, X, I, J)) r := by
  show z_ev (d + 1) (222, 0, [some (z_r 33 0)], [], (true, X, I, J)) r
  refine z_ev_gs 12 (c1 := (222, 23, [some (z_r 33 0)], [z_i ((((z_up I 33 0 7 (((I 33 0 7) * (1103515245 : Int32)) + (12345 : Int32))) 33 0 7).toUInt32 >>> ((16 : Int32).toUInt32 &&& Int32.toUInt32 31)).toInt32)], (true, X, (z_up I 33 0 7 (((I 33 0 7) * (1103515245 : Int32)) + (12345 : Int32))), J))) rfl ?_
  rw [h]
  exact z_ev_rt rfl
end
section
/-! leaves: what they answer -/
def z_bw (v a b : Int32) : Bool := decide (a ≤ v) && decide (v ≤ b)
theorem z_bw_t {v a b : Int32} : z_bw v a b = true ↔ a ≤ v ∧ v ≤ b := by simp [z_bw]
theorem z_bw_f {v a b : Int32} : z_bw v a b = false ↔ v < a ∨ b < v := by
  rw [← Bool.not_eq_true, z_bw_t, Decidable.not_and_iff_or_not, Int32.not_le, Int32.not_le]
theorem z_b1 {b : Bool} {M : z_M} (h : b = true) : (some (z_i (z_c b)), M) = ((some (z_i 1), M) : Option z_V × z_M) := by rw [h]; rfl
theorem z_b0 {b : Bool} {M : z_M} (h : b = false) : (some (z_i (z_c b)), M) = ((some (z_i 0), M) : Option z_V × z_M) := by rw [h]; rfl
theorem z_tI : (0 : Int32).toInt = 0 ∧ (1 : Int32).toInt = 1 ∧ (3 : Int32).toInt = 3 ∧ (4 : Int32).toInt = 4 := ⟨rfl, rfl, rfl, rfl⟩
section
variable {d : Nat} {X : z_X} {I : Nat → Nat → Nat → Int32} {J : Nat → Nat → Nat → Int64}
theorem z_p118 (x : Int32) : z_ev (d + 1) (z_en 118 [z_i x] (true, X, I, J)) (some (z_i (z_c (z_bw x 0 3))), (true, X, I, J)) := by
  obtain ⟨e0, e1, e3, e4⟩ := z_tI
  refine z_q118_e x ?_
  refine ⟨fun h1 => z_b0 (z_bw_f.mpr (Or.inl h1)), fun h1 => ⟨fun h2 => z_b0 (z_bw_f.mpr (Or.inr ?_)), fun h2 => z_b1 (z_bw_t.mpr ⟨h1, ?_⟩)⟩⟩
  · rw [Int32.lt_iff_toInt_lt] at *; rw [Int32.le_iff_toInt_le] at *; omega
  · rw [Int32.le_iff_toInt_le] at *; rw [Int32.lt_iff_toInt_lt] at h2; omega
end
end
