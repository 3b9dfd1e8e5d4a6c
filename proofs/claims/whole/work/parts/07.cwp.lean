set_option maxRecDepth 100000 in
theorem z_cwp0 : lw_tbl[837]? = some (z_cw 0) := rfl
set_option maxRecDepth 100000 in
theorem z_cwp1 : lw_tbl[994]? = some (z_cw 1) := rfl
set_option maxRecDepth 100000 in
theorem z_cwp2 : lw_tbl[1042]? = some (z_cw 2) := rfl
set_option maxRecDepth 100000 in
theorem z_cwp3 : lw_tbl[126]? = some (z_cw 3) := rfl
set_option maxRecDepth 100000 in
theorem z_cwp4 : lw_tbl[1070]? = some (z_cw 4) := rfl
set_option maxRecDepth 100000 in
theorem z_cwp5 : lw_tbl[678]? = some (z_cw 5) := rfl
set_option maxRecDepth 100000 in
theorem z_cwp6 : lw_tbl[666]? = some (z_cw 6) := rfl
set_option maxRecDepth 100000 in
theorem z_cwp7 : lw_tbl[682]? = some (z_cw 7) := rfl
set_option maxRecDepth 100000 in
theorem z_cwp8 : lw_tbl[670]? = some (z_cw 8) := rfl
set_option maxRecDepth 100000 in
theorem z_cwp9 : lw_tbl[735]? = some (z_cw 9) := rfl
set_option maxRecDepth 100000 in
theorem z_cwp10 : lw_tbl[718]? = some (z_cw 10) := rfl
set_option maxRecDepth 100000 in
theorem z_cwp11 : lw_tbl[714]? = some (z_cw 11) := rfl
set_option maxRecDepth 100000 in
theorem z_cwp12 : lw_tbl[697]? = some (z_cw 12) := rfl
set_option maxRecDepth 100000 in
theorem z_cwp13 : lw_tbl[701]? = some (z_cw 13) := rfl
set_option maxRecDepth 100000 in
theorem z_cwp14 : lw_tbl[706]? = some (z_cw 14) := rfl
set_option maxRecDepth 100000 in
theorem z_cwp15 : lw_tbl[745]? = some (z_cw 15) := rfl
set_option maxRecDepth 100000 in
theorem z_cwp16 : lw_tbl[749]? = some (z_cw 16) := rfl
set_option maxRecDepth 100000 in
theorem z_cwp17 : lw_tbl[753]? = some (z_cw 17) := rfl
set_option maxRecDepth 100000 in
theorem z_cwp18 : lw_tbl[160]? = some (z_cw 18) := rfl
set_option maxRecDepth 100000 in
theorem z_cwp19 : lw_tbl[439]? = some (z_cw 19) := rfl
set_option maxRecDepth 100000 in
theorem z_cwp20 : lw_tbl[462]? = some (z_cw 20) := rfl
set_option maxRecDepth 100000 in
theorem z_cwp21 : lw_tbl[604]? = some (z_cw 21) := rfl
set_option maxRecDepth 100000 in
theorem z_cwp22 : lw_tbl[490]? = some (z_cw 22) := rfl
set_option maxRecDepth 100000 in
theorem z_cwp23 : lw_tbl[458]? = some (z_cw 23) := rfl
set_option maxRecDepth 100000 in
theorem z_cwp24 : lw_tbl[506]? = some (z_cw 24) := rfl
set_option maxRecDepth 100000 in
theorem z_cwp25 : lw_tbl[515]? = some (z_cw 25) := rfl
set_option maxRecDepth 100000 in
theorem z_cwp26 : lw_tbl[466]? = some (z_cw 26) := rfl
set_option maxRecDepth 100000 in
theorem z_cwp27 : lw_tbl[799]? = some (z_cw 27) := rfl
set_option maxRecDepth 100000 in
theorem z_cwp28 : lw_tbl[1008]? = some (z_cw 28) := rfl
set_option maxRecDepth 100000 in
theorem z_cwp29 : lw_tbl[1033]? = some (z_cw 29) := rfl
set_option maxRecDepth 100000 in
theorem z_cwp30 : lw_tbl[1031]? = some (z_cw 30) := rfl
set_option maxRecDepth 100000 in
theorem z_cwp31 : lw_tbl[1048]? = some (z_cw 31) := rfl
set_option maxRecDepth 100000 in
theorem z_cwp32 : lw_tbl[271]? = some (z_cw 32) := rfl
set_option maxRecDepth 100000 in
theorem z_cwp33 : lw_tbl[945]? = some (z_cw 33) := rfl
set_option maxRecDepth 100000 in
theorem z_cwp34 : lw_tbl[953]? = some (z_cw 34) := rfl
set_option maxRecDepth 100000 in
theorem z_cwp35 : lw_tbl[826]? = some (z_cw 35) := rfl
set_option maxRecDepth 100000 in
theorem z_cwp36 : lw_tbl[1004]? = some (z_cw 36) := rfl
set_option maxRecDepth 100000 in
theorem z_cwp37 : lw_tbl[1021]? = some (z_cw 37) := rfl
set_option maxRecDepth 100000 in
theorem z_cwp38 : lw_tbl[796]? = some (z_cw 38) := rfl
set_option maxRecDepth 100000 in
theorem z_cwp39 : lw_tbl[1016]? = some (z_cw 39) := rfl
set_option maxRecDepth 100000 in
theorem z_cwp40 : lw_tbl[1028]? = some (z_cw 40) := rfl
set_option maxRecDepth 100000 in
theorem z_cwp41 : lw_tbl[255]? = some (z_cw 41) := rfl
set_option maxRecDepth 100000 in
theorem z_cwp42 : lw_tbl[561]? = some (z_cw 42) := rfl
set_option maxRecDepth 100000 in
theorem z_cwp43 : lw_tbl[565]? = some (z_cw 43) := rfl
set_option maxRecDepth 100000 in
theorem z_cwp44 : lw_tbl[570]? = some (z_cw 44) := rfl
set_option maxRecDepth 100000 in
theorem z_cwp45 : lw_tbl[207]? = some (z_cw 45) := rfl
set_option maxRecDepth 100000 in
theorem z_cwp46 : lw_tbl[345]? = some (z_cw 46) := rfl
set_option maxRecDepth 100000 in
theorem z_cwp47 : lw_tbl[356]? = some (z_cw 47) := rfl
set_option maxRecDepth 100000 in
theorem z_cwp48 : lw_tbl[378]? = some (z_cw 48) := rfl
set_option maxRecDepth 100000 in
theorem z_cwp49 : lw_tbl[447]? = some (z_cw 49) := rfl
set_option maxRecDepth 100000 in
theorem z_cwp50 : lw_tbl[454]? = some (z_cw 50) := rfl
set_option maxRecDepth 100000 in
theorem z_cwp51 : lw_tbl[360]? = some (z_cw 51) := rfl
set_option maxRecDepth 100000 in
theorem z_cwp52 : lw_tbl[368]? = some (z_cw 52) := rfl
set_option maxRecDepth 100000 in
theorem z_cwp53 : lw_tbl[364]? = some (z_cw 53) := rfl
set_option maxRecDepth 100000 in
theorem z_cwp54 : lw_tbl[371]? = some (z_cw 54) := rfl
set_option maxRecDepth 100000 in
theorem z_cwp55 : lw_tbl[374]? = some (z_cw 55) := rfl
set_option maxRecDepth 100000 in
theorem z_cwp56 : lw_tbl[443]? = some (z_cw 56) := rfl
set_option maxRecDepth 100000 in
theorem z_cwp57 : lw_tbl[383]? = some (z_cw 57) := rfl
set_option maxRecDepth 100000 in
theorem z_cwp58 : lw_tbl[435]? = some (z_cw 58) := rfl
set_option maxRecDepth 100000 in
theorem z_cwp59 : lw_tbl[233]? = some (z_cw 59) := rfl
set_option maxRecDepth 100000 in
theorem z_cwp60 : lw_tbl[987]? = some (z_cw 60) := rfl
set_option maxRecDepth 100000 in
theorem z_cwp61 : lw_tbl[998]? = some (z_cw 61) := rfl
set_option maxRecDepth 100000 in
theorem z_cwp62 : lw_tbl[118]? = some (z_cw 62) := rfl
set_option maxRecDepth 100000 in
theorem z_cwp63 : lw_tbl[1065]? = some (z_cw 63) := rfl
set_option maxRecDepth 100000 in
theorem z_cwp64 : lw_tbl[618]? = some (z_cw 64) := rfl
set_option maxRecDepth 100000 in
theorem z_cwp65 : lw_tbl[761]? = some (z_cw 65) := rfl
set_option maxRecDepth 100000 in
theorem z_cwp66 : lw_tbl[110]? = some (z_cw 66) := rfl
set_option maxRecDepth 100000 in
theorem z_cwp67 : lw_tbl[341]? = some (z_cw 67) := rfl
set_option maxRecDepth 100000 in
theorem z_cwp68 : lw_tbl[349]? = some (z_cw 68) := rfl
set_option maxRecDepth 100000 in
theorem z_cwp69 : lw_tbl[477]? = some (z_cw 69) := rfl
set_option maxRecDepth 100000 in
theorem z_cwp70 : lw_tbl[482]? = some (z_cw 70) := rfl
set_option maxRecDepth 100000 in
theorem z_cwp71 : lw_tbl[495]? = some (z_cw 71) := rfl
set_option maxRecDepth 100000 in
theorem z_cwp72 : lw_tbl[499]? = some (z_cw 72) := rfl
set_option maxRecDepth 100000 in
theorem z_cwp73 : lw_tbl[511]? = some (z_cw 73) := rfl
set_option maxRecDepth 100000 in
theorem z_cwp74 : lw_tbl[519]? = some (z_cw 74) := rfl
set_option maxRecDepth 100000 in
theorem z_cwp75 : lw_tbl[539]? = some (z_cw 75) := rfl
set_option maxRecDepth 100000 in
theorem z_cwp76 : lw_tbl[547]? = some (z_cw 76) := rfl
set_option maxRecDepth 100000 in
theorem z_cwp77 : lw_tbl[554]? = some (z_cw 77) := rfl
set_option maxRecDepth 100000 in
theorem z_cwp78 : lw_tbl[576]? = some (z_cw 78) := rfl
set_option maxRecDepth 100000 in
theorem z_cwp79 : lw_tbl[596]? = some (z_cw 79) := rfl
set_option maxRecDepth 100000 in
theorem z_cwp80 : lw_tbl[614]? = some (z_cw 80) := rfl
set_option maxRecDepth 100000 in
theorem z_cwp81 : lw_tbl[623]? = some (z_cw 81) := rfl
set_option maxRecDepth 100000 in
theorem z_cwp82 : lw_tbl[635]? = some (z_cw 82) := rfl
set_option maxRecDepth 100000 in
theorem z_cwp83 : lw_tbl[643]? = some (z_cw 83) := rfl
set_option maxRecDepth 100000 in
theorem z_cwp84 : lw_tbl[662]? = some (z_cw 84) := rfl
set_option maxRecDepth 100000 in
theorem z_cwp85 : lw_tbl[674]? = some (z_cw 85) := rfl
set_option maxRecDepth 100000 in
theorem z_cwp86 : lw_tbl[687]? = some (z_cw 86) := rfl
set_option maxRecDepth 100000 in
theorem z_cwp87 : lw_tbl[691]? = some (z_cw 87) := rfl
set_option maxRecDepth 100000 in
theorem z_cwp88 : lw_tbl[723]? = some (z_cw 88) := rfl
set_option maxRecDepth 100000 in
theorem z_cwp89 : lw_tbl[731]? = some (z_cw 89) := rfl
set_option maxRecDepth 100000 in
theorem z_cwp90 : lw_tbl[741]? = some (z_cw 90) := rfl
set_option maxRecDepth 100000 in
theorem z_cwp91 : lw_tbl[766]? = some (z_cw 91) := rfl
set_option maxRecDepth 100000 in
theorem z_cwp92 : lw_tbl[770]? = some (z_cw 92) := rfl
set_option maxRecDepth 100000 in
theorem z_cwp93 : lw_tbl[778]? = some (z_cw 93) := rfl
set_option maxRecDepth 100000 in
theorem z_cwp94 : lw_tbl[782]? = some (z_cw 94) := rfl
set_option maxRecDepth 100000 in
theorem z_cwp95 : lw_tbl[855]? = some (z_cw 95) := rfl
set_option maxRecDepth 100000 in
theorem z_cwp96 : lw_tbl[863]? = some (z_cw 96) := rfl
set_option maxRecDepth 100000 in
theorem z_cwp97 : lw_tbl[867]? = some (z_cw 97) := rfl
set_option maxRecDepth 100000 in
theorem z_cwp98 : lw_tbl[883]? = some (z_cw 98) := rfl
set_option maxRecDepth 100000 in
theorem z_cwp99 : lw_tbl[888]? = some (z_cw 99) := rfl
set_option maxRecDepth 100000 in
theorem z_cwp100 : lw_tbl[892]? = some (z_cw 100) := rfl
set_option maxRecDepth 100000 in
theorem z_cwp101 : lw_tbl[906]? = some (z_cw 101) := rfl
set_option maxRecDepth 100000 in
theorem z_cwp102 : lw_tbl[910]? = some (z_cw 102) := rfl
set_option maxRecDepth 100000 in
theorem z_cwp103 : lw_tbl[914]? = some (z_cw 103) := rfl
set_option maxRecDepth 100000 in
theorem z_cwp104 : lw_tbl[918]? = some (z_cw 104) := rfl
set_option maxRecDepth 100000 in
theorem z_cwp105 : lw_tbl[922]? = some (z_cw 105) := rfl
set_option maxRecDepth 100000 in
theorem z_cwp106 : lw_tbl[930]? = some (z_cw 106) := rfl
set_option maxRecDepth 100000 in
theorem z_cwp107 : lw_tbl[934]? = some (z_cw 107) := rfl
set_option maxRecDepth 100000 in
theorem z_cwp108 : lw_tbl[938]? = some (z_cw 108) := rfl
set_option maxRecDepth 100000 in
theorem z_cwp109 : lw_tbl[949]? = some (z_cw 109) := rfl
set_option maxRecDepth 100000 in
theorem z_cwp110 : lw_tbl[957]? = some (z_cw 110) := rfl
set_option maxRecDepth 100000 in
theorem z_cwp111 : lw_tbl[961]? = some (z_cw 111) := rfl
set_option maxRecDepth 100000 in
theorem z_cwp112 : lw_tbl[972]? = some (z_cw 112) := rfl
set_option maxRecDepth 100000 in
theorem z_cwp113 : lw_tbl[983]? = some (z_cw 113) := rfl
set_option maxRecDepth 100000 in
theorem z_cwp114 : lw_tbl[1053]? = some (z_cw 114) := rfl
set_option maxRecDepth 100000 in
theorem z_cwp115 : lw_tbl[1057]? = some (z_cw 115) := rfl
set_option maxRecDepth 100000 in
theorem z_cwp116 : lw_tbl[1061]? = some (z_cw 116) := rfl
set_option maxRecDepth 100000 in
theorem z_cwp117 : lw_tbl[1074]? = some (z_cw 117) := rfl
set_option maxRecDepth 100000 in
theorem z_cwp118 : lw_tbl[352]? = some (z_cw 118) := rfl
set_option maxRecDepth 100000 in
theorem z_cwp119 : lw_tbl[486]? = some (z_cw 119) := rfl
set_option maxRecDepth 100000 in
theorem z_cwp120 : lw_tbl[859]? = some (z_cw 120) := rfl
set_option maxRecDepth 100000 in
theorem z_cwp121 : lw_tbl[579]? = some (z_cw 121) := rfl
set_option maxRecDepth 100000 in
theorem z_cwp122 : lw_tbl[502]? = some (z_cw 122) := rfl
set_option maxRecDepth 100000 in
theorem z_cwp123 : lw_tbl[941]? = some (z_cw 123) := rfl
set_option maxRecDepth 100000 in
theorem z_cwp124 : lw_tbl[964]? = some (z_cw 124) := rfl
set_option maxRecDepth 100000 in
theorem z_cwp125 : lw_tbl[926]? = some (z_cw 125) := rfl
set_option maxRecDepth 100000 in
theorem z_cwp126 : lw_tbl[526]? = some (z_cw 126) := rfl
set_option maxRecDepth 100000 in
theorem z_cwp127 : lw_tbl[550]? = some (z_cw 127) := rfl
set_option maxRecDepth 100000 in
theorem z_cwp128 : lw_tbl[557]? = some (z_cw 128) := rfl
set_option maxRecDepth 100000 in
theorem z_cwp129 : lw_tbl[788]? = some (z_cw 129) := rfl
set_option maxRecDepth 100000 in
theorem z_cwp130 : lw_tbl[582]? = some (z_cw 130) := rfl
set_option maxRecDepth 100000 in
theorem z_cwp131 : lw_tbl[585]? = some (z_cw 131) := rfl
set_option maxRecDepth 100000 in
theorem z_cwp132 : lw_tbl[591]? = some (z_cw 132) := rfl
set_option maxRecDepth 100000 in
theorem z_cwp133 : lw_tbl[773]? = some (z_cw 133) := rfl
set_option maxRecDepth 100000 in
theorem z_cwp134 : lw_tbl[523]? = some (z_cw 134) := rfl
set_option maxRecDepth 100000 in
theorem z_cwp135 : lw_tbl[531]? = some (z_cw 135) := rfl
set_option maxRecDepth 100000 in
theorem z_cwp136 : lw_tbl[535]? = some (z_cw 136) := rfl
set_option maxRecDepth 100000 in
theorem z_cwp137 : lw_tbl[627]? = some (z_cw 137) := rfl
set_option maxRecDepth 100000 in
theorem z_cwp138 : lw_tbl[631]? = some (z_cw 138) := rfl
set_option maxRecDepth 100000 in
theorem z_cwp139 : lw_tbl[639]? = some (z_cw 139) := rfl
set_option maxRecDepth 100000 in
theorem z_cwp140 : lw_tbl[600]? = some (z_cw 140) := rfl
set_option maxRecDepth 100000 in
theorem z_cwp141 : lw_tbl[658]? = some (z_cw 141) := rfl
set_option maxRecDepth 100000 in
theorem z_cwp142 : lw_tbl[647]? = some (z_cw 142) := rfl
set_option maxRecDepth 100000 in
theorem z_cwp143 : lw_tbl[651]? = some (z_cw 143) := rfl
set_option maxRecDepth 100000 in
theorem z_cwp144 : lw_tbl[727]? = some (z_cw 144) := rfl
set_option maxRecDepth 100000 in
theorem z_cwp145 : lw_tbl[757]? = some (z_cw 145) := rfl
set_option maxRecDepth 100000 in
theorem z_cwp146 : lw_tbl[785]? = some (z_cw 146) := rfl
set_option maxRecDepth 100000 in
theorem z_cwp147 : lw_tbl[791]? = some (z_cw 147) := rfl
set_option maxRecDepth 100000 in
theorem z_cwp148 : lw_tbl[870]? = some (z_cw 148) := rfl
set_option maxRecDepth 100000 in
theorem z_cwp149 : lw_tbl[873]? = some (z_cw 149) := rfl
set_option maxRecDepth 100000 in
theorem z_cwp150 : lw_tbl[876]? = some (z_cw 150) := rfl
set_option maxRecDepth 100000 in
theorem z_cwp151 : lw_tbl[879]? = some (z_cw 151) := rfl
set_option maxRecDepth 100000 in
theorem z_cwp152 : lw_tbl[901]? = some (z_cw 152) := rfl
set_option maxRecDepth 100000 in
theorem z_cwp153 : lw_tbl[896]? = some (z_cw 153) := rfl
set_option maxRecDepth 100000 in
theorem z_cwp154 : lw_tbl[968]? = some (z_cw 154) := rfl
set_option maxRecDepth 100000 in
theorem z_cwp155 : lw_tbl[976]? = some (z_cw 155) := rfl
set_option maxRecDepth 100000 in
theorem z_cwp156 : lw_tbl[979]? = some (z_cw 156) := rfl
set_option maxRecDepth 100000 in
theorem z_cwp157 : lw_tbl[1079]? = some (z_cw 157) := rfl
set_option maxRecDepth 100000 in
theorem z_cwp158 : lw_tbl[1265]? = some (z_cw 158) := rfl
set_option maxRecDepth 100000 in
theorem z_cwp159 : lw_tbl[1083]? = some (z_cw 159) := rfl
set_option maxRecDepth 100000 in
theorem z_cwp160 : lw_tbl[1089]? = some (z_cw 160) := rfl
set_option maxRecDepth 100000 in
theorem z_cwp161 : lw_tbl[1086]? = some (z_cw 161) := rfl
set_option maxRecDepth 100000 in
theorem z_cwp162 : lw_tbl[1273]? = some (z_cw 162) := rfl
set_option maxRecDepth 100000 in
theorem z_cwp163 : lw_tbl[1356]? = some (z_cw 163) := rfl
set_option maxRecDepth 100000 in
theorem z_cwp164 : lw_tbl[1341]? = some (z_cw 164) := rfl
set_option maxRecDepth 100000 in
theorem z_cwp165 : lw_tbl[1386]? = some (z_cw 165) := rfl
set_option maxRecDepth 100000 in
theorem z_cwp166 : lw_tbl[1398]? = some (z_cw 166) := rfl
set_option maxRecDepth 100000 in
theorem z_cwp167 : lw_tbl[1345]? = some (z_cw 167) := rfl
set_option maxRecDepth 100000 in
theorem z_cwp168 : lw_tbl[1349]? = some (z_cw 168) := rfl
set_option maxRecDepth 100000 in
theorem z_cwp169 : lw_tbl[1333]? = some (z_cw 169) := rfl
set_option maxRecDepth 100000 in
theorem z_cwp170 : lw_tbl[1325]? = some (z_cw 170) := rfl
set_option maxRecDepth 100000 in
theorem z_cwp171 : lw_tbl[1322]? = some (z_cw 171) := rfl
set_option maxRecDepth 100000 in
theorem z_cwp172 : lw_tbl[1262]? = some (z_cw 172) := rfl
set_option maxRecDepth 100000 in
theorem z_cwp173 : lw_tbl[1281]? = some (z_cw 173) := rfl
set_option maxRecDepth 100000 in
theorem z_cwp174 : lw_tbl[1284]? = some (z_cw 174) := rfl
set_option maxRecDepth 100000 in
theorem z_cwp175 : lw_tbl[1287]? = some (z_cw 175) := rfl
set_option maxRecDepth 100000 in
theorem z_cwp176 : lw_tbl[1277]? = some (z_cw 176) := rfl
set_option maxRecDepth 100000 in
theorem z_cwp177 : lw_tbl[1295]? = some (z_cw 177) := rfl
set_option maxRecDepth 100000 in
theorem z_cwp178 : lw_tbl[1299]? = some (z_cw 178) := rfl
set_option maxRecDepth 100000 in
theorem z_cwp179 : lw_tbl[1303]? = some (z_cw 179) := rfl
set_option maxRecDepth 100000 in
theorem z_cwp180 : lw_tbl[1318]? = some (z_cw 180) := rfl
set_option maxRecDepth 100000 in
theorem z_cwp181 : lw_tbl[1314]? = some (z_cw 181) := rfl
set_option maxRecDepth 100000 in
theorem z_cwp182 : lw_tbl[1308]? = some (z_cw 182) := rfl
set_option maxRecDepth 100000 in
theorem z_cwp183 : lw_tbl[1270]? = some (z_cw 183) := rfl
set_option maxRecDepth 100000 in
theorem z_cwp184 : lw_tbl[1329]? = some (z_cw 184) := rfl
set_option maxRecDepth 100000 in
theorem z_cwp185 : lw_tbl[1337]? = some (z_cw 185) := rfl
set_option maxRecDepth 100000 in
theorem z_cwp186 : lw_tbl[1353]? = some (z_cw 186) := rfl
set_option maxRecDepth 100000 in
theorem z_cwp187 : lw_tbl[1360]? = some (z_cw 187) := rfl
set_option maxRecDepth 100000 in
theorem z_cwp188 : lw_tbl[1371]? = some (z_cw 188) := rfl
set_option maxRecDepth 100000 in
theorem z_cwp189 : lw_tbl[1379]? = some (z_cw 189) := rfl
set_option maxRecDepth 100000 in
theorem z_cwp190 : lw_tbl[1375]? = some (z_cw 190) := rfl
set_option maxRecDepth 100000 in
theorem z_cwp191 : lw_tbl[1383]? = some (z_cw 191) := rfl
set_option maxRecDepth 100000 in
theorem z_cwp192 : lw_tbl[1390]? = some (z_cw 192) := rfl
set_option maxRecDepth 100000 in
theorem z_cwp193 : lw_tbl[1410]? = some (z_cw 193) := rfl
set_option maxRecDepth 100000 in
theorem z_cwp194 : lw_tbl[1406]? = some (z_cw 194) := rfl
set_option maxRecDepth 100000 in
theorem z_cwp195 : lw_tbl[1417]? = some (z_cw 195) := rfl
set_option maxRecDepth 100000 in
theorem z_cwp196 : lw_tbl[1402]? = some (z_cw 196) := rfl
set_option maxRecDepth 100000 in
theorem z_cwp197 : lw_tbl[1394]? = some (z_cw 197) := rfl
set_option maxRecDepth 100000 in
theorem z_cwp198 : lw_tbl[1421]? = some (z_cw 198) := rfl
set_option maxRecDepth 100000 in
theorem z_cwp199 : lw_tbl[1425]? = some (z_cw 199) := rfl
set_option maxRecDepth 100000 in
theorem z_cwp200 : lw_tbl[1414]? = some (z_cw 200) := rfl
set_option maxRecDepth 100000 in
theorem z_cwp201 : lw_tbl[1437]? = some (z_cw 201) := rfl
set_option maxRecDepth 100000 in
theorem z_cwp202 : lw_tbl[1433]? = some (z_cw 202) := rfl
set_option maxRecDepth 100000 in
theorem z_cwp203 : lw_tbl[1429]? = some (z_cw 203) := rfl
set_option maxRecDepth 100000 in
theorem z_cwp204 : lw_tbl[1445]? = some (z_cw 204) := rfl
set_option maxRecDepth 100000 in
theorem z_cwp205 : lw_tbl[1441]? = some (z_cw 205) := rfl
set_option maxRecDepth 100000 in
theorem z_cwp206 : lw_tbl[1453]? = some (z_cw 206) := rfl
set_option maxRecDepth 100000 in
theorem z_cwp207 : lw_tbl[1449]? = some (z_cw 207) := rfl
set_option maxRecDepth 100000 in
theorem z_cwp208 : lw_tbl[1461]? = some (z_cw 208) := rfl
set_option maxRecDepth 100000 in
theorem z_cwp209 : lw_tbl[1457]? = some (z_cw 209) := rfl
set_option maxRecDepth 100000 in
theorem z_cwp210 : lw_tbl[1465]? = some (z_cw 210) := rfl
set_option maxRecDepth 100000 in
theorem z_cwp211 : lw_tbl[1469]? = some (z_cw 211) := rfl
set_option maxRecDepth 100000 in
theorem z_cwp212 : lw_tbl[1473]? = some (z_cw 212) := rfl
set_option maxRecDepth 100000 in
theorem z_cwp213 : lw_tbl[1477]? = some (z_cw 213) := rfl
set_option maxRecDepth 100000 in
theorem z_cwp214 : lw_tbl[1498]? = some (z_cw 214) := rfl
set_option maxRecDepth 100000 in
theorem z_cwp215 : lw_tbl[1490]? = some (z_cw 215) := rfl
set_option maxRecDepth 100000 in
theorem z_cwp216 : lw_tbl[1486]? = some (z_cw 216) := rfl
set_option maxRecDepth 100000 in
theorem z_cwp217 : lw_tbl[1494]? = some (z_cw 217) := rfl
set_option maxRecDepth 100000 in
theorem z_cwp218 : lw_tbl[1481]? = some (z_cw 218) := rfl
set_option maxRecDepth 100000 in
theorem z_cwp219 : lw_tbl[1506]? = some (z_cw 219) := rfl
set_option maxRecDepth 100000 in
theorem z_cwp220 : lw_tbl[1502]? = some (z_cw 220) := rfl
set_option maxRecDepth 100000 in
theorem z_cwp221 : lw_tbl[1510]? = some (z_cw 221) := rfl
set_option maxRecDepth 100000 in
theorem z_cwp222 : lw_tbl[1522]? = some (z_cw 222) := rfl
set_option maxRecDepth 100000 in
theorem z_cwp223 : lw_tbl[1518]? = some (z_cw 223) := rfl
set_option maxRecDepth 100000 in
theorem z_cwp224 : lw_tbl[1514]? = some (z_cw 224) := rfl
set_option maxRecDepth 100000 in
theorem z_cwp225 : lw_tbl[1527]? = some (z_cw 225) := rfl
set_option maxRecDepth 100000 in
theorem z_cwp226 : lw_tbl[1531]? = some (z_cw 226) := rfl
set_option maxRecDepth 100000 in
theorem z_cwp227 : lw_tbl[1535]? = some (z_cw 227) := rfl
set_option maxRecDepth 100000 in
theorem z_cwp228 : lw_tbl[1547]? = some (z_cw 228) := rfl
set_option maxRecDepth 100000 in
theorem z_cwp229 : lw_tbl[1551]? = some (z_cw 229) := rfl
set_option maxRecDepth 100000 in
theorem z_cwp230 : lw_tbl[1539]? = some (z_cw 230) := rfl
set_option maxRecDepth 100000 in
theorem z_cwp231 : lw_tbl[1543]? = some (z_cw 231) := rfl
set_option maxRecDepth 100000 in
theorem z_cwp232 : lw_tbl[1555]? = some (z_cw 232) := rfl
set_option maxRecDepth 100000 in
theorem z_cwp233 : lw_tbl[1563]? = some (z_cw 233) := rfl
set_option maxRecDepth 100000 in
theorem z_cwp234 : lw_tbl[1559]? = some (z_cw 234) := rfl
set_option maxRecDepth 100000 in
theorem z_cwp235 : lw_tbl[1568]? = some (z_cw 235) := rfl
set_option maxRecDepth 100000 in
theorem z_cwp236 : lw_tbl[1573]? = some (z_cw 236) := rfl
set_option maxRecDepth 100000 in
theorem z_cwp237 : lw_tbl[1585]? = some (z_cw 237) := rfl
set_option maxRecDepth 100000 in
theorem z_cwp238 : lw_tbl[1581]? = some (z_cw 238) := rfl
set_option maxRecDepth 100000 in
theorem z_cwp239 : lw_tbl[1577]? = some (z_cw 239) := rfl
set_option maxRecDepth 100000 in
theorem z_cwp240 : lw_tbl[1591]? = some (z_cw 240) := rfl
set_option maxRecDepth 100000 in
theorem z_cwp241 : lw_tbl[1595]? = some (z_cw 241) := rfl
set_option maxRecDepth 100000 in
theorem z_cwp242 : lw_tbl[1599]? = some (z_cw 242) := rfl
set_option maxRecDepth 100000 in
theorem z_cwp243 : lw_tbl[1607]? = some (z_cw 243) := rfl
set_option maxRecDepth 100000 in
theorem z_cwp244 : lw_tbl[1603]? = some (z_cw 244) := rfl
set_option maxRecDepth 100000 in
theorem z_cwp245 : lw_tbl[1615]? = some (z_cw 245) := rfl
set_option maxRecDepth 100000 in
theorem z_cwp246 : lw_tbl[1611]? = some (z_cw 246) := rfl
set_option maxRecDepth 100000 in
theorem z_cwp247 : lw_tbl[1619]? = some (z_cw 247) := rfl
set_option maxRecDepth 100000 in
theorem z_cwp248 : lw_tbl[1623]? = some (z_cw 248) := rfl
set_option maxRecDepth 100000 in
theorem z_cwp249 : lw_tbl[1363]? = some (z_cw 249) := rfl
set_option maxRecDepth 100000 in
theorem z_cwp250 : lw_tbl[1627]? = some (z_cw 250) := rfl
set_option maxRecDepth 100000 in
theorem z_cwp251 : lw_tbl[1631]? = some (z_cw 251) := rfl
set_option maxRecDepth 100000 in
theorem z_cwp252 : lw_tbl[1367]? = some (z_cw 252) := rfl
set_option maxRecDepth 100000 in
theorem z_cwp253 : lw_tbl[1635]? = some (z_cw 253) := rfl
set_option maxRecDepth 100000 in
theorem z_cwp254 : lw_tbl[1643]? = some (z_cw 254) := rfl
set_option maxRecDepth 100000 in
theorem z_cwp255 : lw_tbl[1639]? = some (z_cw 255) := rfl
set_option maxRecDepth 100000 in
theorem z_cwp256 : lw_tbl[1651]? = some (z_cw 256) := rfl
set_option maxRecDepth 100000 in
theorem z_cwp257 : lw_tbl[1654]? = some (z_cw 257) := rfl
set_option maxRecDepth 100000 in
theorem z_cwp258 : lw_tbl[1647]? = some (z_cw 258) := rfl
set_option maxRecDepth 100000 in
theorem z_cwp259 : lw_tbl[1666]? = some (z_cw 259) := rfl
set_option maxRecDepth 100000 in
theorem z_cwp260 : lw_tbl[1662]? = some (z_cw 260) := rfl
set_option maxRecDepth 100000 in
theorem z_cwp261 : lw_tbl[1678]? = some (z_cw 261) := rfl
set_option maxRecDepth 100000 in
theorem z_cwp262 : lw_tbl[1674]? = some (z_cw 262) := rfl
set_option maxRecDepth 100000 in
theorem z_cwp263 : lw_tbl[1670]? = some (z_cw 263) := rfl
set_option maxRecDepth 100000 in
theorem z_cwp264 : lw_tbl[1686]? = some (z_cw 264) := rfl
set_option maxRecDepth 100000 in
theorem z_cwp265 : lw_tbl[1682]? = some (z_cw 265) := rfl
set_option maxRecDepth 100000 in
theorem z_cwp266 : lw_tbl[1694]? = some (z_cw 266) := rfl
set_option maxRecDepth 100000 in
theorem z_cwp267 : lw_tbl[1690]? = some (z_cw 267) := rfl
set_option maxRecDepth 100000 in
theorem z_cwp268 : lw_tbl[1658]? = some (z_cw 268) := rfl
set_option maxRecDepth 100000 in
theorem z_cwp269 : lw_tbl[1698]? = some (z_cw 269) := rfl
set_option maxRecDepth 100000 in
theorem z_cwp270 : lw_tbl[1702]? = some (z_cw 270) := rfl
set_option maxRecDepth 100000 in
theorem z_cwp271 : lw_tbl[1714]? = some (z_cw 271) := rfl
set_option maxRecDepth 100000 in
theorem z_cwp272 : lw_tbl[1710]? = some (z_cw 272) := rfl
set_option maxRecDepth 100000 in
theorem z_cwp273 : lw_tbl[1706]? = some (z_cw 273) := rfl
set_option maxRecDepth 100000 in
theorem z_cwp274 : lw_tbl[1718]? = some (z_cw 274) := rfl
set_option maxRecDepth 100000 in
theorem z_cwp275 : lw_tbl[469]? = some (z_cw 275) := rfl
set_option maxRecDepth 100000 in
theorem z_cwp276 : lw_tbl[588]? = some (z_cw 276) := rfl
set_option maxRecDepth 100000 in
theorem z_cwp277 : lw_tbl[654]? = some (z_cw 277) := rfl
set_option maxRecDepth 100000 in
theorem z_cwp278 : lw_tbl[387]? = some (z_cw 278) := rfl
set_option maxRecDepth 100000 in
theorem z_cwp279 : lw_tbl[397]? = some (z_cw 279) := rfl
set_option maxRecDepth 100000 in
theorem z_cwp280 : lw_tbl[391]? = some (z_cw 280) := rfl
set_option maxRecDepth 100000 in
theorem z_cwp281 : lw_tbl[401]? = some (z_cw 281) := rfl
set_option maxRecDepth 100000 in
theorem z_cwp282 : lw_tbl[407]? = some (z_cw 282) := rfl
set_option maxRecDepth 100000 in
theorem z_cwp283 : lw_tbl[404]? = some (z_cw 283) := rfl
set_option maxRecDepth 100000 in
theorem z_cwp284 : lw_tbl[412]? = some (z_cw 284) := rfl
