/** Edges of nets and texts: section 1 of the terms, promises 1 to 9. */
final class NetEdges extends Edges {
    NetEdges(Check check) {
        super(check);
    }

    void run() {
        terms();
        texts();
        faults();
        newObject();
        feedAndRead();
        postsAndRoads();
        rowsAndTurn();
        alike();
    }

    private void terms() {
        edge("NETS 0 to 3 have POSTS 0, 1, .. (1 to 10; 1 at first) and ROADS between two unlike ones (none at first).", () -> {
            for (int net = 0; net < 4; net++) {
                due(1, x.netOf(net, 0), 0, x.netOf(net, 1), 0, x.netOf(net, 10), BAD, x.netOf(net, 11));
                due(10, x.posts(net, 10), 1, x.road(net, 0, 9, true), 10, x.netOf(net, 0), 1, x.netOf(net, 1));
                each(BAD, x.posts(net, 0), x.posts(net, 11), x.road(net, 0, 10, true), x.road(net, -1, 9, true));
                for (int post = 0; post < 10; post++) {
                    each(BAD, x.road(net, post, post, true), x.road(net, post, post, false));
                }
                due(10, x.netOf(net, 0), 1, x.netOf(net, 1), 1, x.posts(net, 1), 0, x.netOf(net, 1));
            }
            x.part(1);
            x.sheet(0, 2, 1);
            x.add(0, 2, 1);
            for (int bad : NOT_0_TO_3) {
                each(BAD, x.read(bad), x.posts(bad, 1), x.road(bad, 0, 1, true), x.netOf(bad, 0), x.rows(bad, 0), x.turn(bad));
                each(BAD, x.same(bad, 0), x.same(0, bad), x.same(bad, bad), x.count(bad, 1, 0), x.share(bad, 1, 0, 0), x.free(bad));
                each(BAD, x.blow(bad), x.near(bad, 1), x.mixed(bad, 0), x.draw(bad, 1), x.prove(bad, 1), x.judge(bad, 1));
                due(NO, x.value(0, bad, 0));
            }
        });
        edge("THE TAPE takes bytes, 160 at most; read() uses it up.", () -> {
            for (int i = 1; i <= 160; i++) {
                due(i, x.feed(';', 1));
            }
            for (int n = 1; n <= 8; n++) {
                due(FULL, x.feed(';', n));
            }
            due(160, x.many(4), -100, x.read(0), 0, x.many(4), -100, x.read(0), 1, x.feed('p', 1));
            due(-100, x.read(0), 0, x.many(4), 8, x.feed(Check.eight("posts 1;", 0, 8), 8), 0, x.read(0), 0, x.many(4));
        });
    }

    private void texts() {
        edge("TEXT: posts N ; { road N N { N } ; | all N { N } ; | ring N N N { N } ; }", () -> {
            due(0, net(0, "posts 4;"), 1, net(0, "posts 4;road 0 1;"), 3, net(0, "posts 4;road 0 1 2 3;"));
            due(0, net(0, "posts 4;all 0;"), 1, net(0, "posts 4;all 0 1;"), 6, net(0, "posts 4;all 0 1 2 3;"));
            due(3, net(0, "posts 4;ring 0 1 2;"), 4, net(0, "posts 4;ring 0 1 2 3;"), 4, net(0, "posts 4;ring 0 1 2;all 3;road 3 0;"));
            fault("|", "|;", "|road 0 1;", "|all 0;", "|4;", "posts |;", "posts|", "posts 4|", "posts 4 |5;", "posts 4;|;",
                "posts 4;|posts 4;");
            fault("posts 4;road |;", "posts 4;road 0 |;", "posts 4;all |;", "posts 4;ring |;", "posts 4;ring 0 |;", "posts 4;ring 0 1 |;");
            fault("posts 4;road|", "posts 4;road 0|", "posts 4;road 0 1|", "posts 4;all|", "posts 4;all 0|", "posts 4;ring 0 1 2|");
            fault("posts 4;|0 1;", "posts 4;road 0 1;|;", "posts 4;road 0 1;|2;", "posts 4;road |all 0;", "posts 4;all 0 |all 1;");
        });
        edge("It is a NET of so many POSTS (1 to 10): road: a ROAD of each POST told and the next one; all: of each two;"
            + " ring: as road, and of the last and the first one.", () -> {
            due(0, net(3, "posts 1;"), 1, x.netOf(3, 0), 0, net(3, "posts 10;"), 10, x.netOf(3, 0));
            fault("posts |0;", "posts |11;");
            due(9, net(0, "posts 10;road 0 1 2 3 4 5 6 7 8 9;"), 2, x.netOf(0, 10), 1 + 4, x.netOf(0, 11), 256, x.netOf(0, 19));
            due(45, net(0, "posts 10;all 9 8 7 6 5 4 3 2 1 0;"), 1022, x.netOf(0, 10), 511, x.netOf(0, 19));
            due(10, net(0, "posts 10;ring 0 1 2 3 4 5 6 7 8 9;"), 2 + 512, x.netOf(0, 10), 1 + 256, x.netOf(0, 19));
            due(3, net(0, "posts 3;ring 2 0 1;"), 6, x.netOf(0, 10), 5, x.netOf(0, 11), 3, x.netOf(0, 12));
            due(2, net(0, "posts 3;road 2 0 1;"), 6, x.netOf(0, 10), 1, x.netOf(0, 11), 1, x.netOf(0, 12));
            due(1, net(0, "posts 4;road 3 0;road 0 3;all 0 3;"), 8, x.netOf(0, 10), 1, x.netOf(0, 13));
            due(0, net(0, "posts 4;all 0;all 1;all 2;all 3;"), 0, x.netOf(0, 10));
        });
        edge("NAMES are rows of letters a to z, NUMBERS rows of digits (1 or 2), both as long as they go;", () -> {
            fault("|postsa 4;", "|postsz 4;", "posts|`4;", "posts|{4;", "|Posts 4;", "posts|A 4;", "|postsposts 4;");
            fault("|xosts 4;", "|pists 4;", "|postz 4;", "posts 4;|toad 0 1;", "posts 4;|roat 0 1;", "posts 4;|ell 0;", "posts 4;|alk 0;",
                "posts 4;|king 0 1 2;");
            fault("posts 4|/;", "posts 4|:;", "posts |/4;", "posts |:4;", "posts 4;|roadall 0 1;", "posts 4;road|`0 1;",
                "posts 4;road|{0 1;");
            fault("posts 4;road 0 1|a;", "posts 4;road 0 1|z;", "posts 4;road 0 |012;", "posts 4;road01 |4;");
            due(1, net(0, "posts4;road0 1;"), 1, net(0, "posts 04;road 00 03;"), 8, x.netOf(0, 10), 0, net(0, "posts 9;all 8;"));
            due(1, net(0, "posts 10;road 00 09;"), 512, x.netOf(0, 10), 0, net(0, "posts 01;all 00;"), 1, x.netOf(0, 0));
        });
        edge("blanks (32) part them, and stand elsewhere as one likes.", () -> {
            due(1, net(0, "posts 4;road 0 1;"), 1, net(0, " posts 4 ; road 0 1 ; "), 1, net(0, "    posts    4   ;   road   0   1   ;   "));
            due(0, net(0, "posts 4;" + " ".repeat(152)), 4, x.netOf(0, 0), 0, net(1, " ".repeat(152) + "posts 3;"), 3, x.netOf(1, 0));
            fault("|po sts 4;", "posts 4;|ro ad 0 1;", "posts 1 |0;", " ".repeat(160) + "|");
            for (char beside : new char[] {0, 9, 10, 13, 31, 33, 160, 255}) {
                fault("posts|" + beside + "4;", "posts 4|" + beside + ";", "posts 4;|" + beside, "|" + beside + "posts 4;");
            }
        });
    }

    private void faults() {
        edge("FAULT: the place (from 0) of the first byte of the first NAME, NUMBER or other byte that can't stand there or is not as told", () -> {
            fault("|x", "|;", "|7", "|,", "|post", "  |x posts 4;", "posts |posts;", "posts |;4", "posts |,", "posts 4 |posts;",
                "posts 4 |,;");
            fault("posts 4;|roads 0 1;", "posts 4;|roa", "posts 4; |77", "posts 4;road 0|,", "posts 4;road 0 |x;", "posts 4;road |x 9 9;");
            fault("posts |0;road 9 9", "posts 4;road 0 |9 9", "posts 4;road 0 |0 9;", "posts 4;|rode 9 9;", "|\u0000",
                "posts 4;|\u00e1ll 0;");
            due(0, net(0, "posts 4;"), -108, net(0, "posts 7;x"), 4, x.netOf(0, 0));
        });
        edge("(a POST that there isn't, or was told in that road, all, ring;", () -> {
            for (String name : new String[] {"road ", "all ", "ring "}) {
                due(0, net(0, "posts 9;"));
                fault("posts 4;" + name + "3 |4 0;", "posts 4;" + name + "|4;", "posts 1;" + name + "0 |1;", "posts 10;" + name + "9 |10;");
                fault("posts 4;" + name + "3 |3 0;", "posts 4;" + name + "3 0 |3;", "posts 4;" + name + "3 0 1 2 |0;",
                    "posts 4;" + name + "3 |03;");
                fault("posts 10;" + name + "0 1 2 3 4 5 6 7 8 9 |0;", "posts 10;" + name + "0 1 2 3 4 5 6 7 8 9 |10;",
                    "posts 4;" + name + "0 |99;");
                due(9, x.netOf(0, 0), 0, x.netOf(0, 1));
            }
            fault("posts 2;ring 0 1 |2;", "posts 2;ring 0 1 |0;", "posts 2;ring 0 1 |;", "posts 1;road 0 |0;");
            due(2, net(0, "posts 4;road 0 1;road 1 2;"), 3, net(0, "posts 4;ring 0 1 2;all 0 1;road 2 0;"));
        });
        edge("how many POSTS out of range;", () -> {
            fault("posts |0;", "posts |00;", "posts |11;", "posts |12;", "posts |99;", "posts |0");
            due(0, net(0, "posts 1;"), 0, net(0, "posts 01;"), 0, net(0, "posts 10;"), 0, net(0, "posts 09;"), 9, x.netOf(0, 0));
        });
        edge("a NUMBER of more digits),", () -> {
            fault("posts |001;", "posts |010;", "posts |100;", "posts |0000000001;", "posts 4;road 0 |001;", "posts 4;all |000;",
                "posts 4;ring 0 1 |002;");
            fault("posts |4294967297;", "posts 4;all |18446744073709551617;");
            due(0, net(0, "posts 04;"), 1, net(0, "posts 10;road 00 01;"));
        });
        edge("or the end (how many bytes there are), if more must come.", () -> {
            fault("|", " |", "        |", "posts|", "posts |", "posts 4|", "posts 4  |", "posts 4;road|", "posts 4;road 0|",
                "posts 4;road 0 |");
            fault("posts 4;road 0 1|", "posts 4;all|", "posts 4;all 0|", "posts 4;ring 0 1|", "posts 4;ring 0 1 2 |",
                "posts 4;road 0 1;all 2|");
            String rest = "all 0;".repeat(25);
            due(160, Check.feedText(x, "posts 4;" + rest + "al"), -100 - 158, x.read(0));
            due(160, Check.feedText(x, "posts 4;" + rest.substring(6) + "road 0 1"), -100 - 160, x.read(0), 0, x.many(4));
            due(160, Check.feedText(x, " posts 4;" + rest.substring(6) + "all 0 1"), -260, x.read(0));
            due(160, Check.feedText(x, "posts 4;" + rest.substring(12) + "  road  0  3 ;"), 1, x.read(0), 8, x.netOf(0, 10));
        });
    }

    private void newObject() {
        edge("NETS of one POST, no PARTS, no SHARES, nothing OUT; nothing is kept.", () -> {
            for (int net = 0; net < 4; net++) {
                due(1, x.netOf(net, 0), 0, x.netOf(net, 1), 1, x.count(net, 1, 0), 0, x.count(net, 2, 0));
            }
            for (int what = 0; what < 6; what++) {
                due(0, x.many(what));
            }
            due(BAD, x.chance(0, 0, 0), NONE, x.at(1, 0, 0), BAD, x.shareOf(0, 0), NO, x.gives(0, 0), 3, x.heap(2), 15, x.heap(3),
                2047, x.heap(4));
            for (int m = 2; m <= 4; m++) {
                for (int form : FORMS[m]) {
                    due(0, x.out(m, form, false));
                }
            }
            due(NONE, x.again(), 1, x.seed(1), 0, x.bare());
        });
    }

    private void feedAndRead() {
        edge("n bytes (1 to 8) come to THE TAPE,", () -> {
            each(BAD, x.feed(1, 0), x.feed(1, 9), x.feed(1, -1), x.feed(1, LOW), x.feed(1, HIGH), x.feed(1, 160));
            int all = 0;
            for (int n = 1; n <= 8; n++) {
                all += n;
                due(all, x.feed(0x2020202020202020L, n), all, x.many(4));
            }
            due(-100 - all, x.read(0));
        });
        edge("the lowest of eight first: how many it has.", () -> {
            due(8, x.feed(0x3b31207374736f70L, 8), 0, x.read(0), 1, x.netOf(0, 0));
            due(1, x.feed(0x3b31207374736f70L, 1), 3, x.feed(0x7fffffffffff736fL, 2), 4, x.feed(-256L + 't', 1),
                8, x.feed(0xffffffff3b342073L, 4));
            due(0, x.read(0), 4, x.netOf(0, 0));
            due(8, x.feed(0xbb31207374736f70L, 8), -107, x.read(0), 8, x.feed(0x3b31207374736ff0L, 8), -100, x.read(0));
            due(8, x.feed(-1L, 8), 16, x.feed(Long.MIN_VALUE, 8), -100, x.read(0));
        });
        edge("BAD; FULL: more than 160.", () -> {
            Check.feedText(x, "posts 10;" + "all 3;".repeat(24));
            due(153, x.many(4), FULL, x.feed(0, 8), 153, x.many(4), 160, x.feed(Check.eight("all 9; ", 0, 7), 7));
            for (int n = 1; n <= 8; n++) {
                due(FULL, x.feed(0, n));
            }
            each(BAD, x.feed(0, 0), x.feed(0, 9), x.feed(0, -1), x.feed(0, LOW), x.feed(0, HIGH));
            due(160, x.many(4), 0, x.read(0), 10, x.netOf(0, 0), 0, x.many(4), 8, x.feed(0, 8));
        });
        edge("THE TAPE becomes a NET: how many ROADS; -100 less its FAULT.", () -> {
            due(-100, x.read(0), 45, net(1, "posts 10;all 0 1 2 3 4 5 6 7 8 9;"), 0, net(1, "posts 1;"), 1, x.netOf(1, 0),
                0, x.netOf(1, 1));
            due(3, net(2, "posts 3;all 0 1 2;"), -111, net(2, "posts 9;all"), 3, x.netOf(2, 0), 3, x.netOf(2, 1), 0, x.many(4),
                -100, x.read(2));
            due(3, x.netOf(2, 1), -260, net(2, " ".repeat(160)), 3, x.netOf(2, 1), 1, x.netOf(0, 0), 1, x.netOf(3, 0));
            due(-108, net(2, "posts 4;|"), -112, net(2, "posts 4;road"), -115, net(2, "posts 2;road 0 2;"), 3, x.netOf(2, 0));
        });
        edge("BAD (THE TAPE stays).", () -> {
            Check.feedText(x, "posts 6;road 0 5;");
            for (int bad : NOT_0_TO_3) {
                due(BAD, x.read(bad), 17, x.many(4));
            }
            due(1, x.read(3), 6, x.netOf(3, 0), 0, x.many(4), BAD, x.read(4), -100, x.read(0), 2, x.feed(0, 2), BAD, x.read(-1),
                2, x.many(4), -100, x.read(0));
        });
    }

    private void postsAndRoads() {
        edge("A NET has n POSTS (1 to 10), no ROADS: n. BAD.", () -> {
            for (int n = 1; n <= 10; n++) {
                x.turn(0);
                due(n, x.posts(0, n), n, x.netOf(0, 0), 0, x.netOf(0, 1));
            }
            due(45, x.turn(0), 10, x.posts(0, 10), 0, x.netOf(0, 1), 0, x.netOf(0, 10), 45, x.turn(0));
            each(BAD, x.posts(0, 0), x.posts(0, 11), x.posts(0, -1), x.posts(0, LOW), x.posts(0, HIGH), x.posts(4, 3), x.posts(-1, 3),
                x.posts(4, 0));
            due(10, x.netOf(0, 0), 45, x.netOf(0, 1), 1, x.posts(0, 1), 2, x.posts(0, 2), 0, x.netOf(0, 11), 1, x.netOf(1, 0));
        });
        edge("Two POSTS have a ROAD, or not: 1 if that is new, else 0.", () -> {
            x.posts(0, 10);
            due(0, x.road(0, 0, 1, false), 1, x.road(0, 0, 1, true), 0, x.road(0, 0, 1, true), 0, x.road(0, 1, 0, true), 1, x.netOf(0, 1));
            due(1, x.road(0, 9, 8, true), 256, x.netOf(0, 19), 512, x.netOf(0, 18), 1, x.road(0, 8, 9, false), 0, x.road(0, 9, 8, false),
                0, x.netOf(0, 19));
            due(2, x.netOf(0, 10), 1, x.road(0, 1, 0, false), 0, x.netOf(0, 1));
        });
        edge("BAD: no such NET, POSTS, the same ones.", () -> {
            x.posts(0, 4);
            x.turn(0);
            due(1, x.road(0, 0, 3, false), 1, x.road(0, 3, 0, true));
            for (int bad : new int[] {-1, 4, 5, 10, 32, LOW, HIGH}) {
                each(BAD, x.road(0, bad, 0, false), x.road(0, 0, bad, false), x.road(0, bad, 0, true), x.road(0, bad, bad, true),
                    x.road(0, 3, bad, true));
            }
            for (int bad : NOT_0_TO_3) {
                each(BAD, x.road(bad, 0, 1, true), x.road(bad, 0, 0, false));
            }
            each(BAD, x.road(0, 0, 0, false), x.road(0, 3, 3, true), x.road(1, 0, 0, true), x.road(1, 0, 1, true), x.road(1, 1, 0, false));
            due(6, x.netOf(0, 1), 14, x.netOf(0, 10), 7, x.netOf(0, 13));
        });
        edge("Of a NET: what = 0 POSTS, 1 ROADS, 10 + p to which POSTS p has ROADS (a set). BAD.", () -> {
            x.posts(0, 10);
            x.turn(0);
            due(10, x.netOf(0, 0), 45, x.netOf(0, 1));
            for (int post = 0; post < 10; post++) {
                due(1023 - (1 << post), x.netOf(0, 10 + post));
            }
            for (int bad : new int[] {-1, 2, 3, 8, 9, 20, 21, 42, LOW, LOW + 9, LOW + 10, HIGH}) {
                each(BAD, x.netOf(0, bad), x.netOf(1, bad), x.netOf(4, bad));
            }
            due(0, x.netOf(1, 10), BAD, x.netOf(1, 11), BAD, x.netOf(4, 0), BAD, x.netOf(-1, 10));
            x.posts(0, 4);
            due(0, x.netOf(0, 13), BAD, x.netOf(0, 14));
        });
    }

    private void rowsAndTurn() {
        edge("Numbers of a SHEET taken for ints: item p tells to which lesser POSTS p has ROADS (bits; others count nothing);", () -> {
            x.posts(0, 10);
            x.sheet(0, 2, 40);
            due(0, x.rows(0, 0));
            for (int i = 0; i < 40; i++) {
                x.put(0, i, -1);
            }
            due(45, x.rows(0, 0), 1022, x.netOf(0, 10), 511, x.netOf(0, 19), 10, x.netOf(0, 0));
            for (int i = 0; i < 10; i++) {
                x.put(0, i, -1 << i);
            }
            due(0, x.rows(0, 0), 0, x.netOf(0, 10), 0, x.netOf(0, 19));
            for (int i = 0; i < 10; i++) {
                x.put(0, i, i == 0 ? LOW : LOW + (1 << i - 1));
            }
            due(9, x.rows(0, 0), 2, x.netOf(0, 10), 256, x.netOf(0, 19), 1 + 4, x.netOf(0, 11));
        });
        edge("of POSTS beyond its items to none: how many ROADS.", () -> {
            x.posts(0, 4);
            x.turn(0);
            x.sheet(0, 2, 3);
            x.put(0, 1, 1);
            x.put(0, 2, 3);
            due(3, x.rows(0, 0), 0, x.netOf(0, 13), 6, x.netOf(0, 10), 4, x.netOf(0, 0), 6 - 3, x.turn(0));
            x.sheet(0, 2, 0);
            due(0, x.rows(0, 0), 4, x.netOf(0, 0), 0, x.netOf(0, 11));
            x.sheet(0, 2, 1);
            x.put(0, 0, -1);
            due(0, x.rows(0, 0), 0, x.rows(1, 0), 1, x.netOf(1, 0));
            x.sheet(1, 2, 4);
            x.put(1, 3, 4);
            due(1, x.rows(0, 1), 4, x.netOf(0, 13), 0, x.rows(1, 1), 0, x.netOf(1, 10));
        });
        edge("BAD; -11; -13.", () -> {
            x.posts(0, 3);
            x.road(0, 0, 1, true);
            each(NOTHING, x.rows(0, 0), x.rows(3, 3));
            for (int bad : NOT_0_TO_3) {
                each(BAD, x.rows(bad, 0), x.rows(0, bad), x.rows(bad, bad));
            }
            for (int sort = 0; sort < 4; sort++) {
                x.sheet(1, sort, 0);
                x.sheet(2, sort, 3);
                due(sort == 2 ? 0 : OTHER, x.rows(3, 1), sort == 2 ? 0 : OTHER, x.rows(3, 2), BAD, x.rows(4, 1), BAD, x.rows(-1, 2));
            }
            due(1, x.netOf(0, 1), NOTHING, x.rows(0, 3), 1, x.sheet(1, -1, 0), NOTHING, x.rows(0, 1), 1, x.netOf(0, 1));
        });
        edge("Where a NET has ROADS it has none, and the other way round: how many ROADS. BAD.", () -> {
            for (int n = 1; n <= 10; n++) {
                x.posts(0, n);
                due(n * (n - 1) / 2, x.turn(0), (1 << n) - 2, x.netOf(0, 10), (1 << n - 1) - 1, x.netOf(0, 9 + n), 0, x.turn(0),
                    0, x.netOf(0, 10));
            }
            x.road(0, 3, 7, true);
            due(44, x.turn(0), 1023 - 8 - 128, x.netOf(0, 13), 1, x.turn(0), 128, x.netOf(0, 13), 0, x.netOf(1, 1));
            for (int bad : NOT_0_TO_3) {
                due(BAD, x.turn(bad));
            }
            due(1, x.netOf(0, 1));
        });
    }

    private void alike() {
        edge("Whether two NETS are the same but for the order of POSTS: 1, 0. BAD.", () -> {
            each(1, x.same(0, 1), x.same(3, 3), x.same(3, 0));
            x.posts(0, 2);
            each(0, x.same(0, 1), x.same(1, 0));
            x.posts(1, 2);
            due(1, x.same(0, 1), 1, x.turn(0), 0, x.same(0, 1), 0, x.same(1, 0), 1, x.turn(1), 1, x.same(0, 1));
            x.posts(0, 10);
            x.posts(1, 10);
            due(1, x.same(0, 1), 45, x.turn(0), 0, x.same(0, 1), 45, x.turn(1), 1, x.same(1, 0));
            due(1, x.road(0, 0, 1, false), 1, x.road(1, 8, 9, false), 1, x.same(0, 1), 1, x.road(0, 0, 2, false), 1, x.road(1, 5, 6, false),
                0, x.same(0, 1));
            due(10, net(0, "posts 10;ring 0 1 2 3 4 5 6 7 8 9;"), 10, net(1, "posts 10;ring 3 1 4 0 5 9 2 6 8 7;"), 1, x.same(0, 1));
            due(10, net(1, "posts 10;ring 0 1 2 3 4;ring 5 6 7 8 9;"), 0, x.same(0, 1), 0, x.same(1, 0));
            for (int bad : NOT_0_TO_3) {
                each(BAD, x.same(bad, 0), x.same(0, bad), x.same(bad, bad));
            }
        });
    }
}
