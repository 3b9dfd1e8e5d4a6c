import java.lang.reflect.Method;

/** Each promise by itself: pN() tests Promise N, with ordinary calls, the edges that it names, and wrong ones. */
public final class PromisesTest {
    private static final int BAD = -1, FULL = -2, NONE = -3, STATE = -4;
    private static final long NO = -1000000000000L;
    private static final int LOW = Integer.MIN_VALUE, HIGH = Integer.MAX_VALUE;
    private static final int[] NO_NET = {-1, 4, LOW, HIGH};

    private final Check check = new Check("PromisesTest");
    private ShareNets x;
    private int promise;

    public static void main(String[] args) throws Exception {
        PromisesTest test = new PromisesTest();
        int found = 0;
        for (int n = 1; n <= 52; n++) {
            for (Method m : PromisesTest.class.getDeclaredMethods()) {
                if (m.getName().equals("p" + n)) {
                    test.x = new ShareNets();
                    test.promise = n;
                    m.invoke(test);
                    found++;
                }
            }
        }
        test.check.due("tests for promises", 52, found);
        test.check.end();
    }

    private void due(String what, long want, long got) {
        check.due("promise " + promise + ": " + what, want, got);
    }

    /** Texts of calls would only say the line again: the number of the call in its promise is enough. */
    private void all(String what, long... wantThenGot) {
        for (int i = 0; i + 1 < wantThenGot.length; i += 2) {
            due(what + " (pair " + (i / 2 + 1) + ")", wantThenGot[i], wantThenGot[i + 1]);
        }
    }

    private void net(int net, String text) {
        check.isTrue("a text that is right: " + text, Check.readText(x, net, text) >= 0);
    }

    /** Reads a text with a mark | where its FAULT is. */
    private void fault(String marked) {
        int place = marked.indexOf('|');
        String text = marked.substring(0, place) + marked.substring(place + 1);
        due("FAULT of " + marked, -100 - place, Check.readText(x, 0, text));
        due("many(4) after " + marked, 0, x.many(4));
    }

    private static int step(int z, int times) {
        for (int i = 0; i < times; i++) {
            z = z * 1103515245 + 12345;
        }
        return z;
    }

    void p1() {
        for (int i = 0; i < 4; i++) {
            all("net " + i, 1, x.netOf(i, 0), 0, x.netOf(i, 1), 0, x.netOf(i, 10));
            all("shelf, sheet " + i, -11, x.taken(i, 0), -11, x.taken(i, 10), -11, x.item(i, 0, 0));
        }
        for (int what = 0; what <= 5; what++) {
            due("many " + what, 0, x.many(what));
        }
        all("nothing out", 3, x.heap(2), 15, x.heap(3), 2047, x.heap(4), 1, x.free(0));
        all("nothing there", NONE, x.again(), NONE, x.at(1, 0, 0), NONE, x.freeAt(), NONE, x.trace(0), -9, x.row(0, 0));
        all("no share", BAD, x.shareOf(0, 0), NO, x.gives(0, 0), 1, x.seed(1));
        x.posts(0, 7);
        x.keep();
        all("another object", 1, new ShareNets().netOf(0, 0), NONE, new ShareNets().again());
        all("constants", -1, ShareNets.BAD, -2, ShareNets.FULL, -3, ShareNets.NONE, -4, ShareNets.STATE, NO, ShareNets.NO);
    }

    void p2() {
        all("n", BAD, x.feed(1, 0), BAD, x.feed(1, 9), BAD, x.feed(1, -1), BAD, x.feed(1, LOW), BAD, x.feed(1, HIGH), 0, x.many(4));
        due("one", 1, x.feed(Check.eight("pZZZZZZZ", 0, 8), 1));
        due("seven", 8, x.feed(Check.eight("osts 2;Z", 0, 8), 7));
        due("lowest first, others left away", 0, x.read(0));
        due("posts", 2, x.netOf(0, 0));
        for (int i = 1; i <= 19; i++) {
            due("eight", 8 * i, x.feed(-1, 8));
        }
        all("up to 160", 156, x.feed(0, 4), FULL, x.feed(0, 5), 156, x.many(4), 160, x.feed(0, 4), FULL, x.feed(0, 1), 160, x.many(4));
        all("BAD first", BAD, x.feed(0, 0), BAD, x.feed(0, 9));
        all("used up", -100, x.read(0), 0, x.many(4), 8, x.feed(0, 8));
    }

    void p3() {
        all("right texts", 0, Check.readText(x, 0, "posts 1;"), 1, x.netOf(0, 0));
        all("all", 45, Check.readText(x, 0, "posts 10;all 0 1 2 3 4 5 6 7 8 9;"), 10, x.netOf(0, 0), 1022, x.netOf(0, 10));
        all("road", 2, Check.readText(x, 0, "posts 3;road 2 0 1;"), 6, x.netOf(0, 10), 1, x.netOf(0, 11), 1, x.netOf(0, 12));
        all("ring", 4, Check.readText(x, 0, "posts 4;ring 0 2 1 3;"), 12, x.netOf(0, 10), 12, x.netOf(0, 11));
        all("all of one", 0, Check.readText(x, 0, "posts 2;all 1;"));
        all("told twice", 3, Check.readText(x, 0, "posts 3;road 0 1;road 1 0;ring 0 1 2;all 0 2;"));
        all("blanks", 1, Check.readText(x, 0, "  posts   3  ;  road  0  1 ;  "), 1, Check.readText(x, 0, "posts3;road0 1;all2;"));
        all("two digits", 1, Check.readText(x, 0, "posts 03;road 00 02;"), 3, x.netOf(0, 0), 4, x.netOf(0, 10));
        StringBuilder full = new StringBuilder("posts 10;");
        while (full.length() < 145) {
            full.append("all 3;");
        }
        full.append("road 9 1;");
        full.append(" ".repeat(160 - full.length()));
        all("160 bytes", 160, Check.feedText(x, full.toString()), 1, x.read(0), 2, x.netOf(0, 19), 0, x.many(4));

        String[] faults = {"|", "   |", "|post 4;", "|postss 4;", "|postsz 4;", "|xosts 4;", "|a", "|Posts 4;", "|4 posts;", "|;", "posts|", "posts |", "posts |;",
            "posts |x;", "posts |0;", "posts |00;", "posts |11;", "posts |99;", "posts |004;", "posts |100;", "posts |-1;",
            "posts 4|", "posts 4 |", "posts 4 |4;", "posts 4|road", "posts 4|,", "posts 4;|;", "posts 4;|rode 0 1;",
            "posts 4;|roads 0 1;", "posts 4;|roadz 0 1;", "posts 4;|goad 0 1;",
            "posts 4;|sing 0 1 2;", "posts 4;|rind 0 1 2;", "posts 4;|ill 0;", "posts 4;|al 0;", "posts 4;|ro", "posts 4;|0", "posts 4;|posts 4;", "posts 4;road|", "posts 4;road |;",
            "posts 4;road 0|", "posts 4;road 0 |;", "posts 4;road 0 1|", "posts 4;road 0 1  |", "posts 4;road 0 |4;",
            "posts 4;road 0 |0;", "posts 4;road 0 1 |0;", "posts 4;road 0 |001;", "posts 4;road 0 1|,2;", "posts 4;road 0 1|x;",
            "posts 4;road 0 1 |road 1 2;", "posts 4;all |;", "posts 4;all 0 1 |1;", "posts 4;all |10;", "posts 4;all 0|",
            "posts 4;ring 0 |;", "posts 4;ring 0 1 |;", "posts 4;ring 0 1 2 |0;", "posts 4;ring 0 1 2|", "posts 4;ring 0 1|",
            "posts 2;ring 0 1 |2;", "posts 4;|\t", "posts|\t4;", "posts 4;road 0 1;all 2 |2;", "posts 4;|\u00e9", "posts 4;|\u0000",
            "posts 10;all 0 1 2 3 4 5 6 7 8 9 |9;", "posts 10;all 0 1 2 3 4 5 6 7 8 9|", "posts 10;all 0 1 2 3 4 5 6 7 8 9 |10;"};
        net(0, "posts 5;ring 0 1 2 3 4;");
        for (String text : faults) {
            fault(text);
        }
        all("a fault changes no net", 5, x.netOf(0, 0), 5, x.netOf(0, 1));
        Check.feedText(x, "posts 6;road 0 5;");
        for (int bad : NO_NET) {
            all("BAD, the tape stays", BAD, x.read(bad), 17, x.many(4));
        }
        all("then read", 1, x.read(3), 6, x.netOf(3, 0), 1, x.netOf(3, 15), 5, x.netOf(0, 0));
    }

    void p4() {
        net(1, "posts 3;all 0 1 2;");
        all("posts", 10, x.posts(1, 10), 10, x.netOf(1, 0), 0, x.netOf(1, 1), 1, x.posts(1, 1), 1, x.netOf(1, 0), 1, x.netOf(0, 0));
        net(1, "posts 3;all 0 1 2;");
        all("roads go", 3, x.posts(1, 3), 0, x.netOf(1, 1));
        net(1, "posts 3;all 0 1 2;");
        all("BAD", BAD, x.posts(1, 0), BAD, x.posts(1, 11), BAD, x.posts(1, LOW), BAD, x.posts(1, HIGH), 3, x.netOf(1, 1));
        for (int bad : NO_NET) {
            due("no net", BAD, x.posts(bad, 3));
        }
    }

    void p5() {
        x.posts(2, 10);
        all("new or not", 0, x.road(2, 0, 9, false), 1, x.road(2, 0, 9, true), 0, x.road(2, 9, 0, true), 0, x.road(2, 0, 9, true));
        all("both ways", 512, x.netOf(2, 10), 1, x.netOf(2, 19), 1, x.netOf(2, 1));
        all("away", 1, x.road(2, 9, 0, false), 0, x.road(2, 0, 9, false), 0, x.netOf(2, 1), 0, x.netOf(2, 10));
        all("BAD", BAD, x.road(2, 3, 3, true), BAD, x.road(2, 3, 3, false), BAD, x.road(2, 0, 10, true), BAD, x.road(2, -1, 0, true),
            BAD, x.road(2, 10, 0, false), BAD, x.road(2, 0, HIGH, true), BAD, x.road(2, LOW, 0, true), BAD, x.road(0, 0, 1, true), 0, x.netOf(2, 1));
        for (int bad : NO_NET) {
            due("no net", BAD, x.road(bad, 0, 0, true));
        }
    }

    void p6() {
        net(3, "posts 4;road 3 0 1;");
        all("of a net", 4, x.netOf(3, 0), 2, x.netOf(3, 1), 10, x.netOf(3, 10), 1, x.netOf(3, 11), 0, x.netOf(3, 12), 1, x.netOf(3, 13));
        for (int bad : new int[] {-1, 2, 9, 14, 19, 20, 42, LOW, LOW + 10, HIGH}) {
            due("what " + bad, BAD, x.netOf(3, bad));
        }
        for (int bad : NO_NET) {
            due("no net", BAD, x.netOf(bad, 0));
        }
    }

    void p7() {
        x.posts(0, 5);
        x.road(0, 3, 4, true);
        all("refusals", BAD, x.rows(-1, 0), BAD, x.rows(4, 0), BAD, x.rows(0, -1), BAD, x.rows(0, 4), -11, x.rows(0, 0), BAD, x.rows(4, 4));
        for (int sort : new int[] {0, 1, 3}) {
            x.sheet(0, sort, 5);
            due("another sort", -13, x.rows(0, 0));
        }
        due("still", 1, x.netOf(0, 1));
        x.sheet(0, 2, 0);
        all("no items", 0, x.rows(0, 0), 5, x.netOf(0, 0));
        x.sheet(0, 2, 40);
        for (int i = 0; i < 40; i++) {
            x.put(0, i, -1);
        }
        all("all bits", 10, x.rows(0, 0), 30, x.netOf(0, 10), 15, x.netOf(0, 14));
        x.sheet(1, 2, 3);
        x.put(1, 0, 30);
        x.put(1, 1, 2 + 4 + 8);
        x.put(1, 2, 2 + 4 + 1024);
        all("lesser posts alone, others lose theirs", 1, x.rows(0, 1), 2, x.netOf(0, 12), 4, x.netOf(0, 11), 0, x.netOf(0, 14));
        x.posts(3, 1);
        due("one post", 0, x.rows(3, 0));
    }

    void p8() {
        net(0, "posts 4;road 0 1;");
        all("turn", 5, x.turn(0), 12, x.netOf(0, 10), 12, x.netOf(0, 11), 11, x.netOf(0, 12), 1, x.turn(0), 2, x.netOf(0, 10));
        all("one post", 0, x.turn(1), 0, x.netOf(1, 10));
        x.posts(2, 10);
        all("ten", 45, x.turn(2), 511, x.netOf(2, 19), 0, x.turn(2));
        for (int bad : NO_NET) {
            due("no net", BAD, x.turn(bad));
        }
    }

    void p9() {
        all("one post", 1, x.same(0, 1), 1, x.same(2, 2));
        net(0, "posts 10;ring 0 1 2 3 4;ring 5 6 7 8 9;road 0 5;road 1 7;road 2 9;road 3 6;road 4 8;");
        net(1, "posts 10;ring 9 3 5 1 7;ring 0 2 4 6 8;road 9 0;road 3 4;road 5 8;road 1 2;road 7 6;");
        net(2, "posts 10;ring 0 1 2 3 4;ring 5 6 7 8 9;road 0 5;road 1 6;road 2 7;road 3 8;road 4 9;");
        all("three roads each", 1, x.same(0, 1), 1, x.same(1, 0), 0, x.same(0, 2), 0, x.same(2, 1));
        net(0, "posts 6;ring 0 1 2 3 4 5;");
        net(1, "posts 6;ring 0 2 4;ring 1 3 5;");
        net(2, "posts 6;ring 5 1 3 0 2 4;");
        net(3, "posts 7;ring 0 1 2 3 4 5;");
        all("rings", 0, x.same(0, 1), 1, x.same(0, 2), 0, x.same(0, 3), 1, x.same(3, 3));
        x.turn(0);
        x.turn(2);
        all("turned", 1, x.same(0, 2), 0, x.same(0, 1));
        net(0, "posts 4;road 0 1 2 3;");
        net(1, "posts 4;road 0 1 2;road 1 3;");
        due("as many roads", 0, x.same(0, 1));
        net(0, "posts 8;ring 0 1 2 3;ring 4 5 6 7;");
        net(1, "posts 8;ring 0 1 2 3 4 5 6 7;");
        all("no post stands for two", 0, x.same(0, 1), 0, x.same(1, 0));
        for (int bad : NO_NET) {
            all("no net", BAD, x.same(bad, 0), BAD, x.same(0, bad));
        }
    }

    void p10() {
        all("forms", 0, x.form(1, 0), 0, x.form(2, 0), 1, x.form(2, 1), 1, x.form(3, 2), 1, x.form(3, 4), 3, x.form(3, 5), 3, x.form(3, 6), 7, x.form(3, 7));
        all("of 4", 12, x.form(4, 33), 11, x.form(4, 56), 7, x.form(4, 52), 13, x.form(4, 44), 30, x.form(4, 51), 31, x.form(4, 62), 15, x.form(4, 57), 63, x.form(4, 63));
        for (int m = 1; m <= 4; m++) {
            for (int code = 0; code < 1 << m * (m - 1) / 2; code++) {
                due("code " + code + " of " + m, Reference.leastOf(m, code), x.form(m, code));
            }
        }
        all("BAD bits", BAD, x.form(1, 1), BAD, x.form(2, 2), BAD, x.form(3, 8), BAD, x.form(4, 64), BAD, x.form(4, -1), BAD, x.form(1, LOW), BAD, x.form(4, HIGH));
        all("BAD m", BAD, x.form(0, 0), BAD, x.form(5, 0), BAD, x.form(-1, 0), BAD, x.form(LOW, 0), BAD, x.form(HIGH, 0));
    }

    void p11() {
        int[][] forms = {{0}, {0, 1}, {0, 1, 3, 7}, {0, 1, 3, 7, 11, 12, 13, 15, 30, 31, 63}};
        for (int m = 1; m <= 4; m++) {
            for (int i = 0; i < forms[m - 1].length; i++) {
                due("form " + i + " of " + m, forms[m - 1][i], x.formAt(m, i));
            }
            all("fewer", NONE, x.formAt(m, forms[m - 1].length), NONE, x.formAt(m, HIGH), BAD, x.formAt(m, -1), BAD, x.formAt(m, LOW));
        }
        all("BAD m", BAD, x.formAt(0, 0), BAD, x.formAt(5, 0), BAD, x.formAt(5, 99), BAD, x.formAt(LOW, 0));
    }

    void p12() {
        net(0, "posts 5;ring 0 1 2 3 4;");
        all("ring of five", 5, x.count(0, 1, 0), 5, x.count(0, 2, 0), 5, x.count(0, 2, 1), 0, x.count(0, 3, 0), 5, x.count(0, 3, 1), 5, x.count(0, 3, 3), 5, x.count(0, 4, 13));
        net(0, "posts 10;all 0 1 2 3 4 5 6 7 8 9;");
        all("all of ten", 210, x.count(0, 4, 63), 120, x.count(0, 3, 7), 45, x.count(0, 2, 1), 0, x.count(0, 4, 31));
        net(0, "posts 4;ring 0 2 1 3;");
        all("ring of four", 1, x.count(0, 4, 30), 4, x.count(0, 3, 3), 0, x.count(0, 4, 15));
        all("fewer posts", 0, x.count(1, 2, 0), 0, x.count(1, 4, 63), 1, x.count(1, 1, 0));
        all("BAD", BAD, x.count(0, 0, 0), BAD, x.count(0, 5, 0), BAD, x.count(0, 2, 2), BAD, x.count(0, 3, 2), BAD, x.count(0, 3, 11), BAD, x.count(0, 4, 14), BAD, x.count(0, 4, -1), BAD, x.count(0, 1, 1), BAD, x.count(0, LOW, 0));
        for (int bad : NO_NET) {
            due("no net", BAD, x.count(bad, 1, 0));
        }
    }

    void p13() {
        net(0, "posts 6;road 0 1;road 2 3 4;");
        all("share", 1, x.share(0, 2, 1, 0), 5, x.share(0, 2, 1, 1), 9, x.share(0, 3, 0, 0), 20, x.share(0, 3, 0, 1), 1, x.share(0, 3, 3, 0), 20, x.share(0, 3, 3, 1));
        all("0 is 0 by 1, all is 1 by 1", 0, x.share(0, 3, 7, 0), 1, x.share(0, 3, 7, 1), 1, x.share(0, 1, 0, 0), 1, x.share(0, 1, 0, 1));
        all("fewer posts", NONE, x.share(1, 2, 1, 0), NONE, x.share(1, 4, 0, 1), 1, x.share(1, 1, 0, 0));
        all("BAD first", BAD, x.share(1, 2, 2, 0), BAD, x.share(1, 2, 1, 2), BAD, x.share(1, 2, 1, -1), BAD, x.share(0, 5, 0, 0), BAD, x.share(0, 2, 1, HIGH));
        for (int bad : NO_NET) {
            due("no net", BAD, x.share(bad, 1, 0, 0));
        }
    }

    void p14() {
        all("lift", 2, x.lift(2, 1, 3, 3, 0), 3, x.lift(2, 1, 3, 3, 1), 1, x.lift(2, 0, 4, 15, 0), 3, x.lift(2, 0, 4, 15, 1), 1, x.lift(3, 7, 4, 31, 0), 2, x.lift(3, 7, 4, 31, 1));
        all("into the same m", 1, x.lift(4, 13, 4, 13, 0), 1, x.lift(4, 13, 4, 13, 1), 0, x.lift(4, 13, 4, 12, 0), 1, x.lift(4, 13, 4, 12, 1), 1, x.lift(1, 0, 1, 0, 0), 1, x.lift(1, 0, 4, 63, 0));
        all("BAD", BAD, x.lift(0, 0, 3, 3, 0), BAD, x.lift(5, 0, 4, 0, 0), BAD, x.lift(2, 2, 3, 3, 0), BAD, x.lift(3, 3, 2, 1, 0), BAD, x.lift(2, 1, 5, 0, 0), BAD, x.lift(2, 1, 3, 2, 0), BAD, x.lift(2, 1, 3, 3, 2), BAD, x.lift(2, 1, 3, 3, -1), BAD, x.lift(LOW, 0, LOW, 0, 0), BAD, x.lift(1, 0, 0, 0, 0));
    }

    void p15() {
        all("out", 0, x.out(3, 7, false), 1, x.out(3, 7, true), 0, x.out(3, 7, true), 1, x.many(2), 1, x.out(3, 7, false), 0, x.many(2));
        all("by m", 1, x.out(2, 1, true), 1, x.out(3, 1, true), 1, x.out(4, 1, true), 1, x.out(4, 63, true), 4, x.many(2));
        all("four at most", FULL, x.out(4, 0, true), FULL, x.out(2, 0, true), 0, x.out(4, 63, true), 0, x.out(4, 0, false), 4, x.many(2));
        all("BAD first", BAD, x.out(1, 0, true), BAD, x.out(5, 0, true), BAD, x.out(2, 2, true), BAD, x.out(3, 11, true), BAD, x.out(0, 0, false), BAD, x.out(LOW, 0, true), BAD, x.out(HIGH, 0, false), BAD, x.out(4, -1, true));
        all("room again", 1, x.out(3, 1, false), 1, x.out(4, 0, true), FULL, x.out(3, 1, true));
    }

    void p16() {
        net(0, "posts 5;ring 0 1 2 3 4;");
        all("free", 1, x.free(0), 1, x.out(3, 7, true), 1, x.free(0), 1, x.out(3, 0, true), 1, x.free(0), 1, x.out(4, 13, true), 0, x.free(0), 1, x.free(1));
        x.out(4, 13, false);
        all("each of them", 1, x.out(2, 0, true), 0, x.free(0), 1, x.out(2, 0, false), 1, x.free(0), 6, x.posts(0, 6), 0, x.free(0));
        for (int bad : NO_NET) {
            due("no net", BAD, x.free(bad));
        }
    }

    void p17() {
        x.out(3, 7, true);
        all("no all of three", 3, x.heap(2), 7, x.heap(3), 375, x.heap(4));
        x.out(4, 0, true);
        all("of four", 3, x.heap(2), 7, x.heap(3), 374, x.heap(4));
        x.out(2, 1, true);
        all("no road", 1, x.heap(2), 1, x.heap(3), 0, x.heap(4));
        x.out(2, 0, true);
        all("none", 0, x.heap(2), 0, x.heap(3), 0, x.heap(4));
        all("BAD", BAD, x.heap(1), BAD, x.heap(5), BAD, x.heap(0), BAD, x.heap(-1), BAD, x.heap(LOW), BAD, x.heap(HIGH));
    }

    void p18() {
        all("nothing out", 10, x.most(5, 2, 1), 10, x.most(5, 3, 7), 9, x.most(5, 3, 3), 5, x.most(5, 4, 63), 5, x.most(5, 4, 13), 5, x.most(5, 1, 0), 0, x.most(1, 2, 1), 0, x.most(3, 4, 0), 1, x.most(4, 4, 30), 1, x.most(2, 2, 0));
        x.out(3, 7, true);
        all("no all of three", 6, x.most(5, 2, 1), 4, x.most(4, 2, 1), 2, x.most(3, 2, 1), 3, x.most(5, 4, 30), 0, x.most(5, 3, 7), 10, x.most(5, 3, 0));
        x.out(3, 0, true);
        all("the ring of five is left", 5, x.most(5, 2, 1), 5, x.most(5, 4, 13), 0, x.most(5, 4, 30), 1, x.most(4, 4, 30));
        x.out(4, 13, true);
        all("none of five", NONE, x.most(5, 2, 1), NONE, x.most(5, 1, 0), 4, x.most(4, 2, 1));
        x.out(4, 30, true);
        all("none of four but two pairs of a road", 2, x.most(4, 2, 1), 1, x.most(4, 4, 12), NONE, x.most(5, 2, 1));
        all("BAD first", BAD, x.most(0, 2, 1), BAD, x.most(6, 2, 1), BAD, x.most(5, 0, 0), BAD, x.most(5, 5, 0), BAD, x.most(5, 2, 2), BAD, x.most(5, 3, -1), BAD, x.most(LOW, 2, 1), BAD, x.most(5, HIGH, 0));
        x = new ShareNets();
        x.out(2, 0, true);
        x.out(2, 1, true);
        all("one post is always free", 1, x.most(1, 1, 0), 0, x.most(1, 4, 63), NONE, x.most(2, 1, 0), NONE, x.most(4, 2, 0), NONE, x.most(5, 2, 0));
    }

    void p19() {
        all("BAD", BAD, x.part(0), BAD, x.part(10), BAD, x.part(-1), BAD, x.part(LOW), BAD, x.part(HIGH), 0, x.many(0));
        all("numbers", 0, x.part(1), 1, x.part(9), 2, x.part(5), 3, x.part(1), 4, x.part(1), FULL, x.part(1), BAD, x.part(0), 5, x.many(0));
        x.bare();
        all("from 0 again", 0, x.part(1), 1, x.part(3), 0, x.chance(1, 1, 4), 7, x.at(2, 0, 0), 16, x.at(2, 0, 1));
    }

    void p20() {
        x.part(1);
        x.part(1);
        all("chance", 0, x.chance(0, 1, 3), 3, x.chance(1, 0, 4), 4, x.chance(0, 1, 0), 0, x.chance(1, 1, 2), 2, x.chance(1, 1, 2), 0, x.chance(0, 0, 1), 0, x.chance(0, 1, 0));
        all("BAD", BAD, x.chance(0, 2, 1), BAD, x.chance(2, 0, 1), BAD, x.chance(-1, 0, 1), BAD, x.chance(0, -1, 1), BAD, x.chance(0, 1, 5), BAD, x.chance(0, 1, -1), BAD, x.chance(LOW, HIGH, 0), BAD, x.chance(0, 0, HIGH));
        x.bare();
        due("none there", BAD, x.chance(0, 0, 0));
        x.part(1);
        x.part(1);
        all("0 at first, again", 0, x.chance(0, 0, 0), 0, x.chance(1, 1, 0), 0, x.chance(0, 1, 0));
    }

    void p21() {
        all("bare", 0, x.bare(), 0, x.part(2), 1, x.part(2), 2, x.bare(), 0, x.many(0), 0, x.bare(), NONE, x.freeAt());
    }

    void p22() {
        all("BAD before NONE", BAD, x.at(0, 0, 0), BAD, x.at(5, 0, 0), BAD, x.at(2, 2, 0), BAD, x.at(2, 1, 2), BAD, x.at(2, 1, -1), NONE, x.at(2, 1, 0), NONE, x.at(4, 63, 1), NONE, x.at(1, 0, 0));
        x.part(7);
        x.chance(0, 0, 2);
        all("half of all roads", 1, x.at(2, 1, 0), 2, x.at(2, 1, 1), 1, x.at(3, 7, 0), 8, x.at(3, 7, 1), 3, x.at(3, 3, 0), 8, x.at(3, 3, 1), 3, x.at(4, 13, 0), 16, x.at(4, 13, 1), 1, x.at(4, 63, 0), 64, x.at(4, 63, 1), 3, x.at(4, 30, 0), 64, x.at(4, 30, 1));
        x.bare();
        x.part(1);
        x.part(2);
        x.chance(0, 1, 4);
        all("two parts", 4, x.at(2, 1, 0), 9, x.at(2, 1, 1), 2, x.at(3, 3, 0), 3, x.at(3, 3, 1), 0, x.at(3, 7, 0), 1, x.at(3, 7, 1), 1, x.at(1, 0, 0), 1, x.at(1, 0, 1), 8, x.at(4, 30, 0), 27, x.at(4, 30, 1));
        x.bare();
        for (int i = 0; i < 5; i++) {
            x.part(i == 0 ? 8 : 9);
            for (int j = 0; j <= i; j++) {
                x.chance(i, j, 1);
            }
        }
        all("great numbers", 1, x.at(4, 63, 0), 4096, x.at(4, 63, 1), 729, x.at(4, 0, 0), 4096, x.at(4, 0, 1));
        x.chance(0, 0, 0);
        long below = 44L * 44 * 44 * 44 * 4096;
        long above = 44L * 44 * 44 * 44 - 8L * 8 * (6 * 36 * 36 + 4 * 8 * 36 + 8 * 8);
        long common = java.math.BigInteger.valueOf(above).gcd(java.math.BigInteger.valueOf(below)).longValue();
        all("greater than an int", above / common, x.at(4, 63, 0), below / common, x.at(4, 63, 1));
        all("BAD", BAD, x.at(LOW, 0, 0), BAD, x.at(4, 64, 0), BAD, x.at(4, -1, 0), BAD, x.at(4, 0, HIGH));
    }

    void p23() {
        due("no parts", NONE, x.freeAt());
        x.part(1);
        x.part(1);
        x.chance(0, 1, 4);
        all("two parts", 1, x.freeAt(), 1, x.out(3, 7, true), 1, x.freeAt(), 1, x.out(4, 13, true), 1, x.freeAt(), 1, x.out(4, 30, true), 0, x.freeAt());
        x.out(4, 30, false);
        all("each counts", 1, x.out(2, 0, true), 0, x.freeAt(), 1, x.out(2, 0, false), 0, x.chance(0, 0, 1), 0, x.freeAt());
    }

    void p24() {
        net(0, "posts 3;road 0 1 2;");
        x.part(9);
        x.chance(0, 0, 3);
        all("blown", 3, x.blow(0), 3, x.many(0), 4, x.chance(0, 1, 4), 4, x.chance(2, 1, 4), 0, x.chance(0, 2, 0), 0, x.chance(0, 0, 0), 4, x.at(2, 1, 0), 9, x.at(2, 1, 1));
        x.posts(1, 6);
        all("refused", STATE, x.blow(1), 3, x.many(0), 4, x.chance(0, 1, 4));
        x.posts(1, 5);
        all("five, one", 5, x.blow(1), 1, x.at(4, 0, 0), 1, x.blow(2), 0, x.chance(0, 0, 0));
        for (int bad : NO_NET) {
            due("no net", BAD, x.blow(bad));
        }
    }

    void p25() {
        net(0, "posts 2;road 0 1;");
        all("refusals", BAD, x.near(0, 0), BAD, x.near(0, 11), BAD, x.near(-1, 3), BAD, x.near(4, 3), NONE, x.near(0, 3), BAD, x.near(0, LOW), 1, x.netOf(0, 1));
        x.part(1);
        x.part(2);
        x.chance(0, 1, 4);
        all("cut, rest", 3, x.near(0, 4), 14, x.netOf(0, 10), 4, x.netOf(0, 0), 1, x.seed(1));
        all("one post goes to the greatest rest", 0, x.near(0, 1), 1, x.netOf(0, 0), 1, x.near(0, 2), 21, x.near(0, 10), 0b1111111000, x.netOf(0, 10));
        x.bare();
        x.part(1);
        x.part(1);
        x.part(1);
        x.chance(0, 0, 4);
        all("of several the first", 3, x.near(1, 7), 6, x.netOf(1, 10), 0, x.netOf(1, 13), 1, x.near(1, 5), 1, x.near(1, 6), 1, x.near(1, 4));
        x.chance(0, 0, 0);
        x.chance(1, 1, 4);
        all("the second", 1, x.near(1, 5), 4, x.netOf(1, 13), 8, x.netOf(1, 12), 0, x.near(1, 4));
        x.bare();
        x.part(4);
        x.part(1);
        for (int c = 1; c <= 3; c++) {
            x.chance(0, 0, c);
            x.chance(0, 1, 4);
            x.seed(77);
            int z = 77;
            int roads = 0;
            int last = 0;
            for (int b = 1; b < 8; b++) {
                for (int a = 0; a < b; a++) {
                    z = step(z, 1);
                    if ((z >>> 16) % 4 < c) {
                        roads++;
                        last |= b == 7 ? 1 << a : 0;
                    }
                }
            }
            all("chance " + c, roads + 16, x.near(2, 10), last + 512 + 256, x.netOf(2, 17), z, x.seed(1));
        }
    }

    void p26() {
        x.posts(0, 6);
        all("all, none", 15, x.mixed(0, 4), step(1, 15), x.seed(1), 0, x.mixed(0, 0), step(1, 15), x.seed(9));
        int z = 9;
        int[] sets = new int[6];
        int roads = 0;
        for (int b = 1; b < 6; b++) {
            for (int a = 0; a < b; a++) {
                z = step(z, 1);
                if ((z >>> 16) % 4 < 3) {
                    roads++;
                    sets[a] |= 1 << b;
                    sets[b] |= 1 << a;
                }
            }
        }
        all("by 3", roads, x.mixed(0, 3), sets[0], x.netOf(0, 10), sets[3], x.netOf(0, 13), sets[5], x.netOf(0, 15), z, x.seed(4));
        all("one post", 0, x.mixed(1, 2), 4, x.seed(4));
        all("BAD", BAD, x.mixed(0, -1), BAD, x.mixed(0, 5), BAD, x.mixed(0, LOW), 4, x.seed(4), roads, x.netOf(0, 1));
        for (int bad : NO_NET) {
            due("no net", BAD, x.mixed(bad, 2));
        }
    }

    void p27() {
        net(0, "posts 4;road 0 1 2 3;");
        all("all of them", 13, x.draw(0, 4), step(1, 4), x.seed(1), 0, x.draw(0, 1), step(1, 1), x.seed(1));
        for (int seed = -20; seed < 20; seed++) {
            x.seed(seed * 7654321);
            int first = (step(seed * 7654321, 1) >>> 16) % 4;
            int place = (step(seed * 7654321, 2) >>> 16) % 3;
            int second = place < first ? place : place + 1;
            all("two", Math.abs(first - second) == 1 ? 1 : 0, x.draw(0, 2), step(seed * 7654321, 2), x.seed(1));
        }
        all("refusals", NONE, x.draw(1, 2), BAD, x.draw(1, 0), BAD, x.draw(1, 5), BAD, x.draw(0, LOW), 0, x.draw(1, 1));
        x.seed(3);
        all("no draw", NONE, x.draw(1, 4), 3, x.seed(3));
        for (int bad : NO_NET) {
            due("no net", BAD, x.draw(bad, 1));
        }
    }

    void p28() {
        all("seed", 1, x.seed(5), 5, x.seed(LOW), LOW, x.seed(HIGH), HIGH, x.seed(-1), -1, x.seed(0), 0, x.seed(0));
    }

    void p29() {
        all("BAD", BAD, x.add(-1, 0, 0), BAD, x.add(4, 2, 0), BAD, x.add(0, 1, 0), BAD, x.add(0, 4, 0), BAD, x.add(0, 2, 2), BAD, x.add(0, 2, 3), BAD, x.add(0, 3, 2), BAD, x.add(0, 3, -1), BAD, x.add(1, -1, 0), BAD, x.add(1, 10000, 0), BAD, x.add(3, -1, 0), BAD, x.add(3, 10000, 0));
        all("BAD squares", BAD, x.add(2, 10, 0), BAD, x.add(2, -10, 0), BAD, x.add(2, 0, 10), BAD, x.add(2, 0, -10), BAD, x.add(LOW, 0, 0), BAD, x.add(2, LOW, HIGH), 0, x.many(1));
        all("numbers", 0, x.add(0, 2, 0), 1, x.add(0, 3, 7), 2, x.add(1, 0, LOW), 3, x.add(2, -9, 9), 4, x.add(2, 9, -9), 5, x.add(3, 9999, HIGH));
        all("six at most", FULL, x.add(0, 2, 0), BAD, x.add(0, 2, 2), 6, x.many(1));
    }

    void p30() {
        x.add(2, -4, -3);
        x.add(1, 9876, -2);
        x.add(0, 3, 7);
        x.weight(2, 55);
        all("of a square", 2, x.shareOf(0, 0), -4, x.shareOf(0, 1), -3, x.shareOf(0, 2), 0, x.shareOf(0, 3));
        all("of a sum, a share", 1, x.shareOf(1, 0), 9876, x.shareOf(1, 1), -2, x.shareOf(1, 2), 0, x.shareOf(2, 0), 3, x.shareOf(2, 1), 7, x.shareOf(2, 2), 55, x.shareOf(2, 3));
        all("BAD", BAD, x.shareOf(3, 0), BAD, x.shareOf(-1, 0), BAD, x.shareOf(0, 4), BAD, x.shareOf(0, -1), BAD, x.shareOf(LOW, 0), BAD, x.shareOf(0, HIGH));
    }

    void p31() {
        due("none", BAD, x.weight(0, 1));
        x.add(3, 4444, 0);
        all("weight", 0, x.weight(0, 99), 99, x.weight(0, 0), 0, x.weight(0, 7), BAD, x.weight(0, 100), BAD, x.weight(0, -1), BAD, x.weight(1, 1), BAD, x.weight(-1, 1), BAD, x.weight(0, LOW), 7, x.shareOf(0, 3));
    }

    void p32() {
        x.add(0, 2, 1);
        x.add(0, 2, 0);
        x.add(0, 3, 3);
        x.add(1, 9041, 0);
        x.add(2, 3, -2);
        x.add(3, 4, 0);
        long[][] due = {{0, 1, 2, 3}, {3, 2, 1, 0}, {0, 0, 3, 0}, {-9, 0, -12, 15}, {12, -8, -3, 27}, {0, -12, -12, -12}};
        for (int share = 0; share < 6; share++) {
            for (int i = 0; i < 4; i++) {
                due("share " + share + " form " + i, due[share][i], x.gives(share, i));
            }
        }
        all("NO", NO, x.gives(6, 0), NO, x.gives(-1, 0), NO, x.gives(0, 4), NO, x.gives(0, -1), NO, x.gives(LOW, HIGH));
    }

    void p33() {
        net(0, "posts 5;ring 0 1 2 3 4;");
        x.add(0, 2, 1);
        x.add(2, 1, -1);
        x.add(1, 4444, 0);
        x.add(1, 1234, 0);
        all("share", 1, x.value(0, 0, 0), 2, x.value(0, 0, 1));
        all("square below 0", -1, x.value(1, 0, 0), 3, x.value(1, 0, 1));
        all("0", 0, x.value(2, 0, 0), 1, x.value(2, 0, 1));
        all("sum", -3, x.value(3, 0, 0), 2, x.value(3, 0, 1));
        x.posts(1, 2);
        all("NO", NO, x.value(0, 1, 0), NO, x.value(0, 2, 0), NO, x.value(4, 0, 0), NO, x.value(-1, 0, 0), NO, x.value(0, 4, 0), NO, x.value(0, -1, 0), NO, x.value(0, 0, 2), NO, x.value(0, 0, -1));
        x.posts(1, 3);
        all("three posts", 0, x.value(0, 1, 0), 1, x.value(0, 1, 1), 1, x.value(1, 1, 0));
    }

    void p34() {
        x.add(0, 2, 1);
        x.add(2, 2, 1);
        x.add(3, 5, 0);
        all("no parts", NO, x.valueAt(0, 0), NO, x.valueAt(1, 1));
        x.part(1);
        x.chance(0, 0, 1);
        all("share", 1, x.valueAt(0, 0), 4, x.valueAt(0, 1));
        all("square: the middle of a product is one of the middles", 25, x.valueAt(1, 0), 16, x.valueAt(1, 1));
        all("law", 27 - 4 * 37, x.valueAt(2, 0), 64, x.valueAt(2, 1));
        all("NO", NO, x.valueAt(3, 0), NO, x.valueAt(-1, 0), NO, x.valueAt(0, 2), NO, x.valueAt(0, -1), NO, x.valueAt(HIGH, 0));
    }

    void p35() {
        all("no squares", 1, x.bound(2, 1, 0), 1, x.bound(2, 1, 1), 1, x.bound(3, 3, 0), 1, x.bound(3, 0, 1));
        x.out(3, 7, true);
        all("no all of three", 2, x.bound(2, 1, 0), 3, x.bound(2, 1, 1), 0, x.bound(3, 7, 0), 1, x.bound(3, 7, 1));
        x.add(2, 1, -1);
        x.add(1, 9999, 0);
        x.add(3, 9999, 0);
        x.add(0, 2, 1);
        x.weight(0, 6);
        x.weight(1, 99);
        x.weight(2, 99);
        x.weight(3, 99);
        all("squares alone count", 1, x.bound(2, 1, 0), 2, x.bound(2, 1, 1));
        x.out(3, 0, true);
        x.out(3, 3, true);
        all("below 0", 1, x.bound(2, 1, 0), 6, x.bound(2, 1, 1), -1, x.bound(3, 7, 0), 6, x.bound(3, 7, 1));
        all("NO", NO, x.bound(1, 0, 0), NO, x.bound(4, 0, 0), NO, x.bound(2, 2, 0), NO, x.bound(3, 11, 0), NO, x.bound(2, 1, 2), NO, x.bound(2, 1, -1), NO, x.bound(LOW, 0, 0));
        x.out(3, 1, true);
        all("none in the heap", NO, x.bound(2, 1, 0), NO, x.bound(3, 1, 1));
    }

    void p36() {
        x.out(3, 7, true);
        x.add(2, 1, -1);
        x.weight(0, 6);
        all("slack", 0, x.slack(2, 1, 0, 0), 1, x.slack(2, 1, 0, 1), 1, x.slack(2, 1, 1, 0), 3, x.slack(2, 1, 1, 1), 0, x.slack(2, 1, 2, 0), NO, x.slack(2, 1, 3, 0));
        all("of 3", 1, x.slack(3, 3, 0, 0), 3, x.slack(3, 3, 0, 1), 0, x.slack(3, 3, 2, 0), 1, x.slack(3, 3, 1, 0), 1, x.slack(3, 3, 1, 1));
        all("NO", NO, x.slack(2, 1, 4, 0), NO, x.slack(2, 1, -1, 0), NO, x.slack(1, 0, 0, 0), NO, x.slack(4, 0, 0, 0), NO, x.slack(2, 3, 0, 0), NO, x.slack(2, 1, 0, 2), NO, x.slack(2, 1, HIGH, 0), NO, x.slack(2, 1, LOW, 0), NO, x.slack(2, 1, 32, 0));
        x.out(4, 0, true);
        all("the heap of 3 is meant", 0, x.slack(2, 1, 0, 0), 5, x.tight(2, 1));
        x.out(2, 0, true);
        x.out(2, 1, true);
        due("none in the heap", NO, x.slack(2, 1, 0, 0));
    }

    void p37() {
        all("nothing out", 8, x.tight(2, 1), 1, x.tight(2, 0), 4, x.tight(3, 3));
        x.out(3, 7, true);
        all("all are 0", 7, x.tight(3, 7), 4, x.tight(2, 1));
        x.add(2, 1, -1);
        x.weight(0, 6);
        due("by squares", 5, x.tight(2, 1));
        all("BAD", BAD, x.tight(1, 0), BAD, x.tight(4, 0), BAD, x.tight(2, 2), BAD, x.tight(3, 2), BAD, x.tight(LOW, 0), BAD, x.tight(0, 0));
        x.out(2, 0, true);
        x.out(2, 1, true);
        all("none in the heap, BAD first", NONE, x.tight(2, 1), BAD, x.tight(2, 2));
    }

    void p38() {
        all("no parts", NONE, x.met(2, 1), BAD, x.met(1, 0), BAD, x.met(4, 0), BAD, x.met(3, 2), BAD, x.met(HIGH, 0));
        x.part(1);
        x.part(1);
        x.chance(0, 1, 4);
        x.add(2, 1, -1);
        x.weight(0, 6);
        due("not free of a greater one", 0, x.met(2, 1));
        x.out(3, 7, true);
        all("met", 1, x.met(2, 1), 0, x.met(2, 0), 0, x.met(3, 3));
        x.weight(0, 5);
        due("no longer", 0, x.met(2, 1));
        x.weight(0, 6);
        x.out(4, 30, true);
        due("the limit isn't free", 0, x.met(2, 1));
        x.out(4, 30, false);
        x.out(2, 0, true);
        x.out(2, 1, true);
        all("none in the heap", NONE, x.met(2, 1), BAD, x.met(2, 2));
    }

    void p39() {
        net(0, "posts 5;ring 0 1 2 3 4;");
        all("rows", 2, x.prove(0, 3), 1, x.row(0, 0), 5, x.row(0, 1), 3, x.row(1, 0), 5, x.row(1, 1), 2, x.many(3));
        all("refused", BAD, x.prove(0, 0), BAD, x.prove(0, 5), BAD, x.prove(4, 3), BAD, x.prove(-1, 3), BAD, x.prove(0, LOW), 2, x.many(3), 3, x.row(1, 0));
        all("by others", 1, x.prove(0, 4), 13, x.row(0, 0), 5, x.row(0, 1), -9, x.row(1, 0), 1, x.prove(0, 1), 0, x.row(0, 0), 5, x.row(0, 1), 2, x.prove(0, 2));
        all("fewer posts", 0, x.prove(1, 2), 0, x.many(3), -9, x.row(0, 0));
    }

    void p40() {
        net(0, "posts 3;road 0 1;");
        x.prove(0, 2);
        all("row", 0, x.row(0, 0), 2, x.row(0, 1), 1, x.row(1, 0), 1, x.row(1, 1));
        all("-9", -9, x.row(2, 0), -9, x.row(-1, 0), -9, x.row(0, 2), -9, x.row(0, -1), -9, x.row(HIGH, 0), -9, x.row(LOW, LOW));
    }

    void p41() {
        net(0, "posts 3;road 0 1;");
        due("none", -9, x.alterRow(0, 0, 1));
        x.prove(0, 2);
        all("alter", 0, x.alterRow(0, 0, LOW), LOW, x.alterRow(0, 0, 7), 7, x.row(0, 0), 1, x.alterRow(1, 1, HIGH), HIGH, x.row(1, 1), 2, x.row(0, 1));
        all("-9", -9, x.alterRow(2, 0, 1), -9, x.alterRow(-1, 0, 1), -9, x.alterRow(0, 2, 1), -9, x.alterRow(0, -1, 1), 2, x.many(3));
    }

    void p42() {
        net(0, "posts 6;road 0 1;road 2 3 4;");
        all("no rows", 222, x.judge(0, 3), 222, x.judge(0, 1), 0, x.judge(1, 2), 222, x.judge(1, 1));
        for (int m = 1; m <= 4; m++) {
            x.prove(0, m);
            due("right by " + m, 0, x.judge(0, m));
        }
        x.prove(0, 3);
        all("right", 0, x.judge(0, 3), 1, x.judge(0, 2), 1, x.judge(1, 2), 1, x.judge(1, 1));
        all("a count", 1, x.alterRow(2, 1, 2), 3, x.judge(0, 3), 2, x.alterRow(2, 1, 1), 0, x.judge(0, 3));
        all("a form", 1, x.alterRow(1, 0, 2), 2, x.judge(0, 3), 9, x.alterRow(0, 1, 0), 1, x.judge(0, 3));
        net(1, "posts 3;");
        net(2, "posts 3;road 0 1;");
        x.prove(1, 2);
        x.alterRow(0, 1, 2);
        all("all are right, but fewer", 222, x.judge(2, 2));
        x.prove(2, 2);
        x.alterRow(0, 1, 3);
        all("one more", 2, x.judge(1, 2), 1, x.judge(2, 2));
        all("BAD", BAD, x.judge(0, 0), BAD, x.judge(0, 5), BAD, x.judge(4, 2), BAD, x.judge(-1, 2), BAD, x.judge(LOW, HIGH));
    }

    void p43() {
        all("sheets", 1, x.sheet(0, 0, 40), 0, x.item(0, 0, 39), -12, x.item(0, 0, 40), 1, x.sheet(3, 3, 0), -12, x.item(3, 3, 0));
        all("BAD", BAD, x.sheet(-1, 0, 1), BAD, x.sheet(4, 0, 1), BAD, x.sheet(0, -2, 1), BAD, x.sheet(0, 4, 1), BAD, x.sheet(0, 0, 41), BAD, x.sheet(0, 0, HIGH), BAD, x.sheet(4, 0, -1), BAD, x.sheet(0, 4, -1));
        all("-14", -14, x.sheet(0, 0, -1), -14, x.sheet(0, 3, LOW), 0, x.item(0, 0, 39));
        x.put(0, 3, 5);
        all("all 0", 5, x.item(0, 0, 3), 1, x.sheet(0, 0, 4), 0, x.item(0, 0, 3), -12, x.item(0, 0, 4));
        all("missing", 1, x.sheet(0, -1, -5), -11, x.item(0, 0, 0), 1, x.sheet(0, -1, 99), 1, x.sheet(1, -1, LOW), BAD, x.sheet(4, -1, 0));
    }

    void p44() {
        all("refusals", BAD, x.put(-1, 0, 0), BAD, x.put(4, 0, 0), -11, x.put(0, 0, 0), -11, x.put(0, -1, 0));
        int[] narrowed = {(byte) 123456789, (short) 123456789, 123456789, 123456789};
        for (int sort = 0; sort < 4; sort++) {
            x.sheet(sort, sort, 2);
            all("sort " + sort, 1, x.put(sort, 1, 123456789), narrowed[sort], x.item(sort, sort, 1), 0, x.item(sort, sort, 0), 1, x.put(sort, 0, -1), -1, x.item(sort, sort, 0));
            all("outside", -12, x.put(sort, 2, 1), -12, x.put(sort, -1, 1), -12, x.put(sort, LOW, 1), -12, x.put(sort, HIGH, 1));
        }
    }

    void p45() {
        x.sheet(0, 1, 2);
        x.put(0, 0, -32769);
        all("item", 32767, x.item(0, 1, 0), 0, x.item(0, 1, 1), BAD, x.item(4, 1, 0), BAD, x.item(-1, 1, 0), BAD, x.item(0, 4, 0), BAD, x.item(0, -1, 0));
        all("order", -13, x.item(0, 0, 9), -13, x.item(0, 2, 0), -12, x.item(0, 1, 2), -12, x.item(0, 1, -1), -11, x.item(1, 1, 9), BAD, x.item(1, 9, 9));
        x.sheet(1, 3, 1);
        x.put(1, 0, LOW);
        all("longs", LOW, x.item(1, 3, 0), 1, x.put(1, 0, -13), -13, x.item(1, 3, 0));
    }

    void p46() {
        x.add(1, 5, 0);
        x.sheet(2, 1, 7);
        all("holds", 1, x.shelf(0, 0, 0), 0, x.taken(0, 0), 1, x.shelf(0, 1, 2), 7, x.taken(0, 11), 1, x.shelf(0, 2, 99), -11, x.taken(0, 0), 1, x.shelf(3, 0, 0), 0, x.taken(3, 1));
        all("a missing sheet", 1, x.shelf(3, 1, 0), -11, x.taken(3, 1), -11, x.taken(3, 12));
        x.shelf(1, 0, 0);
        all("BAD", BAD, x.shelf(-1, 2, 0), BAD, x.shelf(4, 0, 0), BAD, x.shelf(1, 3, 0), BAD, x.shelf(1, -1, 0), BAD, x.shelf(1, 0, 1), BAD, x.shelf(1, 0, -1), BAD, x.shelf(1, 1, 4), BAD, x.shelf(1, 1, -1), BAD, x.shelf(1, LOW, HIGH), 0, x.taken(1, 0));
        x.shelf(0, 1, 2);
        x.sheet(2, 3, 9);
        all("the row of then", 7, x.taken(0, 11), -13, x.taken(0, 13), 1, x.sheet(2, -1, 0), 7, x.taken(0, 11), 1, x.shelf(0, 1, 2), -11, x.taken(0, 11));
    }

    void p47() {
        x.add(0, 2, 0);
        x.add(1, 0, 0);
        x.add(2, 0, 0);
        x.add(3, 0, 0);
        long[][] due = {{0, -13, -13, -13}, {1, 1, -13, -13}, {2, 2, 2, -13}, {3, 3, -13, 3}};
        for (int kind = 0; kind < 4; kind++) {
            x.shelf(kind, 0, kind);
            for (int as = 0; as < 4; as++) {
                all("kind " + kind + " as " + as, due[kind][as], x.taken(kind, as), -13, x.taken(kind, 10 + as));
            }
        }
        for (int sort = 0; sort < 4; sort++) {
            x.sheet(sort, sort, sort * 10);
            x.shelf(sort, 1, sort);
            for (int as = 0; as < 4; as++) {
                all("sort " + sort + " as " + as, as == sort ? sort * 10 : -13, x.taken(sort, 10 + as), -13, x.taken(sort, as));
            }
        }
        x.shelf(0, 2, 0);
        all("nothing", -11, x.taken(0, 0), -11, x.taken(0, 13));
        for (int bad : new int[] {-1, 4, 9, 14, LOW, LOW + 10, HIGH}) {
            all("as " + bad, BAD, x.taken(0, bad), BAD, x.taken(1, bad), BAD, x.taken(bad == 9 || bad == 14 ? -1 : bad, 0));
        }
    }

    private void traced(int... bodies) {
        due("many(5)", bodies.length, x.many(5));
        for (int i = 0; i < bodies.length; i++) {
            due("trace " + i, bodies[i], x.trace(i));
        }
        due("trace's end", NONE, x.trace(bodies.length));
    }

    void p48() {
        x.add(0, 2, 1);
        x.add(1, 3, 0);
        x.add(2, 5, 0);
        x.add(3, 7, 0);
        for (int i = 0; i < 4; i++) {
            x.shelf(i, 0, i);
        }
        due("share counts", 5, x.act(0, 0, 5));
        traced(10);
        due("share joins", 10, x.act(0, 1, 5));
        traced(11, 10);
        due("share parts", -4, x.act(0, 2, -9));
        traced(12);
        due("share tells", 8, x.act(0, 3, 5));
        traced(13, 11, 10);
        due("sum counts", 6, x.act(1, 0, 5));
        traced(10);
        due("sum joins", 9, x.act(1, 1, 5));
        traced(20, 11, 10);
        due("sum parts", 4, x.act(1, 2, 8));
        traced(21, 12);
        due("sum tells", 9 ^ 3, x.act(1, 3, 5));
        traced(13, 20, 11, 10);
        due("square counts", 21, x.act(2, 0, 5));
        traced(30, 10);
        due("square joins", 42 - 5 + 1, x.act(2, 1, 5));
        traced(31, 20, 11, 30, 10, 21, 12);
        due("square parts", 3, x.act(2, 2, 10));
        traced(21, 12);
        due("square tells", 38 ^ 5, x.act(2, 3, 5));
        traced(13, 31, 20, 11, 30, 10, 21, 12);
        due("law counts", -8, x.act(3, 0, 5));
        traced(40, 10);
        due("law joins", -23, x.act(3, 1, 5));
        traced(20, 11, 40, 10);
        due("law parts", -2, x.act(3, 2, -10));
        traced(21, 12);
        due("law tells", (-23 ^ 7) * 2, x.act(3, 3, 5));
        traced(41, 13, 20, 11, 40, 10);
        all("wraps", LOW, x.act(1, 0, HIGH), -2, x.act(0, 1, HIGH), LOW / 2, x.act(1, 2, HIGH), (HIGH + 2) * 3, x.act(2, 0, HIGH));
        for (int bad : NO_NET) {
            x.act(0, 0, 1);
            due("no such shelf", 0, x.act(bad, 0, 5));
            traced();
            x.act(0, 0, 1);
            due("no such act", 0, x.act(0, bad, 5));
            traced();
        }
        partedBy0();
    }

    private void partedBy0() {
        x = new ShareNets();
        x.add(1, 0, 0);
        x.add(2, 1, 4);
        x.add(0, 2, 1);
        x.add(0, 2, 1);
        x.shelf(0, 0, 0);
        x.shelf(1, 0, 1);
        x.shelf(2, 0, 2);
        x.shelf(3, 0, 3);
        due("sum parted by 0", -15, x.act(0, 2, 5));
        traced(21, 12);
        due("share parted by 0", -15, x.act(2, 2, 5));
        traced(12);
        due("within joins", -15, x.act(1, 1, 5));
        traced(31, 20, 11, 30, 10, 21, 12);
        due("within tells", -15, x.act(1, 3, 5));
        traced(13, 31, 20, 11, 30, 10, 21, 12);
        all("it goes on", 18, x.act(1, 0, 5), LOW, x.act(3, 2, LOW), -15, x.act(2, 0, -17), 1, x.many(5));
        x.shelf(0, 2, 0);
        due("nothing", 0, x.act(0, 0, 5));
        traced();
        x.sheet(0, 2, 4);
        x.shelf(0, 1, 0);
        x.act(1, 0, 5);
        due("a row", 0, x.act(0, 0, 5));
        traced();
    }

    void p49() {
        due("none yet", NONE, x.trace(0));
        x.add(2, 5, 0);
        x.shelf(0, 0, 0);
        x.act(0, 1, 5);
        all("trace", 31, x.trace(0), 12, x.trace(6), NONE, x.trace(7), NONE, x.trace(-1), NONE, x.trace(30), NONE, x.trace(LOW), NONE, x.trace(HIGH));
    }

    void p50() {
        x.part(1);
        x.part(2);
        x.add(0, 2, 1);
        x.add(2, 5, 0);
        x.add(2, 5, 0);
        x.out(2, 1, true);
        x.posts(0, 4);
        x.road(0, 0, 1, true);
        x.prove(0, 3);
        x.feed(1, 7);
        x.shelf(0, 0, 2);
        x.act(0, 0, 1);
        all("many", 2, x.many(0), 3, x.many(1), 1, x.many(2), 2, x.many(3), 7, x.many(4), 2, x.many(5));
        all("BAD", BAD, x.many(6), BAD, x.many(-1), BAD, x.many(LOW), BAD, x.many(HIGH));
    }

    void p51() {
        all("keep", 1, x.keep(), 3, x.posts(0, 3), 1, x.keep(), 5, x.posts(0, 5), 1, x.again(), 3, x.netOf(0, 0));
        all("what is kept stays as it was", 3, x.turn(0), 1, x.again(), 0, x.netOf(0, 1));
    }

    void p52() {
        all("nothing is kept", NONE, x.again(), 4, x.posts(1, 4), NONE, x.again(), 4, x.netOf(1, 0));
        net(0, "posts 3;road 0 1;");
        x.out(3, 7, true);
        x.part(3);
        x.part(2);
        x.chance(0, 1, 3);
        x.add(2, 1, -1);
        x.weight(0, 6);
        x.seed(42);
        x.keep();
        x.posts(0, 2);
        x.posts(3, 9);
        x.out(3, 7, false);
        x.out(2, 0, true);
        x.chance(0, 1, 1);
        x.part(9);
        x.weight(0, 9);
        x.add(3, 1, 1);
        x.seed(43);
        x.feed(0, 3);
        x.prove(0, 2);
        x.sheet(1, 2, 5);
        x.shelf(0, 0, 0);
        x.shelf(1, 0, 1);
        x.act(0, 0, 1);
        for (int twice = 0; twice < 2; twice++) {
            due("again", 1, x.again());
            all("nets, out", 3, x.netOf(0, 0), 1, x.netOf(0, 1), 4, x.netOf(1, 0), 1, x.netOf(3, 0), 7, x.heap(3), 1, x.many(2));
            all("the limit", 2, x.many(0), 3, x.chance(0, 1, 3), 16, x.at(2, 0, 0), 25, x.at(2, 0, 1));
            all("shares, z", 1, x.many(1), 6, x.shareOf(0, 3), 42, x.seed(42));
            all("the rest is not kept", 3, x.many(4), 1, x.many(3), -12, x.item(1, 2, 5), 0, x.taken(0, 2), -11, x.taken(1, 0), 0, x.act(1, 0, 1));
            x.turn(0);
            x.bare();
            x.add(0, 2, 1);
            due("by its number", 1, x.taken(1, 0));
            x.weight(0, 1);
            x.seed(7);
        }
        x.again();
        x.keep();
        all("latest", 1, x.again(), 1, x.many(1));
    }
}
