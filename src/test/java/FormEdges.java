/** Edges of forms: section 1 of the terms, promises 10 to 18. */
final class FormEdges extends Edges {
    private static final int[][] PAIRS = {{0, 1}, {0, 2}, {1, 2}, {0, 3}, {1, 3}, {2, 3}};

    FormEdges(Check check) {
        super(check);
    }

    void run() {
        terms();
        outTerms();
        formCalls();
        countCalls();
        outCalls();
        mostCalls();
    }

    private void codeNet(int net, int m, int code) {
        x.posts(net, m);
        for (int bit = 0; bit < 6; bit++) {
            if ((code >> bit & 1) != 0) {
                x.road(net, PAIRS[bit][0], PAIRS[bit][1], true);
            }
        }
    }

    private void terms() {
        edge("A CODE of m POSTS in an order (m 1 to 4): bits of ROADS of the pairs (0, 1), (0, 2), (1, 2), (0, 3), (1, 3), (2, 3)"
            + " of their places, as far as there are places; the first pair bit 0.", () -> {
            int[] codes = {1, 2, 8, 64};
            for (int m = 1; m <= 4; m++) {
                for (int code = 0; code < codes[m - 1]; code++) {
                    x = new ShareNets();
                    codeNet(0, m, code);
                    due(1, x.prove(0, m), x.form(m, code), x.row(0, 0), 1, x.row(0, 1));
                }
                each(BAD, x.form(m, codes[m - 1]), x.form(m, -1));
            }
        });
        edge("Their FORM: the least CODE of all orders.", () -> {
            for (int m = 1; m <= 4; m++) {
                for (int code = 0; code < 1 << m * (m - 1) / 2; code++) {
                    due(Reference.leastOf(m, code), x.form(m, code));
                }
            }
            due(11, x.form(4, 11), 11, x.form(4, 56), 12, x.form(4, 33), 13, x.form(4, 44), 30, x.form(4, 51), 15, x.form(4, 60),
                31, x.form(4, 62), 63, x.form(4, 63));
        });
        edge("FORMS of m: numbers that are one; the i-th one (i from 0), from the least on.", () -> {
            for (int m = 1; m <= 4; m++) {
                int found = 0;
                for (int code = 0; code < 1 << m * (m - 1) / 2; code++) {
                    if (x.form(m, code) == code) {
                        due(code, x.formAt(m, found), 0, x.count(0, m, code) - (m == 1 ? 1 : 0));
                        found++;
                    } else {
                        due(BAD, x.count(0, m, code));
                    }
                }
                due(FORMS[m].length, found, NONE, x.formAt(m, found), 0, x.formAt(m, 0), BAD, x.formAt(m, -1));
            }
        });
        edge("COUNT of a FORM of m in a NET: of how many sets of m of its POSTS it is the FORM.", () -> {
            x.posts(0, 10);
            int[] sets = {1, 10, 45, 120, 210};
            for (int m = 1; m <= 4; m++) {
                due(sets[m], x.count(0, m, 0));
            }
            due(45, x.turn(0), 10, x.count(0, 1, 0), 45, x.count(0, 2, 1), 120, x.count(0, 3, 7), 210, x.count(0, 4, 63),
                0, x.count(0, 4, 0), 0, x.count(0, 3, 3));
            for (int n = 1; n <= 4; n++) {
                x.posts(1, n);
                for (int m = 1; m <= 4; m++) {
                    due(m > n ? 0 : sets(n, m), x.count(1, m, 0));
                }
            }
            due(1, x.road(0, 4, 8, false), 28, x.count(0, 4, 31), 182, x.count(0, 4, 63), 8, x.count(0, 3, 3), 112, x.count(0, 3, 7),
                1, x.count(0, 2, 0));
        });
        edge("SHARE: COUNT by how many sets of m POSTS there are.", () -> {
            x.posts(0, 10);
            x.turn(0);
            x.road(0, 4, 8, false);
            due(28 / 14, x.share(0, 4, 31, 0), 210 / 14, x.share(0, 4, 31, 1), 44, x.share(0, 2, 1, 0), 45, x.share(0, 2, 1, 1));
            due(1, x.share(0, 3, 3, 0), 15, x.share(0, 3, 3, 1), 1, x.share(0, 1, 0, 0), 1, x.share(0, 1, 0, 1), 0, x.share(0, 4, 0, 0),
                1, x.share(0, 4, 0, 1));
            x.posts(1, 4);
            due(1, x.share(1, 4, 0, 0), 1, x.share(1, 4, 0, 1), 0, x.share(1, 4, 63, 0), 1, x.share(1, 4, 63, 1),
                NONE, x.share(2, 2, 0, 0));
        });
        edge("LIFT of a FORM f of m into a FORM g of k (m to 4): the SHARE of f in a NET of k POSTS with g.", () -> {
            for (int k = 1; k <= 4; k++) {
                for (int into : FORMS[k]) {
                    x = new ShareNets();
                    codeNet(0, k, into);
                    for (int m = 1; m <= k; m++) {
                        for (int form : FORMS[m]) {
                            due(x.share(0, m, form, 0), x.lift(m, form, k, into, 0), x.share(0, m, form, 1), x.lift(m, form, k, into, 1));
                        }
                    }
                    each(BAD, x.lift(k, into, k - 1, 0, 0), x.lift(k, into, 5, 0, 0), x.lift(k + 1, 0, k, into, 0));
                }
            }
        });
    }

    private static int sets(int n, int m) {
        return m == 0 ? 1 : sets(n, m - 1) * (n - m + 1) / m;
    }

    private void outTerms() {
        edge("OUT are FORMS of 2 to 4 POSTS, 4 at most.", () -> {
            due(BAD, x.out(1, 0, true), BAD, x.out(5, 0, true), 0, x.many(2));
            due(1, x.out(2, 0, true), 1, x.out(3, 0, true), 1, x.out(4, 0, true), 3, x.many(2), 1, x.out(4, 63, true), 4, x.many(2));
            due(FULL, x.out(4, 1, true), FULL, x.out(2, 1, true), FULL, x.out(3, 7, true), 4, x.many(2), 1, x.out(2, 0, false),
                3, x.many(2));
            due(1, x.out(3, 7, true), FULL, x.out(2, 0, true), 4, x.many(2));
        });
        edge("A NET is FREE if its COUNT of each that is OUT is 0.", () -> {
            x.posts(0, 10);
            due(1, x.free(0), 1, x.out(4, 63, true), 1, x.free(0), 1, x.out(3, 7, true), 1, x.free(0), 1, x.out(2, 1, true), 1, x.free(0));
            due(1, x.road(0, 8, 9, true), 0, x.free(0), 1, x.out(2, 1, false), 1, x.free(0), 1, x.out(3, 1, true), 0, x.free(0),
                1, x.out(3, 1, false));
            due(1, x.out(4, 1, true), 0, x.free(0), 1, x.out(4, 1, false), 1, x.free(0), 1, x.free(1));
            due(1, x.out(2, 0, true), 1, x.out(2, 1, true), 0, x.free(0), 1, x.free(1), 2, x.posts(1, 2), 0, x.free(1));
            x.out(2, 0, false);
            x.out(2, 1, false);
            x.posts(2, 3);
            due(3, x.turn(2), 0, x.free(2), 1, x.road(2, 0, 2, false), 1, x.free(2), 1, x.out(4, 0, true), 1, x.free(2));
        });
        edge("THE HEAP of k (2 to 4): which FORMS of k (the i-th as bit i) are those of FREE NETS.", () -> {
            due(3, x.heap(2), 15, x.heap(3), 2047, x.heap(4), BAD, x.heap(1), BAD, x.heap(5));
            for (int m = 2; m <= 4; m++) {
                for (int i = 0; i < FORMS[m].length; i++) {
                    x.out(m, FORMS[m][i], true);
                    due((1 << FORMS[m].length) - 1 - (1 << i), x.heap(m));
                    if (m > 2) {
                        due(3, x.heap(2));
                    }
                    if (m > 3) {
                        due(15, x.heap(3));
                    }
                    x.out(m, FORMS[m][i], false);
                }
            }
            due(1, x.out(3, 7, true), 7, x.heap(3), 375, x.heap(4), 1, x.out(3, 7, false), 1, x.out(3, 0, true), 14, x.heap(3),
                2024, x.heap(4));
            x.out(3, 0, false);
            due(1, x.out(2, 1, true), 1, x.heap(2), 1, x.heap(3), 1, x.heap(4), 1, x.out(2, 1, false), 1, x.out(2, 0, true), 2, x.heap(2),
                8, x.heap(3), 1024, x.heap(4));
            due(1, x.out(4, 63, true), 2, x.heap(2), 8, x.heap(3), 0, x.heap(4), 1, x.out(2, 1, true), 0, x.heap(2), 0, x.heap(3),
                0, x.heap(4));
        });
        edge("MOST of a FORM of m by n (1 to 5): its greatest COUNT in FREE NETS of n POSTS.", () -> {
            for (int n = 1; n <= 5; n++) {
                for (int m = 1; m <= 4; m++) {
                    int last = FORMS[m][FORMS[m].length - 1];
                    int all = m > n ? 0 : sets(n, m);
                    due(all, x.most(n, m, 0), all, x.most(n, m, last));
                }
            }
            due(9, x.most(5, 3, 3), 9, x.most(5, 3, 1), 5, x.most(5, 4, 13), 3, x.most(5, 4, 30), 3, x.most(5, 4, 12), BAD, x.most(0, 1, 0),
                BAD, x.most(6, 1, 0));
            due(1, x.out(3, 7, true), 6, x.most(5, 2, 1), 4, x.most(4, 2, 1), 2, x.most(3, 2, 1), 1, x.most(2, 2, 1), 0, x.most(5, 3, 7),
                9, x.most(5, 3, 3));
            due(1, x.out(4, 30, true), 5, x.most(5, 2, 1), 3, x.most(4, 2, 1), 0, x.most(5, 4, 30), 4, x.most(5, 4, 11));
        });
    }

    private void formCalls() {
        edge("The FORM of a CODE of m (1 to 4).", () -> {
            due(0, x.form(1, 0), 0, x.form(2, 0), 1, x.form(2, 1), 0, x.form(3, 0), 7, x.form(3, 7), 0, x.form(4, 0), 63, x.form(4, 63));
            each(BAD, x.form(0, 0), x.form(5, 0), x.form(-1, 0), x.form(LOW, 0), x.form(HIGH, 0));
        });
        edge("BAD: m, or other bits.", () -> {
            each(BAD, x.form(1, 1), x.form(2, 2), x.form(3, 8), x.form(4, 64), x.form(5, 1024), x.form(0, 1), x.form(5, 1));
            for (int m = 1; m <= 4; m++) {
                each(BAD, x.form(m, -1), x.form(m, LOW), x.form(m, HIGH), x.form(m, 128), x.form(m, 1 << 30), x.form(m, LOW + 1));
            }
        });
        edge("The i-th FORM of m.", () -> {
            for (int m = 1; m <= 4; m++) {
                for (int i = 0; i < FORMS[m].length; i++) {
                    due(FORMS[m][i], x.formAt(m, i));
                }
            }
        });
        edge("BAD: m, i below 0; NONE: there are fewer.", () -> {
            each(NONE, x.formAt(1, 1), x.formAt(2, 2), x.formAt(3, 4), x.formAt(4, 11));
            for (int m = 1; m <= 4; m++) {
                due(NONE, x.formAt(m, HIGH), NONE, x.formAt(m, 64), BAD, x.formAt(m, -1), BAD, x.formAt(m, LOW));
            }
            for (int bad : new int[] {0, 5, -1, LOW, HIGH}) {
                each(BAD, x.formAt(bad, 0), x.formAt(bad, 99), x.formAt(bad, -1), x.formAt(bad, HIGH));
            }
        });
    }

    private void countCalls() {
        edge("COUNT. BAD: no such NET, m, FORM of m.", () -> {
            x.posts(0, 4);
            x.turn(0);
            due(4, x.count(0, 1, 0), 6, x.count(0, 2, 1), 4, x.count(0, 3, 7), 1, x.count(0, 4, 63), 0, x.count(1, 4, 63),
                0, x.count(1, 2, 0), 1, x.count(1, 1, 0));
            each(BAD, x.count(0, 0, 0), x.count(0, 5, 0), x.count(0, -1, 0), x.count(0, LOW, 0), x.count(0, HIGH, 0));
            each(BAD, x.count(0, 1, 1), x.count(0, 1, -1), x.count(0, 2, 2), x.count(0, 2, 3), x.count(0, 3, 2), x.count(0, 3, 6),
                x.count(0, 3, 11));
            each(BAD, x.count(0, 4, 2), x.count(0, 4, 14), x.count(0, 4, 62), x.count(0, 4, 64), x.count(0, 4, LOW), x.count(0, 4, HIGH),
                x.count(1, 2, 2));
            for (int bad : NOT_0_TO_3) {
                each(BAD, x.count(bad, 1, 0), x.count(bad, 0, 0), x.count(bad, 4, 62));
            }
        });
        edge("SHARE. BAD; NONE: the NET has fewer POSTS than m.", () -> {
            for (int n = 1; n <= 10; n++) {
                x.posts(0, n);
                for (int m = 1; m <= 4; m++) {
                    due(m > n ? NONE : 1, x.share(0, m, 0, 0), m > n ? NONE : 1, x.share(0, m, 0, 1));
                }
            }
            due(NONE, x.share(1, 2, 0, 0), NONE, x.share(1, 4, 63, 1), 1, x.share(1, 1, 0, 0), 1, x.share(1, 1, 0, 1));
            each(BAD, x.share(1, 2, 2, 0), x.share(1, 2, 0, 2), x.share(1, 2, 0, -1), x.share(1, 5, 0, 0), x.share(1, 0, 0, 0),
                x.share(1, 4, 14, 0));
            each(BAD, x.share(0, 2, 0, 2), x.share(0, 2, 0, -1), x.share(0, 2, 0, LOW), x.share(0, 2, 0, HIGH), x.share(0, 1, 1, 0),
                x.share(0, LOW, 0, 0));
            for (int bad : NOT_0_TO_3) {
                each(BAD, x.share(bad, 1, 0, 0), x.share(bad, 4, 0, 0), x.share(bad, 1, 0, 2));
            }
        });
        edge("LIFT. BAD: m, no FORM of m, k (m to 4), no FORM of k, part.", () -> {
            due(1, x.lift(1, 0, 1, 0, 0), 1, x.lift(1, 0, 4, 63, 1), 1, x.lift(4, 63, 4, 63, 0), 0, x.lift(4, 63, 4, 31, 0),
                1, x.lift(4, 63, 4, 31, 1));
            due(1, x.lift(2, 1, 4, 12, 0), 3, x.lift(2, 1, 4, 12, 1), 1, x.lift(3, 1, 4, 12, 0), 1, x.lift(3, 1, 4, 12, 1),
                1, x.lift(3, 7, 4, 15, 0), 4, x.lift(3, 7, 4, 15, 1));
            for (int bad : new int[] {0, 5, -1, LOW, HIGH}) {
                each(BAD, x.lift(bad, 0, 4, 0, 0), x.lift(1, 0, bad, 0, 0), x.lift(bad, 0, bad, 0, 0), x.lift(4, 0, bad, 0, 0));
            }
            each(BAD, x.lift(2, 2, 3, 3, 0), x.lift(2, -1, 3, 3, 0), x.lift(1, 1, 3, 3, 0), x.lift(3, 11, 4, 11, 0),
                x.lift(4, 2, 4, 63, 0));
            each(BAD, x.lift(2, 1, 1, 0, 0), x.lift(3, 3, 2, 1, 0), x.lift(4, 3, 3, 3, 0), x.lift(2, 1, 5, 0, 0), x.lift(4, 63, 5, 63, 0));
            each(BAD, x.lift(2, 1, 3, 2, 0), x.lift(2, 1, 2, 3, 0), x.lift(2, 1, 4, 2, 0), x.lift(2, 1, 3, -1, 0), x.lift(2, 1, 4, 64, 0),
                x.lift(1, 0, 1, 1, 0));
            each(BAD, x.lift(2, 1, 3, 3, 2), x.lift(2, 1, 3, 3, -1), x.lift(2, 1, 3, 3, LOW), x.lift(2, 1, 3, 3, HIGH));
        });
    }

    private void outCalls() {
        edge("A FORM of m (2 to 4) is OUT, or isn't: 1 if that is new, else 0. BAD; FULL.", () -> {
            due(0, x.out(2, 1, false), 1, x.out(2, 1, true), 0, x.out(2, 1, true), 1, x.out(2, 1, false), 0, x.out(2, 1, false),
                0, x.many(2));
            due(1, x.out(2, 1, true), 1, x.out(3, 1, true), 1, x.out(4, 1, true), 1, x.out(4, 63, true), FULL, x.out(4, 0, true),
                4, x.many(2));
            due(0, x.out(4, 63, true), 0, x.out(2, 1, true), 0, x.out(4, 0, false), 4, x.many(2));
            for (int bad : new int[] {1, 5, 0, -1, LOW, HIGH}) {
                each(BAD, x.out(bad, 0, true), x.out(bad, 0, false));
            }
            each(BAD, x.out(2, 2, true), x.out(2, -1, true), x.out(3, 2, true), x.out(3, 11, false), x.out(4, 14, true), x.out(4, 64, true),
                x.out(4, LOW, true));
            due(1, x.heap(2), 1, x.out(3, 1, false), 1, x.out(4, 0, true), FULL, x.out(3, 1, true), 0, x.out(3, 1, false), 4, x.many(2));
        });
        edge("Whether a NET is FREE: 1, 0. BAD.", () -> {
            x.posts(3, 2);
            due(1, x.free(3), 1, x.out(2, 0, true), 0, x.free(3), 1, x.turn(3), 1, x.free(3), 1, x.out(2, 1, true), 0, x.free(3),
                1, x.free(0), 1, x.free(2));
            for (int bad : NOT_0_TO_3) {
                due(BAD, x.free(bad));
            }
        });
        edge("THE HEAP of k. BAD.", () -> {
            due(3, x.heap(2), 15, x.heap(3), 2047, x.heap(4));
            each(BAD, x.heap(1), x.heap(5), x.heap(0), x.heap(-1), x.heap(LOW), x.heap(HIGH));
            due(1, x.out(2, 0, true), 1, x.out(2, 1, true), 0, x.heap(2), 0, x.heap(3), 0, x.heap(4), BAD, x.heap(1), BAD, x.heap(5));
        });
    }

    private void mostCalls() {
        edge("MOST. BAD: n (1 to 5), m (1 to 4), no FORM of m;", () -> {
            due(1, x.most(1, 1, 0), 0, x.most(1, 4, 63), 5, x.most(5, 1, 0), 5, x.most(5, 4, 63), 10, x.most(5, 2, 0));
            for (int bad : new int[] {0, 6, -1, LOW, HIGH}) {
                each(BAD, x.most(bad, 1, 0), x.most(bad, 4, 63), x.most(bad, 0, 0));
            }
            for (int bad : new int[] {0, 5, -1, LOW, HIGH}) {
                each(BAD, x.most(1, bad, 0), x.most(5, bad, 0));
            }
            each(BAD, x.most(5, 1, 1), x.most(5, 2, 2), x.most(5, 3, 2), x.most(5, 3, 11), x.most(5, 4, 14), x.most(5, 4, 64),
                x.most(5, 4, -1), x.most(1, 4, LOW));
        });
        edge("NONE: no NET of n POSTS is FREE.", () -> {
            x.out(3, 1, true);
            x.out(3, 3, true);
            x.out(4, 0, true);
            due(3, x.most(3, 2, 1), 6, x.most(4, 2, 1), 10, x.most(5, 2, 1), 0, x.most(5, 2, 0), 1, x.out(4, 63, true));
            each(NONE, x.most(4, 2, 1), x.most(5, 2, 1), x.most(4, 1, 0), x.most(5, 1, 0), x.most(4, 4, 63), x.most(5, 4, 12));
            due(3, x.most(3, 2, 1), 1, x.most(3, 3, 0), 0, x.most(3, 4, 0), 1, x.most(2, 2, 1), 1, x.most(1, 1, 0), BAD, x.most(6, 1, 0),
                BAD, x.most(5, 5, 0), BAD, x.most(4, 2, 2));
            x = new ShareNets();
            x.out(2, 0, true);
            x.out(2, 1, true);
            for (int n = 2; n <= 5; n++) {
                each(NONE, x.most(n, 1, 0), x.most(n, 2, 1), x.most(n, 4, 63));
            }
            due(1, x.most(1, 1, 0), 0, x.most(1, 2, 0), BAD, x.most(0, 1, 0));
            x = new ShareNets();
            x.out(3, 0, true);
            x.out(3, 7, true);
            due(5, x.most(5, 2, 1), 5, x.most(5, 2, 0), 1, x.out(4, 13, true), NONE, x.most(5, 2, 1), 4, x.most(4, 2, 1),
                2, x.most(3, 2, 1));
        });
    }
}
