/** Edges of shares and bounds: section 3 of the terms, promises 29 to 38. */
final class ShareEdges extends Edges {
    private static final int SHARE = 0, SUM = 1, SQUARE = 2, LAW = 3;

    ShareEdges(Check check) {
        super(check);
    }

    void run() {
        terms();
        boundTerms();
        shareCalls();
        valueCalls();
        boundCalls();
        tightCalls();
    }

    private void fillShares(int kind, int a, int b, int weight) {
        while (x.many(1) < 6) {
            x.weight(x.add(kind, a, b), weight);
        }
    }

    private void gives(int share, long... want) {
        for (int i = 0; i < 4; i++) {
            due(want[i], x.gives(share, i));
        }
    }

    private void value(long above, long below, int share, int net) {
        due(above, x.value(share, net, 0), below, x.value(share, net, 1));
    }

    private void valueAt(long above, long below, int share) {
        due(above, x.valueAt(share, 0), below, x.valueAt(share, 1));
    }

    private void bound(long above, long below, int m, int form) {
        due(above, x.bound(m, form, 0), below, x.bound(m, form, 1));
    }

    private void slack(long above, long below, int m, int form, int i) {
        due(above, x.slack(m, form, i, 0), below, x.slack(m, form, i, 1));
    }

    private void allOfThreeOut() {
        for (int form : FORMS[3]) {
            x.out(3, form, true);
        }
    }

    /** The heap of 3 has two forms still, that of 4 none. */
    private void noneOfFourFree() {
        x.out(3, 1, true);
        x.out(3, 3, true);
        x.out(4, 0, true);
        x.out(4, 63, true);
        due(9, x.heap(3), 0, x.heap(4));
    }

    private void terms() {
        edge("SHARES, 6 at most, numbered as they come, each of a KIND: 0 share; 1 sum (under share), 2 square, 3 law (both under sum);"
            + " A, B; a WEIGHT (0 to 99; 0 at first).", () -> {
            each(BAD, x.add(-1, 2, 1), x.add(4, 2, 1));
            for (int kind = 0; kind <= 3; kind++) {
                due(kind, x.add(kind, 2, 1), kind, x.shareOf(kind, 0), 2, x.shareOf(kind, 1), 1, x.shareOf(kind, 2), 0, x.shareOf(kind, 3));
            }
            due(4, x.add(0, 2, 1), 5, x.add(3, 2, 1), FULL, x.add(0, 2, 1), FULL, x.add(3, 2, 1), 6, x.many(1));
            due(0, x.weight(5, 99), 99, x.weight(5, 0), BAD, x.weight(5, 100), BAD, x.weight(5, -1), 0, x.shareOf(5, 3));
            long[][] under = {{0, OTHER, OTHER, OTHER}, {1, 1, OTHER, OTHER}, {2, 2, 2, OTHER}, {3, 3, OTHER, 3}};
            for (int kind = 0; kind <= 3; kind++) {
                x.shelf(0, 0, kind);
                for (int as = 0; as <= 3; as++) {
                    due(under[kind][as], x.taken(0, as));
                }
            }
        });
        edge("share: A is m (2, 3), B a FORM of m.", () -> {
            each(BAD, x.add(SHARE, 1, 0), x.add(SHARE, 4, 0), x.add(SHARE, 0, 0), x.add(SHARE, -1, 0), x.add(SHARE, LOW, 0),
                x.add(SHARE, HIGH, 0));
            each(BAD, x.add(SHARE, 2, -1), x.add(SHARE, 2, 2), x.add(SHARE, 2, 3), x.add(SHARE, 3, -1), x.add(SHARE, 3, 2),
                x.add(SHARE, 3, 6), x.add(SHARE, 3, 8), x.add(SHARE, 3, 11));
            due(0, x.add(SHARE, 2, 0), 1, x.add(SHARE, 2, 1), 2, x.add(SHARE, 3, 0), 3, x.add(SHARE, 3, 1), 4, x.add(SHARE, 3, 3),
                5, x.add(SHARE, 3, 7));
        });
        edge("sum and law: A 0 to 9999 (B counts nothing): the digit i of A (to the base 10, the lowest 0) less 4 is the number for the i-th FORM of 3.", () -> {
            for (int kind : new int[] {SUM, LAW}) {
                x = new ShareNets();
                each(BAD, x.add(kind, -1, 0), x.add(kind, 10000, 0), x.add(kind, LOW, 0), x.add(kind, HIGH, 0), x.add(kind, -9999, 0));
                due(0, x.add(kind, 0, LOW), 1, x.add(kind, 9999, HIGH), 2, x.add(kind, 1000, -1), 3, x.add(kind, 9, 10),
                    4, x.add(kind, 4444, 0), 5, x.add(kind, 9870, 0));
                gives(0, -12, -12, -12, -12);
                gives(1, 15, 15, 15, 15);
                gives(2, -12, -12, -12, -9);
                gives(3, 15, -12, -12, -12);
                gives(4, 0, 0, 0, 0);
                gives(5, -12, 9, 12, 15);
            }
        });
        edge("square: A, B -9 to 9.", () -> {
            due(0, x.add(SQUARE, -9, -9), 1, x.add(SQUARE, 9, 9), 2, x.add(SQUARE, -9, 9), 3, x.add(SQUARE, 9, -9), 4, x.add(SQUARE, 0, 0));
            for (int bad : new int[] {-10, 10, LOW, HIGH}) {
                each(BAD, x.add(SQUARE, bad, 0), x.add(SQUARE, 0, bad), x.add(SQUARE, bad, bad));
            }
            due(5, x.many(1));
        });
        edge("GIVES of a SHARE for the i-th FORM of 3, in thirds: share: 3 times LIFT of its FORM into that; sum, law: 3 times that number;"
            + " square: for each of three POSTS the product of what stands for the other two: A if it has a ROAD to that one, else B; all three together.", () -> {
            x.add(SHARE, 2, 0);
            x.add(SHARE, 2, 1);
            x.add(SHARE, 3, 0);
            x.add(SHARE, 3, 1);
            x.add(SHARE, 3, 3);
            x.add(SHARE, 3, 7);
            gives(0, 3, 2, 1, 0);
            gives(1, 0, 1, 2, 3);
            gives(2, 3, 0, 0, 0);
            gives(3, 0, 3, 0, 0);
            gives(4, 0, 0, 3, 0);
            gives(5, 0, 0, 0, 3);
            x = new ShareNets();
            x.add(SQUARE, 9, 9);
            x.add(SQUARE, 9, -9);
            x.add(SQUARE, -9, 9);
            x.add(SQUARE, 0, 0);
            x.add(SQUARE, 9, 0);
            x.add(SQUARE, 2, -3);
            gives(0, 243, 243, 243, 243);
            gives(1, 243, -81, -81, 243);
            gives(2, 243, -81, -81, 243);
            gives(3, 0, 0, 0, 0);
            gives(4, 0, 0, 81, 243);
            gives(5, 27, -3, -8, 12);
        });
        edge("VALUE in a NET: of the FORMS of 3 GIVES by 3 times SHARE, together; in THE LIMIT: times AT.", () -> {
            x.add(SUM, 0, 0);
            x.add(LAW, 9999, 0);
            x.add(SQUARE, 9, -9);
            x.add(SHARE, 3, 3);
            x.posts(0, 3);
            x.posts(1, 10);
            x.road(1, 0, 1, true);
            value(-4, 1, 0, 0);
            value(5, 1, 1, 0);
            value(81, 1, 2, 0);
            value(0, 1, 3, 0);
            value(-4, 1, 0, 1);
            value(369, 5, 2, 1);
            x.turn(1);
            value(1, 15, 3, 1);
            x.part(9);
            valueAt(-4, 1, 0);
            valueAt(81, 1, 2);
            valueAt(0, 1, 3);
            x.chance(0, 0, 1);
            valueAt(-4, 1, 0);
            valueAt(5, 1, 1);
            valueAt(9, 64, 3);
            valueAt(81, 4, 2);
        });
    }

    private void boundTerms() {
        edge("BOUND of a FORM of m (2, 3): the greatest of all of THE HEAP of 3 of LIFT into that, and of all SHARES of KIND square"
            + " WEIGHT by 12 times what it GIVES by 3.", () -> {
            for (int m = 2; m <= 3; m++) {
                for (int form : FORMS[m]) {
                    bound(1, 1, m, form);
                }
            }
            fillShares(SQUARE, 9, 9, 99);
            bound(8021, 2, 2, 1);
            bound(8021, 2, 3, 0);
            x = new ShareNets();
            x.out(3, 0, true);
            x.out(3, 7, true);
            bound(2, 3, 2, 1);
            bound(0, 1, 3, 7);
            fillShares(SQUARE, 9, -9, 99);
            bound(-8015, 6, 2, 1);
            bound(-8015, 6, 2, 0);
            bound(-2673, 2, 3, 7);
            for (int kind : new int[] {SHARE, SUM, LAW}) {
                x = new ShareNets();
                fillShares(kind, 3, 3, 99);
                bound(1, 1, 2, 1);
                bound(1, 1, 3, 3);
            }
            x = new ShareNets();
            fillShares(SQUARE, 9, 9, 0);
            bound(1, 1, 2, 1);
            x.weight(5, 1);
            bound(31, 4, 2, 1);
            each(NO, x.bound(1, 0, 0), x.bound(4, 0, 0));
        });
        edge("SLACK of the i-th FORM of 3: BOUND less what it is for that one.", () -> {
            slack(1, 1, 2, 1, 0);
            slack(2, 3, 2, 1, 1);
            slack(1, 3, 2, 1, 2);
            slack(0, 1, 2, 1, 3);
            fillShares(SQUARE, 9, -9, 99);
            slack(0, 1, 2, 1, 3);
            slack(1, 1, 2, 1, 0);
            slack(16040, 3, 2, 1, 1);
            x.out(3, 0, true);
            x.out(3, 7, true);
            slack(1, 3, 2, 1, 1);
            slack(0, 1, 2, 1, 2);
            slack(0, 1, 3, 7, 1);
            slack(0, 1, 3, 7, 2);
        });
        edge("TIGHT: those of THE HEAP with SLACK 0.", () -> {
            due(8, x.tight(2, 1), 1, x.tight(2, 0), 1, x.tight(3, 0), 2, x.tight(3, 1), 4, x.tight(3, 3), 8, x.tight(3, 7));
            due(1, x.out(3, 7, true), 4, x.tight(2, 1), 7, x.tight(3, 7), 1, x.out(3, 3, true), 3, x.tight(3, 7), 3, x.tight(3, 3),
                2, x.tight(2, 1));
            due(1, x.out(3, 1, true), 1, x.tight(3, 7), 1, x.tight(2, 1), 1, x.out(3, 1, false), 1, x.out(3, 3, false),
                0, x.add(SQUARE, 1, -1), 0, x.weight(0, 6));
            due(5, x.tight(2, 1), 6, x.weight(0, 5), 4, x.tight(2, 1), 5, x.weight(0, 7), 1, x.tight(2, 1));
        });
        edge("It is MET, if THE LIMIT is FREE, and AT of the FORM is BOUND.", () -> {
            x.part(1);
            x.chance(0, 0, 4);
            due(1, x.met(2, 1), 0, x.met(2, 0), 1, x.met(3, 7), 0, x.met(3, 3), 1, x.out(4, 63, true), 0, x.met(2, 1), 0, x.met(3, 7),
                1, x.out(4, 63, false), 1, x.met(2, 1));
            due(4, x.chance(0, 0, 3), 0, x.met(2, 1), 0, x.met(3, 7), 3, x.chance(0, 0, 0), 1, x.met(2, 0), 1, x.met(3, 0), 0, x.met(2, 1));
            due(1, x.out(3, 7, true), 1, x.out(3, 3, true), 1, x.out(3, 1, true), 1, x.met(2, 0), 1, x.met(2, 1), 1, x.met(3, 7),
                1, x.met(3, 0));
            due(0, x.add(SQUARE, 1, 1), 0, x.weight(0, 1), 0, x.met(2, 0), 0, x.met(2, 1), 1, x.weight(0, 0), 1, x.met(2, 1));
        });
    }

    private void shareCalls() {
        edge("A SHARE: its number. BAD; FULL.", () -> {
            for (int share = 0; share < 6; share++) {
                each(BAD, x.add(-1, 2, 1), x.add(4, 2, 1), x.add(LOW, 0, 0), x.add(HIGH, 0, 0), x.add(SHARE, 2, 2), x.add(SUM, 10000, 0),
                    x.add(SQUARE, 0, 10), x.add(LAW, -1, 0));
                due(share, x.many(1), BAD, x.shareOf(share, 0), share, x.add(share % 4, 3, 7), share % 4, x.shareOf(share, 0));
            }
            each(FULL, x.add(SHARE, 2, 1), x.add(SUM, 0, 0), x.add(SQUARE, 0, 0), x.add(LAW, 0, 0));
            each(BAD, x.add(-1, 2, 1), x.add(4, 2, 1), x.add(SHARE, 2, 2), x.add(SHARE, 4, 0), x.add(SUM, -1, 0), x.add(SQUARE, 10, 0),
                x.add(LAW, 10000, 0), x.shareOf(6, 0));
            due(6, x.many(1), 1, x.shareOf(5, 0), 3, x.shareOf(5, 1));
        });
        edge("Of a SHARE: what = 0 KIND, 1 A, 2 B, 3 WEIGHT (A, B may be as low as refusals). BAD.", () -> {
            due(0, x.add(SQUARE, -1, -2), 1, x.add(SQUARE, -4, -3), 2, x.add(SQUARE, -9, 9), 3, x.add(SHARE, 3, 7));
            due(2, x.shareOf(0, 0), -1, x.shareOf(0, 1), -2, x.shareOf(0, 2), 0, x.shareOf(0, 3), -4, x.shareOf(1, 1), -3, x.shareOf(1, 2),
                -9, x.shareOf(2, 1));
            due(0, x.weight(3, 99), 99, x.shareOf(3, 3), 7, x.shareOf(3, 2), 3, x.shareOf(3, 1), 0, x.shareOf(3, 0));
            for (int bad : new int[] {-1, 4, 5, 6, LOW, HIGH}) {
                each(BAD, x.shareOf(bad, 0), x.shareOf(3, bad), x.shareOf(bad, bad));
            }
        });
        edge("WEIGHT of a SHARE becomes v: what it was. BAD.", () -> {
            each(BAD, x.weight(0, 0), x.weight(0, 100));
            x.add(SUM, 1, 1);
            due(0, x.weight(0, 1), 1, x.weight(0, 99), 99, x.weight(0, 98), 98, x.weight(0, 0), 0, x.weight(0, 55));
            each(BAD, x.weight(0, 100), x.weight(0, -1), x.weight(0, LOW), x.weight(0, HIGH), x.weight(1, 5), x.weight(-1, 5),
                x.weight(6, 5), x.weight(LOW, 5), x.weight(HIGH, 100));
            due(55, x.shareOf(0, 3));
        });
        edge("GIVES for the i-th FORM of 3. NO: no such SHARE, i (0 to 3).", () -> {
            each(NO, x.gives(0, 0), x.gives(0, 4));
            x.add(SQUARE, 1, -1);
            gives(0, 3, -1, -1, 3);
            for (int bad : new int[] {-1, 4, 5, LOW, HIGH}) {
                each(NO, x.gives(0, bad), x.gives(bad, 0), x.gives(bad, bad), x.gives(1, bad));
            }
            due(NO, x.gives(1, 0));
        });
    }

    private void valueCalls() {
        edge("VALUE in a NET. NO: no such SHARE, NET, part; the NET has fewer than 3 POSTS.", () -> {
            x.posts(0, 3);
            due(NO, x.value(0, 0, 0), 0, x.add(SUM, 0, 0), -4, x.value(0, 0, 0), 1, x.value(0, 0, 1));
            each(NO, x.value(1, 0, 0), x.value(-1, 0, 0), x.value(6, 0, 0), x.value(LOW, 0, 0), x.value(HIGH, 0, 0), x.value(0, 0, 2),
                x.value(0, 0, -1), x.value(0, 0, LOW), x.value(0, 0, HIGH));
            for (int bad : NOT_0_TO_3) {
                each(NO, x.value(0, bad, 0), x.value(bad, bad, bad));
            }
            for (int n = 1; n <= 10; n++) {
                x.posts(1, n);
                due(n < 3 ? NO : -4, x.value(0, 1, 0), n < 3 ? NO : 1, x.value(0, 1, 1));
            }
        });
        edge("VALUE in THE LIMIT. NO: no such SHARE, part; there are no PARTS.", () -> {
            x.add(SUM, 3333, 0);
            each(NO, x.valueAt(0, 0), x.valueAt(0, 1));
            due(0, x.part(1), -1, x.valueAt(0, 0), 1, x.valueAt(0, 1));
            for (int bad : new int[] {-1, 2, LOW, HIGH}) {
                each(NO, x.valueAt(0, bad), x.valueAt(bad, 0), x.valueAt(bad, bad));
            }
            due(NO, x.valueAt(1, 0), 1, x.bare(), NO, x.valueAt(0, 0));
        });
    }

    private void boundCalls() {
        edge("BOUND. NO: m, no FORM of m, part; THE HEAP of 3 has none.", () -> {
            for (int bad : new int[] {0, 1, 4, 5, -1, LOW, HIGH}) {
                each(NO, x.bound(bad, 0, 0), x.bound(bad, 0, 1));
            }
            each(NO, x.bound(2, 2, 0), x.bound(2, -1, 0), x.bound(2, 3, 0), x.bound(3, 2, 0), x.bound(3, 11, 0), x.bound(3, LOW, 0),
                x.bound(3, HIGH, 0));
            each(NO, x.bound(2, 1, 2), x.bound(2, 1, -1), x.bound(3, 7, LOW), x.bound(3, 7, HIGH));
            bound(1, 1, 2, 1);
            x.out(3, 0, true);
            x.out(3, 1, true);
            x.out(3, 3, true);
            bound(1, 1, 2, 1);
            bound(0, 1, 2, 0);
            x.out(3, 7, true);
            each(NO, x.bound(2, 1, 0), x.bound(2, 0, 1), x.bound(3, 7, 0), x.bound(3, 0, 1));
            x.out(3, 0, false);
            bound(0, 1, 2, 1);
            x.out(2, 0, true);
            due(NO, x.bound(2, 1, 0));
        });
        edge("SLACK. NO likewise; i (0 to 3), or that one isn't of THE HEAP.", () -> {
            for (int bad : new int[] {0, 1, 4, 5, -1, LOW, HIGH}) {
                due(NO, x.slack(bad, 0, 0, 0));
            }
            each(NO, x.slack(2, 2, 0, 0), x.slack(2, -1, 0, 0), x.slack(3, 2, 0, 0), x.slack(3, 11, 0, 0), x.slack(2, 1, 0, 2),
                x.slack(2, 1, 0, -1), x.slack(2, 1, 3, HIGH));
            each(NO, x.slack(2, 1, -1, 0), x.slack(2, 1, 4, 0), x.slack(2, 1, LOW, 0), x.slack(2, 1, HIGH, 0), x.slack(2, 1, 31, 0),
                x.slack(2, 1, 32, 0), x.slack(2, 1, 33, 0));
            for (int i = 0; i <= 3; i++) {
                x.out(3, FORMS[3][i], true);
                for (int other = 0; other <= 3; other++) {
                    due(other == i ? NO : 1, x.slack(3, FORMS[3][i], other, 1));
                }
                x.out(3, FORMS[3][i], false);
            }
            allOfThreeOut();
            for (int i = -1; i <= 4; i++) {
                each(NO, x.slack(2, 1, i, 0), x.slack(3, 7, i, 1));
            }
        });
    }

    private void tightCalls() {
        edge("TIGHT ones (bits). BAD: m (2, 3), no FORM of m; NONE: THE HEAP of 3 has none.", () -> {
            wrongForms();
            due(8, x.tight(2, 1), 8, x.tight(3, 7));
            allOfThreeOut();
            each(NONE, x.tight(2, 0), x.tight(2, 1), x.tight(3, 0), x.tight(3, 7));
            wrongForms();
            due(1, x.out(3, 1, false), 2, x.tight(2, 0), 2, x.tight(2, 1), 2, x.tight(3, 7));
            x = new ShareNets();
            noneOfFourFree();
            due(1, x.tight(2, 0), 8, x.tight(2, 1), 9, x.tight(3, 3), 1, x.bound(2, 1, 0), 0, x.slack(2, 1, 3, 0), NO, x.slack(2, 1, 1, 0));
        });
        edge("Whether it is MET: 1, 0. BAD likewise; NONE: THE HEAP of 3 has none, there are no PARTS.", () -> {
            wrongForms();
            each(NONE, x.met(2, 0), x.met(2, 1), x.met(3, 0), x.met(3, 7));
            x.part(1);
            due(1, x.met(2, 0), 0, x.met(2, 1), 1, x.met(3, 0), 0, x.met(3, 7));
            wrongForms();
            allOfThreeOut();
            each(NONE, x.met(2, 0), x.met(2, 1), x.met(3, 0), x.met(3, 7));
            wrongForms();
            x.bare();
            due(NONE, x.met(2, 0), 1, x.out(3, 0, false), NONE, x.met(2, 0), 0, x.part(2), 1, x.met(2, 0));
            x = new ShareNets();
            noneOfFourFree();
            x.part(1);
            each(0, x.met(2, 0), x.met(2, 1), x.met(3, 0), x.met(3, 7));
        });
    }

    private void wrongForms() {
        for (int bad : new int[] {0, 1, 4, 5, -1, LOW, HIGH}) {
            each(BAD, x.tight(bad, 0), x.met(bad, 0));
        }
        each(BAD, x.tight(2, 2), x.tight(2, -1), x.tight(3, 2), x.tight(3, 11), x.tight(3, LOW), x.tight(3, HIGH));
        each(BAD, x.met(2, 2), x.met(2, -1), x.met(3, 2), x.met(3, 11), x.met(3, LOW), x.met(3, HIGH));
    }
}
