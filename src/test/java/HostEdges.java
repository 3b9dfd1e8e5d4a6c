import java.util.Arrays;

/** Edges of acts, sheets, shelves and what is kept: section 4 of the terms, promises 43 to 52. */
final class HostEdges extends Edges {
    private static final int COUNTS = 0, JOINS = 1, PARTS = 2, TELLS = 3;

    HostEdges(Check check) {
        super(check);
    }

    void run() {
        actTerms();
        bodyTerms();
        heldTerms();
        sheetCalls();
        shelfCalls();
        actCalls();
        keptCalls();
    }

    /** Shares 0 to 5, of which those from 0 to 3 stand on the shelves. */
    private void sharesOnShelves(int[]... kindAThenB) {
        x = new ShareNets();
        for (int[] one : kindAThenB) {
            int number = x.add(one[0], one[1], one[2]);
            if (number < 4) {
                x.shelf(number, 0, number);
            }
        }
    }

    private void acted(long want, int shelf, int act, int number, int... bodies) {
        due(want, x.act(shelf, act, number));
        traceIs(bodies);
    }

    private void actTerms() {
        edge("ACTS of things, with a number x (ints that wrap): 0 counts, 1 joins, 2 parts, 3 tells.", () -> {
            sharesOnShelves(new int[] {0, 3, 7}, new int[] {1, 0, 0}, new int[] {2, 1, 0}, new int[] {3, 9999, 0});
            acted(HIGH, 0, COUNTS, HIGH, 10);
            acted(-2, 0, JOINS, HIGH, 11, 10);
            acted(LOW / 3, 0, PARTS, LOW, 12);
            acted(-2 ^ 3, 0, TELLS, HIGH, 13, 11, 10);
            acted(LOW, 1, COUNTS, HIGH, 10);
            acted(0, 1, JOINS, HIGH, 20, 11, 10);
            acted(LOW, 1, PARTS, HIGH, 21, 12);
            acted(HIGH, 1, PARTS, LOW, 21, 12);
            acted((LOW + 1) * 3, 2, COUNTS, HIGH, 30, 10);
            acted(LOW, 2, PARTS, HIGH, 21, 12);
            acted(HIGH - 1, 3, COUNTS, HIGH, 40, 10);
            acted(LOW, 3, COUNTS, HIGH - 2, 40, 10);
            acted(-4 - 9999, 3, JOINS, HIGH, 20, 11, 40, 10);
            each(0, x.act(0, 4, 5), x.act(0, -1, 5), x.act(0, LOW, 5), x.act(0, HIGH, 5));
        });
    }

    private void bodyTerms() {
        edge("A SHARE is held as a thing of its KIND; n: its number, a: its A. BODIES, each with its number:", () -> {
            for (int kind = 0; kind < 4; kind++) {
                x = new ShareNets();
                for (int number = 0; number < 6; number++) {
                    x.add(kind, kind == 0 ? 3 : 9, 1);
                    x.shelf(0, 0, number);
                    int counted = kind == 2 ? 3 * (100 + number) : kind == 3 ? -100 - number : 100 + number;
                    due(counted, x.act(0, COUNTS, 100), number, x.taken(0, kind),
                        kind == 0 ? 10 : kind == 2 ? 30 : kind == 3 ? 40 : 10, x.trace(0));
                    if (kind == 1 || kind == 3) {
                        due(counted * 2 - 9, x.act(0, JOINS, 100));
                    }
                }
            }
        });
        edge("share: 10 counts: x + n. 11 joins: counts(x) * 2. 12 parts: x by (a - n), the rest away (-15 if these are the same;"
            + " that is all that act() answers then). 13 tells: joins(x) ^ a.", () -> {
            for (int number = 0; number < 6; number++) {
                x.add(0, 2, 1);
            }
            int[] parted = {-7 / 2, -7, BY_0, 7, 3, 2};
            for (int number = 0; number < 6; number++) {
                x.shelf(0, 0, number);
                acted(number - 7, 0, COUNTS, -7, 10);
                acted(2 * number - 14, 0, JOINS, -7, 11, 10);
                acted(parted[number], 0, PARTS, -7, 12);
                acted((2 * number - 14) ^ 2, 0, TELLS, -7, 13, 11, 10);
            }
            x.shelf(1, 0, 3);
            due(LOW, x.act(1, PARTS, LOW), LOW + 1, x.act(1, PARTS, HIGH), 0, x.act(0, PARTS, 2), 0, x.act(0, PARTS, -2),
                -1, x.act(0, PARTS, 3));
            x.shelf(1, 0, 2);
            due(BY_0, x.act(1, PARTS, 0), BY_0, x.act(1, PARTS, LOW), 0, x.act(1, COUNTS, -2), -15, x.act(1, COUNTS, -17));
        });
        edge("sum: 20 joins: super.joins(x) - a. 21 parts: super.parts(x + 1).", () -> {
            sharesOnShelves(new int[] {1, 9999, 0}, new int[] {1, 1, 0}, new int[] {1, 0, 0}, new int[] {1, 4, 0});
            acted(-9999, 0, JOINS, LOW, 20, 11, 10);
            acted(2 * 9999 - 9999, 0, JOINS, 9999, 20, 11, 10);
            acted(1, 0, PARTS, 9998, 21, 12);
            acted(0, 0, PARTS, 9997, 21, 12);
            acted(0, 0, PARTS, -1, 21, 12);
            acted(-214769, 0, PARTS, HIGH, 21, 12);
            acted(BY_0, 1, PARTS, 5, 21, 12);
            acted(11, 1, JOINS, 5, 20, 11, 10);
            acted(-3, 2, PARTS, 5, 21, 12);
            acted(6, 3, PARTS, 5, 21, 12);
            acted(11 ^ 1, 1, TELLS, 5, 13, 20, 11, 10);
        });
        edge("square: 30 counts: super.counts(x) * 3. 31 joins: super.joins(x) + parts(n).", () -> {
            sharesOnShelves(new int[] {2, 0, 5}, new int[] {2, -9, 5}, new int[] {2, 9, 5}, new int[] {2, 3, 5});
            acted(15, 0, COUNTS, 5, 30, 10);
            acted(BY_0, 0, JOINS, 5, 31, 20, 11, 30, 10, 21, 12);
            acted(BY_0, 0, TELLS, 5, 13, 31, 20, 11, 30, 10, 21, 12);
            acted(BY_0, 0, PARTS, 5, 21, 12);
            acted(18, 1, COUNTS, 5, 30, 10);
            acted(36 + 9 + 2 / -10, 1, JOINS, 5, 31, 20, 11, 30, 10, 21, 12);
            acted(-1, 1, PARTS, 9, 21, 12);
            acted(45 ^ -9, 1, TELLS, 5, 13, 31, 20, 11, 30, 10, 21, 12);
            acted(42 - 9 + 0, 2, JOINS, 5, 31, 20, 11, 30, 10, 21, 12);
            acted(BY_0, 3, JOINS, 5, 31, 20, 11, 30, 10, 21, 12);
            acted(24, 3, COUNTS, 5, 30, 10);
            x.add(2, 5, 0);
            x.add(2, 4, 0);
            x.shelf(0, 0, 4);
            x.shelf(1, 0, 5);
            acted(54 - 5 + 5, 0, JOINS, 5, 31, 20, 11, 30, 10, 21, 12);
            acted(60 - 4 - 6, 1, JOINS, 5, 31, 20, 11, 30, 10, 21, 12);
        });
        edge("law: 40 counts: 0 - super.counts(x). 41 tells: super.tells(x) * 2.", () -> {
            sharesOnShelves(new int[] {3, 0, 5}, new int[] {3, 9999, 5}, new int[] {3, 2, 5}, new int[] {3, 4, 5});
            acted(LOW, 0, COUNTS, LOW, 40, 10);
            acted(LOW + 1, 0, COUNTS, HIGH, 40, 10);
            acted(0, 0, COUNTS, 0, 40, 10);
            acted(BY_0, 0, PARTS, 0, 21, 12);
            acted(-10, 0, JOINS, 5, 20, 11, 40, 10);
            acted(-20, 0, TELLS, 5, 41, 13, 20, 11, 40, 10);
            acted((-12 - 9999 ^ 9999) * 2, 1, TELLS, 5, 41, 13, 20, 11, 40, 10);
            acted(BY_0, 2, PARTS, -1, 21, 12);
            acted((-14 - 2 ^ 2) * 2, 2, TELLS, 5, 41, 13, 20, 11, 40, 10);
            acted(6, 3, PARTS, 5, 21, 12);
        });
        edge("THE TRACE: numbers of the bodies that ran in the latest act() (one that answers -15, too), as they began (left first); the first 30 are kept.", () -> {
            traceIs();
            sharesOnShelves(new int[] {2, 0, 5}, new int[] {1, 1, 0}, new int[] {0, 2, 0}, new int[] {3, 9, 0});
            acted(BY_0, 0, TELLS, 5, 13, 31, 20, 11, 30, 10, 21, 12);
            acted(6, 1, COUNTS, 5, 10);
            acted(BY_0, 1, PARTS, 5, 21, 12);
            acted(BY_0, 2, PARTS, 5, 12);
            acted(0, 2, 4, 5);
            acted((-16 - 9 ^ 9) * 2, 3, TELLS, 5, 41, 13, 20, 11, 40, 10);
            x.seed(1);
            x.taken(0, 0);
            x.keep();
            x.again();
            traceIs(41, 13, 20, 11, 40, 10);
            each(NONE, x.trace(6), x.trace(7), x.trace(29), x.trace(30), x.trace(-1));
        });
    }

    private void heldTerms() {
        edge("SHEETS 0 to 3 are rows of bytes (sort 0), shorts (1), ints (2) or longs (3), 40 at most, or missing (at first).", () -> {
            for (int sheet = 0; sheet < 4; sheet++) {
                for (int sort = 0; sort < 4; sort++) {
                    due(NOTHING, x.item(sheet, sort, 0), BAD, x.sheet(sheet, sort, 41), NOTHING, x.item(sheet, sort, 0),
                        SIZE, x.sheet(sheet, sort, -1));
                    due(1, x.sheet(sheet, sort, 40), 0, x.item(sheet, sort, 39), OUTSIDE, x.item(sheet, sort, 40),
                        1, x.sheet(sheet, -1, 0));
                }
                each(BAD, x.sheet(sheet, 4, 1), x.sheet(sheet, -2, 1));
            }
            for (int bad : NOT_0_TO_3) {
                each(BAD, x.sheet(bad, 0, 1), x.put(bad, 0, 1), x.item(bad, 0, 0), x.rows(0, bad), x.shelf(0, 1, bad));
            }
        });
        edge("SHELVES 0 to 3 hold a SHARE (by its number; nothing, if there is no such one any more), a SHEET's row (that of then), or nothing (at first).", () -> {
            x.add(1, 7, 0);
            x.keep();
            x.add(3, 7, 0);
            x.sheet(0, 1, 5);
            for (int shelf = 0; shelf < 4; shelf++) {
                due(NOTHING, x.taken(shelf, 0), NOTHING, x.taken(shelf, 10), 0, x.act(shelf, COUNTS, 5));
                due(1, x.shelf(shelf, 0, shelf % 2), shelf % 2, x.taken(shelf, 1), shelf % 2 == 0 ? 5 : -6, x.act(shelf, COUNTS, 5));
            }
            for (int bad : NOT_0_TO_3) {
                each(BAD, x.shelf(bad, 0, 0), x.shelf(bad, 2, 0), x.taken(bad, 0));
            }
            due(1, x.again(), 0, x.taken(0, 1), NOTHING, x.taken(1, 1), NOTHING, x.taken(1, 3), NOTHING, x.taken(1, 11),
                NOTHING, x.taken(3, 0), 0, x.act(1, COUNTS, 5), 0, x.many(5));
            due(1, x.shelf(1, 1, 0), 1, x.sheet(0, 2, 9), 5, x.taken(1, 11), OTHER, x.taken(1, 12), 1, x.sheet(0, -1, 0), 5, x.taken(1, 11),
                1, x.shelf(2, 1, 0), NOTHING, x.taken(2, 11));
            due(1, x.again(), 5, x.taken(1, 11), 0, x.taken(0, 1), BAD, x.shelf(0, 0, 1), 0, x.taken(0, 1));
        });
    }

    private void sheetCalls() {
        edge("A SHEET becomes a row of n of a sort, all 0, or missing (sort -1; n counts nothing then): 1.", () -> {
            for (int sort = 0; sort < 4; sort++) {
                due(1, x.sheet(sort, sort, 40), 0, x.item(sort, sort, 0), 0, x.item(sort, sort, 39), OUTSIDE, x.item(sort, sort, 40));
                for (int i = 0; i < 40; i++) {
                    x.put(sort, i, -1);
                }
                due(-1, x.item(sort, sort, 39), 1, x.sheet(sort, sort, 40), 0, x.item(sort, sort, 0), 0, x.item(sort, sort, 20),
                    0, x.item(sort, sort, 39));
                due(1, x.put(sort, 0, 7), 1, x.sheet(sort, sort, 1), 0, x.item(sort, sort, 0), OUTSIDE, x.item(sort, sort, 1),
                    1, x.sheet(sort, sort, 0), OUTSIDE, x.item(sort, sort, 0));
            }
            for (int n : new int[] {0, 40, 41, -1, LOW, HIGH}) {
                due(1, x.sheet(0, 0, 3), 0, x.item(0, 0, 2), 1, x.sheet(0, -1, n), NOTHING, x.item(0, 0, 2), 1, x.sheet(0, -1, n));
            }
        });
        edge("BAD: no such SHEET, sort, n above 40; -14.", () -> {
            x.sheet(1, 2, 3);
            x.put(1, 2, 5);
            for (int bad : NOT_0_TO_3) {
                each(BAD, x.sheet(bad, 0, 1), x.sheet(bad, -1, 1), x.sheet(bad, 0, 41), x.sheet(bad, 0, -1), x.sheet(bad, 4, -1));
            }
            for (int bad : new int[] {-2, 4, LOW, HIGH}) {
                each(BAD, x.sheet(1, bad, 1), x.sheet(1, bad, 41), x.sheet(1, bad, -1), x.sheet(1, bad, 0));
            }
            each(BAD, x.sheet(1, 0, 41), x.sheet(1, 3, 41), x.sheet(1, 2, HIGH));
            each(SIZE, x.sheet(1, 0, -1), x.sheet(1, 3, -1), x.sheet(1, 2, LOW));
            due(5, x.item(1, 2, 2), OUTSIDE, x.item(1, 2, 3), 1, x.sheet(1, 2, 40), 1, x.sheet(1, 2, 0));
        });
        edge("Item i becomes v, narrowed to its sort: 1.", () -> {
            int[][] told = {{127, 128, -128, -129, 255, 256, LOW, HIGH}, {32767, 32768, -32768, -32769, 65535, 65536, LOW, HIGH},
                {HIGH, LOW, -1, 0, 65536, -65537, 1, 2}, {HIGH, LOW, -1, 0, 65536, -65537, 1, 2}};
            int[][] held = {{127, -128, -128, 127, -1, 0, 0, -1}, {32767, -32768, -32768, 32767, -1, 0, 0, -1}, told[2], told[3]};
            for (int sort = 0; sort < 4; sort++) {
                x.sheet(sort, sort, 40);
                for (int i = 0; i < 8; i++) {
                    due(1, x.put(sort, 39 - i, told[sort][i]), held[sort][i], x.item(sort, sort, 39 - i));
                }
                due(0, x.item(sort, sort, 31), held[sort][0], x.item(sort, sort, 39), 1, x.put(sort, 0, 1), 1, x.item(sort, sort, 0));
            }
        });
        edge("BAD: no such SHEET; -11; -12.", () -> {
            each(NOTHING, x.put(0, 0, 1), x.put(3, -1, 1), x.put(1, 40, 1), x.put(2, LOW, 1));
            for (int sort = 0; sort < 4; sort++) {
                x.sheet(sort, sort, 3);
                each(OUTSIDE, x.put(sort, 3, 1), x.put(sort, -1, 1), x.put(sort, 39, 1), x.put(sort, 40, 1), x.put(sort, LOW, 1),
                    x.put(sort, HIGH, 1));
                due(1, x.put(sort, 2, 1), 1, x.put(sort, 0, 1), 1, x.sheet(sort, sort, 0), OUTSIDE, x.put(sort, 0, 1),
                    1, x.sheet(sort, sort, 40), 1, x.put(sort, 39, 1), OUTSIDE, x.put(sort, 40, 1));
            }
            for (int bad : NOT_0_TO_3) {
                each(BAD, x.put(bad, 0, 1), x.put(bad, -1, 1), x.put(bad, 40, 1));
            }
        });
        edge("Item i, taken for a sort (0 to 3; of longs the lowest 32 bits).", () -> {
            for (int sort = 0; sort < 4; sort++) {
                x.sheet(sort, sort, 40);
                x.put(sort, 0, 100);
                x.put(sort, 39, -100);
                for (int as = 0; as < 4; as++) {
                    due(as == sort ? 100 : OTHER, x.item(sort, as, 0), as == sort ? -100 : OTHER, x.item(sort, as, 39));
                }
            }
            due(1, x.put(3, 5, LOW), LOW, x.item(3, 3, 5), 1, x.put(3, 5, HIGH), HIGH, x.item(3, 3, 5), 1, x.put(3, 5, -1),
                -1, x.item(3, 3, 5));
        });
        edge("BAD: no such SHEET, sort; -11; -13; -12.", () -> {
            x.sheet(1, 1, 3);
            x.sheet(2, 2, 0);
            for (int bad : NOT_0_TO_3) {
                each(BAD, x.item(bad, 1, 0), x.item(0, bad, 0), x.item(1, bad, 0), x.item(bad, bad, 99), x.item(1, bad, 99),
                    x.item(bad, 0, -1));
            }
            each(NOTHING, x.item(0, 0, 0), x.item(0, 3, 0), x.item(0, 1, 99), x.item(0, 1, -1));
            each(OTHER, x.item(1, 0, 0), x.item(1, 2, 0), x.item(1, 3, 99), x.item(1, 0, -1), x.item(2, 1, 0));
            each(OUTSIDE, x.item(1, 1, 3), x.item(1, 1, -1), x.item(1, 1, LOW), x.item(1, 1, HIGH), x.item(1, 1, 40), x.item(2, 2, 0));
            due(0, x.item(1, 1, 2), 0, x.item(1, 1, 0));
        });
        edge("(An item may be as low as these, too.)", () -> {
            for (int sort = 0; sort < 4; sort++) {
                x.sheet(sort, sort, 1);
                for (int low : new int[] {-1, -11, -12, -13}) {
                    due(1, x.put(sort, 0, low), low, x.item(sort, sort, 0));
                }
            }
        });
    }

    private void shelfCalls() {
        edge("A SHELF holds SHARE n (what 0), the row of SHEET n (1; nothing, if missing), nothing (2): 1.", () -> {
            for (int share = 0; share < 6; share++) {
                due(BAD, x.shelf(0, 0, share), share, x.add(1, 9, 0), 1, x.shelf(0, 0, share), share, x.taken(0, 1));
            }
            x.sheet(3, 3, 40);
            x.sheet(2, 0, 0);
            due(1, x.shelf(0, 1, 3), 40, x.taken(0, 13), 1, x.shelf(0, 1, 2), 0, x.taken(0, 10), 1, x.shelf(0, 1, 0),
                NOTHING, x.taken(0, 10), NOTHING, x.taken(0, 0));
            due(1, x.shelf(0, 0, 5), 5, x.taken(0, 0), 1, x.shelf(0, 1, 1), NOTHING, x.taken(0, 0), 1, x.shelf(0, 0, 5),
                1, x.shelf(0, 2, 0), NOTHING, x.taken(0, 0));
            for (int n : new int[] {-1, 6, LOW, HIGH}) {
                due(1, x.shelf(3, 0, 1), 1, x.shelf(3, 2, n), NOTHING, x.taken(3, 0));
            }
        });
        edge("BAD: no such SHELF, what, thing.", () -> {
            x.add(3, 9, 0);
            x.sheet(0, 2, 7);
            x.shelf(0, 0, 0);
            x.shelf(1, 1, 0);
            for (int shelf = 0; shelf < 2; shelf++) {
                for (int bad : new int[] {-1, 3, 4, LOW, HIGH}) {
                    each(BAD, x.shelf(shelf, bad, 0), x.shelf(shelf, bad, 9));
                }
                each(BAD, x.shelf(shelf, 0, 1), x.shelf(shelf, 0, -1), x.shelf(shelf, 0, 6), x.shelf(shelf, 0, LOW),
                    x.shelf(shelf, 0, HIGH));
                each(BAD, x.shelf(shelf, 1, 4), x.shelf(shelf, 1, -1), x.shelf(shelf, 1, LOW), x.shelf(shelf, 1, HIGH));
            }
            for (int bad : NOT_0_TO_3) {
                each(BAD, x.shelf(bad, 0, 0), x.shelf(bad, 1, 0), x.shelf(bad, 2, 0), x.shelf(bad, 3, 0));
            }
            due(0, x.taken(0, 3), 7, x.taken(1, 12), NOTHING, x.taken(2, 0), NOTHING, x.taken(3, 0));
        });
        edge("What a SHELF holds taken for a thing of KIND as (0 to 3, or one under it): its number;"
            + " for a row of sort as - 10 (as 10 to 13): how many items.", () -> {
            for (int kind = 0; kind < 4; kind++) {
                x.add(kind, 2, 1);
            }
            x.add(2, 0, 0);
            x.add(3, 0, 0);
            long[][] under = {{0, OTHER, OTHER, OTHER}, {1, 1, OTHER, OTHER}, {2, 2, 2, OTHER}, {3, 3, OTHER, 3}, {4, 4, 4, OTHER}, {5, 5, OTHER, 5}};
            for (int share = 0; share < 6; share++) {
                x.shelf(3, 0, share);
                for (int as = 0; as < 4; as++) {
                    due(under[share][as], x.taken(3, as), OTHER, x.taken(3, 10 + as));
                }
            }
            for (int sort = 0; sort < 4; sort++) {
                for (int n : new int[] {0, 1, 40}) {
                    x.sheet(0, sort, n);
                    x.shelf(3, 1, 0);
                    for (int as = 0; as < 4; as++) {
                        due(OTHER, x.taken(3, as), as == sort ? n : OTHER, x.taken(3, 10 + as));
                    }
                }
            }
        });
        edge("BAD: no such SHELF, as; -11; -13.", () -> {
            x.add(3, 9, 0);
            x.sheet(0, 2, 7);
            x.shelf(0, 0, 0);
            x.shelf(1, 1, 0);
            for (int shelf = 0; shelf < 4; shelf++) {
                for (int bad : new int[] {-1, 4, 5, 8, 9, 14, 15, LOW, LOW + 10, HIGH}) {
                    due(BAD, x.taken(shelf, bad));
                }
            }
            for (int bad : NOT_0_TO_3) {
                each(BAD, x.taken(bad, 0), x.taken(bad, 3), x.taken(bad, 10), x.taken(bad, 13), x.taken(bad, 4));
            }
            each(NOTHING, x.taken(2, 0), x.taken(2, 3), x.taken(3, 10), x.taken(3, 13));
            each(OTHER, x.taken(0, 2), x.taken(0, 10), x.taken(0, 13), x.taken(1, 0), x.taken(1, 3), x.taken(1, 10), x.taken(1, 13));
            due(0, x.taken(0, 3), 7, x.taken(1, 12));
        });
    }

    private void actCalls() {
        edge("An ACT (0 to 3) of the thing on a SHELF, with x. 0, and no TRACE (it is empty) then: no such SHELF, act, nothing, a row.", () -> {
            x.add(1, 9, 0);
            x.sheet(0, 2, 3);
            x.shelf(0, 0, 0);
            x.shelf(1, 1, 0);
            for (int act = 0; act <= 3; act++) {
                for (int shelf = -1; shelf <= 4; shelf++) {
                    due(5, x.act(0, COUNTS, 5), 1, x.many(5));
                    if (shelf != 0) {
                        acted(0, shelf, act, 5);
                    }
                }
            }
            for (int bad : NOT_0_TO_3) {
                due(5, x.act(0, COUNTS, 5));
                acted(0, 0, bad, 5);
                due(5, x.act(0, COUNTS, 5));
                acted(0, bad, COUNTS, 5);
                acted(0, bad, bad, 5);
            }
            acted(0, 0, COUNTS, 0, 10);
            acted(0, 0, PARTS, 0, 21, 12);
            for (Scene scene : Scene.values()) {
                due(1, Arrays.equals(Picture.ofWorld(scene.make()), Picture.ofWorld(afterActs(scene, 4))) ? 1 : 0);
                due(1, Arrays.equals(Picture.ofHost(afterActs(scene, 0)), Picture.ofHost(afterActs(scene, 4))) ? 1 : 0);
            }
        });
        edge("THE TRACE's i-th body. NONE.", () -> {
            each(NONE, x.trace(0), x.trace(-1), x.trace(1));
            x.add(2, 5, 0);
            x.shelf(0, 0, 0);
            x.act(0, TELLS, 1);
            due(13, x.trace(0), 12, x.trace(7), NONE, x.trace(8), NONE, x.trace(-1), NONE, x.trace(29), NONE, x.trace(30),
                NONE, x.trace(31), NONE, x.trace(LOW), NONE, x.trace(HIGH));
            x.act(0, PARTS, 1);
            due(21, x.trace(0), 12, x.trace(1), NONE, x.trace(2), 0, x.act(4, 0, 0), NONE, x.trace(0));
        });
        edge("How many: what = 0 PARTS, 1 SHARES, 2 FORMS that are OUT, 3 ROWS, 4 bytes of THE TAPE, 5 bodies of THE TRACE (those kept, 30 at most). BAD: another what.", () -> {
            for (int what = 0; what <= 5; what++) {
                due(0, x.many(what));
            }
            ShareNets full = Scene.FULL.make();
            due(5, full.many(0), 6, full.many(1), 4, full.many(2), full.prove(1, 4), full.many(3), 160, full.many(4), 8, full.many(5));
            for (int bad : new int[] {-1, 6, 7, LOW, HIGH}) {
                each(BAD, x.many(bad), full.many(bad));
            }
        });
    }

    /** Acts on so many shelves, at the end one without a trace. */
    private static ShareNets afterActs(Scene scene, int shelves) {
        ShareNets one = scene.make();
        for (int shelf = 0; shelf < shelves; shelf++) {
            for (int act = -1; act <= 4; act++) {
                one.act(shelf, act, 7);
            }
        }
        one.act(4, COUNTS, 7);
        return one;
    }

    private void keptCalls() {
        edge("NETS, what is OUT, THE LIMIT, SHARES and z are kept: 1.", () -> {
            for (Scene scene : Scene.values()) {
                x = scene.make();
                long[] before = Picture.ofWorld(x);
                x = scene.make();
                due(1, x.keep());
                ruin();
                x.again();
                sameUpToKept(before, Picture.ofWorld(x));
            }
            x = Scene.FULL.make();
            long[] host = Picture.ofHost(x);
            x = Scene.FULL.make();
            x.keep();
            x.again();
            due(1, Arrays.equals(host, Picture.ofHost(x)) ? 1 : 0);
        });
        edge("They become what was kept latest (which stays): 1. NONE: nothing is kept.", () -> {
            due(NONE, x.again(), 3, x.posts(0, 3), NONE, x.again(), 3, x.netOf(0, 0));
            due(1, x.keep(), 1, x.again(), 3, x.netOf(0, 0), 5, x.posts(0, 5), 1, x.keep(), 7, x.posts(0, 7), 1, x.again(),
                5, x.netOf(0, 0));
            due(10, x.turn(0), 1, x.again(), 0, x.netOf(0, 1), 1, x.again(), 5, x.netOf(0, 0));
            x = Scene.ORDINARY.make();
            due(17, x.many(4), 4, x.many(3), 4, x.many(1), 1, x.again(), 17, x.many(4), 4, x.many(3), 1, x.many(1), 8, x.many(5));
            due(5, x.item(1, 1, 1), 5, x.taken(1, 12), NOTHING, x.taken(0, 0), NOTHING, x.taken(3, 0));
        });
    }

    /** All that is kept becomes something else. */
    private void ruin() {
        x.bare();
        x.blow(x.posts(0, 1) - 1);
        for (int net = 0; net < 4; net++) {
            x.posts(net, 8);
            x.turn(net);
        }
        for (int m = 2; m <= 4; m++) {
            for (int form : FORMS[m]) {
                x.out(m, form, x.out(m, form, false) == 0);
            }
        }
        for (int share = 0; share < 6; share++) {
            x.add(0, 2, 1);
            x.weight(share, 50);
        }
        x.seed(123);
    }

    /** The first half of a picture is what is, the second what is kept. */
    private void sameUpToKept(long[] before, long[] after) {
        int half = before.length / 2;
        for (int i = 0; i < half; i++) {
            due(before[i], after[i]);
            if (after.length > half + 1 + i) {
                due(before[i], after[half + 1 + i]);
            }
        }
    }
}
