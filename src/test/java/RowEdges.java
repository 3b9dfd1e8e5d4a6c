/** Edges of rows: section 4 of the terms, promises 39 to 42. */
final class RowEdges extends Edges {
    private static final int NO_ROW = -9, FEWER = 222;

    RowEdges(Check check) {
        super(check);
    }

    void run() {
        edge("ROWS of a NET by m: (FORM, COUNT) of each FORM of m with a COUNT above 0, from the least on.", this::rowsByCount);
        edge("THE READER takes ROWS as those of a NET by m: right is one that is as it must be; if all are, but there are fewer: 222.", this::fewerAndMore);
        edge("ROWS of a NET by m (1 to 4): how many. BAD.", this::proveCalls);
        edge("Of ROW i: what = 0 FORM, 1 COUNT. -9: there is none such, another what.", this::rowCalls);
        edge("It becomes v: what it was. -9 likewise.", this::alterRowCalls);
        edge("THE READER takes ROWS as those of a NET by m: 0 all is right; else the first ROW that isn't, and 1 more; 222. BAD.", this::judgeCalls);
    }

    private void rowsAre(int... formsAndCounts) {
        int rows = formsAndCounts.length / 2;
        due(rows, x.many(3), NO_ROW, x.row(rows, 0), NO_ROW, x.row(rows, 1));
        for (int i = 0; i < rows; i++) {
            due(formsAndCounts[2 * i], x.row(i, 0), formsAndCounts[2 * i + 1], x.row(i, 1));
        }
    }

    /** Ten posts among which every form of four stands: as many rows as there can be. */
    private void elevenRows(int net) {
        x.posts(net, 10);
        x.seed(0);
        x.mixed(net, 2);
        due(11, x.prove(net, 4));
    }

    private void rowsByCount() {
        rowsAre();
        x.prove(0, 1);
        rowsAre(0, 1);
        for (int m = 2; m <= 4; m++) {
            x.prove(0, 1);
            due(0, x.prove(0, m));
            rowsAre();
        }
        x.posts(0, 10);
        x.prove(0, 4);
        rowsAre(0, 210);
        x.turn(0);
        x.prove(0, 4);
        rowsAre(63, 210);
        x.prove(0, 1);
        rowsAre(0, 10);
        net(0, "posts 5;road 0 1 2;");
        x.prove(0, 2);
        rowsAre(0, 8, 1, 2);
        x.prove(0, 3);
        rowsAre(0, 5, 1, 4, 3, 1);
        x.prove(0, 4);
        rowsAre(0, 1, 1, 2, 3, 2);
        x.posts(0, 4);
        rowsAre(0, 1, 1, 2, 3, 2);
        elevenRows(0);
        for (int i = 0; i < 11; i++) {
            due(FORMS[4][i], x.row(i, 0), x.count(0, 4, FORMS[4][i]), x.row(i, 1));
        }
        due(NO_ROW, x.row(11, 0), 0, x.prove(1, 4), NO_ROW, x.row(0, 0));
    }

    private void fewerAndMore() {
        due(FEWER, x.judge(0, 1), 0, x.judge(0, 2), 0, x.judge(0, 4));
        x.posts(1, 3);
        net(2, "posts 3;road 0 1;");
        due(1, x.prove(1, 2), 1, x.judge(2, 2), 3, x.alterRow(0, 1, 2), FEWER, x.judge(2, 2), 1, x.judge(1, 2));
        due(2, x.prove(2, 2), 0, x.judge(2, 2), 1, x.judge(1, 2), 2, x.alterRow(0, 1, 3), 2, x.judge(1, 2), 1, x.judge(0, 2));
        elevenRows(3);
        due(0, x.judge(3, 4), 1, x.judge(0, 2), 1, x.judge(3, 3));
        x.prove(0, 3);
        due(FEWER, x.judge(3, 4), FEWER, x.judge(2, 3), 0, x.judge(0, 3));
    }

    private void proveCalls() {
        net(0, "posts 4;road 0 1;");
        due(1, x.prove(0, 1), 2, x.prove(0, 2), 2, x.prove(0, 3), 1, x.prove(0, 4), 1, x.many(3), 1, x.row(0, 0), 2, x.prove(0, 2));
        each(BAD, x.prove(0, 0), x.prove(0, 5), x.prove(0, -1), x.prove(0, LOW), x.prove(0, HIGH));
        for (int bad : NOT_0_TO_3) {
            each(BAD, x.prove(bad, 1), x.prove(bad, 5));
        }
        rowsAre(0, 5, 1, 1);
        due(0, x.prove(3, 4), 0, x.many(3), 1, x.prove(3, 1), 1, x.many(3));
    }

    private void rowCalls() {
        each(NO_ROW, x.row(0, 0), x.row(0, 1), x.row(-1, 0));
        elevenRows(0);
        due(0, x.row(0, 0), 63, x.row(10, 0));
        for (int bad : new int[] {-1, 11, 12, LOW, HIGH}) {
            each(NO_ROW, x.row(bad, 0), x.row(bad, 1), x.row(bad, 2));
        }
        for (int bad : new int[] {-1, 2, LOW, HIGH}) {
            each(NO_ROW, x.row(0, bad), x.row(10, bad), x.row(11, bad));
        }
        x.posts(1, 3);
        due(1, x.prove(1, 2), 3, x.row(0, 1), NO_ROW, x.row(1, 0), NO_ROW, x.row(1, 1));
    }

    private void alterRowCalls() {
        each(NO_ROW, x.alterRow(0, 0, 1), x.alterRow(0, 1, 1), x.alterRow(-1, 0, 1));
        x.posts(1, 3);
        x.prove(1, 2);
        due(0, x.alterRow(0, 0, LOW), LOW, x.alterRow(0, 0, HIGH), HIGH, x.alterRow(0, 0, -9), -9, x.row(0, 0), 3, x.alterRow(0, 1, -1),
            -1, x.row(0, 1));
        for (int bad : new int[] {-1, 1, 11, LOW, HIGH}) {
            each(NO_ROW, x.alterRow(bad, 0, 5), x.alterRow(bad, 1, 5), x.alterRow(bad, 2, 5));
        }
        for (int bad : new int[] {-1, 2, LOW, HIGH}) {
            each(NO_ROW, x.alterRow(0, bad, 5), x.alterRow(1, bad, 5));
        }
        rowsAre(-9, -1);
        elevenRows(2);
        due(63, x.alterRow(10, 0, 62), 62, x.row(10, 0), NO_ROW, x.alterRow(11, 0, 1), 11, x.many(3), 11, x.prove(2, 4), 63, x.row(10, 0));
    }

    private void judgeCalls() {
        elevenRows(0);
        for (int i = 10; i >= 0; i--) {
            int form = x.row(i, 0);
            int count = x.row(i, 1);
            due(form, x.alterRow(i, 0, form + 1), i + 1, x.judge(0, 4), form + 1, x.alterRow(i, 0, form), 0, x.judge(0, 4));
            due(count, x.alterRow(i, 1, count - 1), i + 1, x.judge(0, 4), count - 1, x.alterRow(i, 1, count), 0, x.judge(0, 4));
        }
        for (int i = 10; i >= 0; i--) {
            x.alterRow(i, 1, -1);
            due(i + 1, x.judge(0, 4));
        }
        each(BAD, x.judge(0, 0), x.judge(0, 5), x.judge(0, -1), x.judge(0, LOW), x.judge(0, HIGH));
        for (int bad : NOT_0_TO_3) {
            each(BAD, x.judge(bad, 4), x.judge(bad, 5));
        }
        due(11, x.many(3), -1, x.row(0, 1), 0, x.prove(1, 4), FEWER, x.judge(0, 4), 0, x.judge(1, 4), 0, x.many(3), BAD, x.judge(4, 4));
    }
}
