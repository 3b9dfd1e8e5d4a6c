import java.util.Arrays;

/**
 * All that calls show of an object, as a row of answers. Looking changes the object, so each picture is taken of an
 * object made for it; a picture and the calls before it stay below the 512 that the document allows.
 */
final class Picture {
    private static final int[][] FORMS = {{0, 1}, {0, 1, 3, 7}, {0, 1, 3, 7, 11, 12, 13, 15, 30, 31, 63}};

    private final ShareNets x;
    private long[] answers = new long[600];
    private int held = 0;

    private Picture(ShareNets x) {
        this.x = x;
    }

    /** Of what keep() keeps: as it is, and as it was kept. */
    static long[] ofWorld(ShareNets x) {
        Picture picture = new Picture(x);
        picture.lookAtWorld();
        picture.see(x.again());
        picture.lookAtWorld();
        return picture.all();
    }

    /** Of all else: rows, trace, shelves, sheets and the tape. */
    static long[] ofHost(ShareNets x) {
        Picture picture = new Picture(x);
        picture.lookAtRows();
        picture.lookAtShelves();
        for (int sheet = 0; sheet < 4; sheet++) {
            picture.lookAtSheet(sheet);
        }
        picture.see(x.read(0));
        picture.lookAtNet(0);
        return picture.all();
    }

    private void see(long answer) {
        answers[held] = answer;
        held++;
    }

    private long[] all() {
        return Arrays.copyOf(answers, held);
    }

    private void lookAtWorld() {
        for (int net = 0; net < 4; net++) {
            lookAtNet(net);
        }
        for (int what = 0; what < 3; what++) {
            see(x.many(what));
        }
        for (int share = 0; share < 6; share++) {
            for (int what = 0; what < 4; what++) {
                see(x.shareOf(share, what));
            }
        }
        see(x.seed(0));
        for (int m = 2; m <= 4; m++) {
            for (int form : FORMS[m - 2]) {
                see(x.out(m, form, false));
            }
        }
        lookAtLimit();
    }

    private void lookAtNet(int net) {
        see(x.netOf(net, 0));
        see(x.netOf(net, 1));
        for (int post = 0; post < 10; post++) {
            see(x.netOf(net, 10 + post));
        }
    }

    /** With one part's own chance alone AT of a road tells its weight by all. */
    private void lookAtLimit() {
        for (int b = 0; b < 5; b++) {
            for (int a = 0; a <= b; a++) {
                see(x.chance(a, b, 0));
            }
        }
        for (int part = 0; part < 5; part++) {
            x.chance(part, part, 4);
            see(x.at(2, 1, 0));
            see(x.at(2, 1, 1));
            x.chance(part, part, 0);
        }
    }

    private void lookAtRows() {
        for (int what = 3; what < 6; what++) {
            see(x.many(what));
        }
        for (int row = 0; row < 12; row++) {
            see(x.row(row, 0));
            see(x.row(row, 1));
        }
        for (int i = 0; i < 9; i++) {
            see(x.trace(i));
        }
    }

    private void lookAtShelves() {
        for (int shelf = 0; shelf < 4; shelf++) {
            for (int as = 0; as < 4; as++) {
                see(x.taken(shelf, as));
                see(x.taken(shelf, 10 + as));
            }
        }
    }

    private void lookAtSheet(int sheet) {
        int sort = 0;
        for (int one = 0; one < 4; one++) {
            int first = x.item(sheet, one, 0);
            see(first);
            sort = first == -13 ? sort : one;
        }
        for (int i = 0; i <= 40; i++) {
            see(x.item(sheet, sort, i));
        }
    }
}
