import java.lang.reflect.Method;
import java.util.function.ToLongFunction;

/** Edges of the terms that hold for every call: refusals and their order, fractions, 512 calls. */
final class TermEdges extends Edges {
    private static final int[] ONE = {LOW, LOW + 1, LOW + 10, -100, -16, -15, -14, -13, -12, -11, -10, -9, -5, -4, -3, -2, -1, 0, 1, 2, 3, 4, 5, 6, 7, 8, 9,
        10, 11, 12, 13, 14, 19, 20, 29, 30, 31, 32, 39, 40, 41, 63, 64, 98, 99, 100, 160, 161, 9999, 10000, HIGH - 10, HIGH - 1, HIGH};
    private static final int[] TWO = {LOW, -2, -1, 0, 1, 2, 3, 4, 5, 6, 9, 10, 11, 12, 13, 14, 40, 41, 100, HIGH};
    private static final int[] THREE = {LOW, -10, -1, 0, 1, 2, 3, 4, 7, 11, 41, 10000, HIGH};
    private static final int[] FOUR = {LOW, -1, 0, 1, 2, 3, 4, 7, HIGH};
    private static final int[] FIVE = {-1, 0, 1, 2, 4, 5};
    private static final int[][] BY_ARGUMENTS = {{0}, ONE, TWO, THREE, FOUR, FIVE};

    TermEdges(Check check) {
        super(check);
    }

    void run() {
        calls();
        refusals();
        fractions();
    }

    private void calls() {
        edge("An object is used for at most 512 calls after it has been made; what later calls answer is free.", () -> {
            due(10, x.posts(0, 10));
            for (int call = 2; call <= 511; call++) {
                due(call % 2 == 0 ? 45 : 0, x.turn(0));
            }
            due(0, x.netOf(0, 10));
            for (int call = 513; call < 700; call++) {
                x.turn(0);
            }
            x = new ShareNets();
            for (int call = 1; call <= 512; call++) {
                due(call, x.seed(call + 1));
            }
        });
    }

    private void refusals() {
        edge("Answers below 0, where not told otherwise, are refusals; such a call changes nothing (but that THE TAPE is used up by read());", () -> {
            for (Scene scene : Scene.values()) {
                Refusals refusals = new Refusals(scene);
                for (Method call : Refusals.calls()) {
                    refusals.tryAll(call, BY_ARGUMENTS);
                }
                due(0, refusals.changes());
                due(1, refusals.seen() > 5000 ? 1 : 0);
            }
            due(-108, net(0, "posts 4;x"), 0, x.many(4), 1, x.netOf(0, 0));
        });
        edge("of several the first named:", () -> {
            ShareNets full = Scene.FULL.make();
            each(BAD, full.feed(0, 0), full.feed(0, 9), full.part(0), full.part(10), full.add(4, 0, 0), full.add(2, 10, 0),
                full.out(1, 0, true), full.out(4, 2, true));
            each(FULL, full.feed(0, 1), full.part(1), full.add(2, 0, 0), full.out(4, 0, true));
            due(BAD, full.blow(4), BAD, full.blow(-1), STATE, full.blow(0));
            ShareNets sparse = Scene.SPARSE.make();
            each(BAD, sparse.formAt(5, 11), sparse.formAt(0, -1), sparse.share(0, 2, 2, 0), sparse.share(0, 2, 1, 2),
                sparse.share(4, 4, 0, 0), sparse.most(5, 5, 0), sparse.most(6, 1, 0));
            each(NONE, sparse.formAt(4, 11), sparse.share(0, 2, 1, 0), sparse.most(5, 4, 0), sparse.at(4, 0, 0), sparse.freeAt(),
                sparse.near(0, 10), sparse.draw(0, 2));
            each(BAD, sparse.at(5, 0, 0), sparse.at(4, 0, 2), sparse.at(4, 2, 0), sparse.near(4, 1), sparse.near(0, 11), sparse.near(0, 0),
                sparse.draw(0, 5), sparse.draw(4, 2), sparse.draw(-1, 0));
            each(BAD, sparse.tight(1, 0), sparse.tight(2, 2), sparse.met(4, 0), sparse.met(3, 2), sparse.judge(4, 1), sparse.judge(0, 5));
            each(NONE, sparse.tight(2, 1), sparse.met(2, 1));
            due(BAD, sparse.rows(4, 0), OTHER, sparse.rows(0, 0), BAD, sparse.sheet(4, 0, -1), BAD, sparse.sheet(0, 4, -1),
                SIZE, sparse.sheet(0, 0, -1), BAD, sparse.sheet(4, 0, 41));
            due(BAD, sparse.put(4, -1, 0), OUTSIDE, sparse.put(0, 0, 0), BAD, sparse.item(4, 4, 0), BAD, sparse.item(0, 4, 0),
                OTHER, sparse.item(0, 1, 0), OUTSIDE, sparse.item(0, 0, 0));
            due(BAD, x.rows(4, 0), NOTHING, x.rows(0, 0), BAD, x.put(4, -1, 0), NOTHING, x.put(0, -1, 0), BAD, x.item(0, 4, 0),
                NOTHING, x.item(0, 1, -1));
            due(BAD, x.taken(4, 4), BAD, x.taken(0, 4), NOTHING, x.taken(0, 3), BAD, sparse.taken(0, 14), OTHER, sparse.taken(0, 11),
                OTHER, sparse.taken(1, 10), BAD, sparse.taken(4, 10));
            due(BAD, x.read(4), -100, x.read(0));
        });
        edge("BAD (-1) there is no such thing, or a number is not as told; FULL (-2); NONE (-3); STATE (-4); and what the host refuses:"
            + " -11 nothing where something is asked, -12 a place outside, -13 a thing of another sort or kind, -14 a size below 0, -15 parted by 0.", () -> {
            due(-1, ShareNets.BAD, -2, ShareNets.FULL, -3, ShareNets.NONE, -4, ShareNets.STATE);
            due(-1, x.netOf(4, 0), -1, x.posts(0, 11), -3, x.again(), -11, x.put(0, 0, 0), -14, x.sheet(0, 0, -1), 1, x.sheet(0, 0, 1),
                -12, x.put(0, 1, 0), -13, x.item(0, 1, 0));
            due(0, x.add(0, 2, 1), 1, x.shelf(0, 0, 0), -13, x.taken(0, 1), -13, x.taken(0, 10), 1, x.add(2, 1, 0), 1, x.shelf(0, 0, 1),
                -15, x.act(0, 2, 7));
            due(6, x.posts(0, 6), -4, x.blow(0));
            for (int i = 0; i < 5; i++) {
                due(i, x.part(1));
            }
            due(-2, x.part(1));
        });
        edge("Where a number told may be below 0 otherwise than a FAULT, NO (-1000000000000) stands for all refusals.", () -> {
            due(-1000000000000L, ShareNets.NO);
            each(NO, x.gives(0, 0), x.value(0, 0, 0), x.valueAt(0, 0), x.bound(4, 0, 0), x.slack(4, 0, 0, 0), x.slack(2, 1, 4, 0));
            x.add(1, 3333, 0);
            x.posts(0, 3);
            due(-3, x.gives(0, 0), -1, x.value(0, 0, 0), NO, x.valueAt(0, 0), NO, x.value(0, 1, 0), NO, x.value(0, 0, 2), 0, x.part(1),
                -1, x.valueAt(0, 0), NO, x.valueAt(0, 2));
            for (int form : FORMS[3]) {
                x.out(3, form, true);
            }
            each(NO, x.bound(2, 1, 0), x.slack(2, 1, 0, 0));
        });
        edge("Sets are told by bits.", () -> {
            x.posts(0, 10);
            x.turn(0);
            due(1022, x.netOf(0, 10), 511, x.netOf(0, 19), 2047, x.heap(4), 8, x.tight(2, 1), 1, x.out(3, 7, true), 7, x.heap(3),
                7, x.tight(3, 7));
        });
    }

    private void fractions() {
        edge("A part of a fraction: 0 above the line, 1 below it, without a common divisor, below above 0 (0 is 0 by 1).", () -> {
            net(0, "posts 6;road 0 1 2 3;");
            x.add(1, 3333, 0);
            x.add(2, 1, -1);
            x.add(0, 3, 7);
            x.part(2);
            x.part(4);
            x.chance(0, 1, 2);
            fraction(1, 5, part -> x.share(0, 2, 1, part));
            fraction(0, 1, part -> x.share(0, 3, 7, part));
            fraction(1, 1, part -> x.share(0, 1, 0, part));
            fraction(1, 3, part -> x.lift(2, 1, 4, 12, part));
            fraction(0, 1, part -> x.lift(3, 7, 4, 30, part));
            fraction(1, 1, part -> x.lift(2, 1, 4, 63, part));
            fraction(2, 9, part -> x.at(2, 1, part));
            fraction(0, 1, part -> x.at(3, 7, part));
            fraction(1, 1, part -> x.at(1, 0, part));
            fraction(-1, 1, part -> x.value(0, 0, part));
            fraction(1, 3, part -> x.value(1, 0, part));
            fraction(0, 1, part -> x.value(2, 0, part));
            fraction(-1, 1, part -> x.valueAt(0, part));
            fraction(0, 1, part -> x.valueAt(2, part));
            x.weight(1, 99);
            fraction(37, 4, part -> x.bound(2, 1, part));
            fraction(1, 1, part -> x.slack(2, 1, 0, part));
            fraction(0, 1, part -> x.slack(2, 1, 3, part));
            x.out(3, 0, true);
            x.out(3, 7, true);
            fraction(-25, 12, part -> x.bound(2, 1, part));
            fraction(1, 3, part -> x.slack(2, 1, 1, part));
            x.weight(1, 24);
            fraction(0, 1, part -> x.bound(2, 1, part));
        });
    }

    /** Part 0 and 1 are due; the first parts beside them are refused. */
    private void fraction(long above, long below, ToLongFunction<Integer> call) {
        due(above, call.applyAsLong(0), below, call.applyAsLong(1));
        for (int bad : new int[] {-1, 2, LOW, HIGH}) {
            long refused = call.applyAsLong(bad);
            due(1, refused == BAD || refused == NO ? 1 : 0);
        }
    }
}
