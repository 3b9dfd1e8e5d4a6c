import java.util.ArrayList;
import java.util.List;

/** What the tests of edges share. Each test bears the words of the document that it holds the class to. */
abstract class Edges {
    static final int BAD = -1, FULL = -2, NONE = -3, STATE = -4;
    static final int NOTHING = -11, OUTSIDE = -12, OTHER = -13, SIZE = -14, BY_0 = -15;
    static final long NO = -1000000000000L;
    static final int LOW = Integer.MIN_VALUE, HIGH = Integer.MAX_VALUE;

    /** Beside 0 to 3, for nets, sheets, shelves, kinds, sorts and acts. */
    static final int[] NOT_0_TO_3 = {-1, 4, LOW, HIGH};
    static final int[][] FORMS = {{}, {0}, {0, 1}, {0, 1, 3, 7}, {0, 1, 3, 7, 11, 12, 13, 15, 30, 31, 63}};

    final List<String> quotes = new ArrayList<>();
    ShareNets x;
    private final Check check;
    private String words;

    Edges(Check check) {
        this.check = check;
    }

    abstract void run();

    /** A test of its own, with a new object, for words of the document. */
    void edge(String quoted, Runnable test) {
        words = quoted;
        quotes.add(quoted);
        x = new ShareNets();
        test.run();
    }

    /** Pairs: what is due, and what was answered. */
    void due(long... dueThenAnswered) {
        for (int i = 0; i + 1 < dueThenAnswered.length; i += 2) {
            if (dueThenAnswered[i] == dueThenAnswered[i + 1]) {
                check.due("", 0, 0);
            } else {
                check.due(placeOfTest() + " (pair " + (i / 2 + 1) + "), \"" + words + "\":", dueThenAnswered[i], dueThenAnswered[i + 1]);
            }
        }
    }

    /** The same answer is due to all. */
    void each(long want, long... answered) {
        for (long one : answered) {
            due(want, one);
        }
    }

    private String placeOfTest() {
        for (StackTraceElement at : new Throwable().getStackTrace()) {
            if (!at.getFileName().equals("Edges.java")) {
                return at.getFileName() + ":" + at.getLineNumber();
            }
        }
        return "?";
    }

    int net(int net, String text) {
        return Check.readText(x, net, text);
    }

    /** The FAULT of a text is where its mark | stands. */
    void fault(String... marked) {
        for (String one : marked) {
            int place = one.indexOf('|');
            due(-100 - place, net(0, one.substring(0, place) + one.substring(place + 1)));
        }
    }

    static int step(int z) {
        return z * 1103515245 + 12345;
    }

    void traceIs(int... bodies) {
        due(bodies.length, x.many(5), NONE, x.trace(bodies.length));
        for (int i = 0; i < bodies.length; i++) {
            due(bodies[i], x.trace(i));
        }
    }
}
