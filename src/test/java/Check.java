import java.util.Arrays;

/** Counts what is not as due, for the tests of the project. */
final class Check {
    private final String name;
    private int calls = 0;
    private int wrong = 0;

    Check(String name) {
        this.name = name;
    }

    void due(String call, long want, long got) {
        calls++;
        if (want != got) {
            wrong++;
            if (wrong <= 50) {
                System.out.println(name + ": " + call + " answered " + got + ", due is " + want);
            }
        }
    }

    void isTrue(String what, boolean holds) {
        due(what, 1, holds ? 1 : 0);
    }

    int wrong() {
        return wrong;
    }

    void end() {
        System.out.println(name + ": " + calls + " checks, " + wrong + " wrong");
        if (wrong != 0) {
            System.exit(1);
        }
    }

    /** Feeds a text whole; the answer of the last feed(). */
    static int feedText(ShareNets nets, String text) {
        int answer = 0;
        for (int from = 0; from < text.length(); from += 8) {
            int n = Math.min(8, text.length() - from);
            answer = nets.feed(eight(text, from, n), n);
        }
        return answer;
    }

    static int readText(ShareNets nets, int net, String text) {
        feedText(nets, text);
        return nets.read(net);
    }

    static long eight(String text, int from, int n) {
        long eight = 0;
        for (int i = 0; i < n; i++) {
            eight |= (long) (text.charAt(from + i) & 255) << 8 * i;
        }
        return eight;
    }

    static String show(String method, Object[] args) {
        return method + Arrays.toString(args).replace('[', '(').replace(']', ')');
    }
}
