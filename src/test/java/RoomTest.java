import com.sun.management.ThreadMXBean;
import java.lang.management.ManagementFactory;

/** All calls of a run live in one room: a new object is small, and no call makes more than one small thing. */
public final class RoomTest {
    private static final ThreadMXBean BEAN = (ThreadMXBean) ManagementFactory.getThreadMXBean();
    private static final int BYTES_NEW = 8192, BYTES_CALL = 48;

    private static long answers = 0;

    private static long made() {
        return BEAN.getThreadAllocatedBytes(Thread.currentThread().getId());
    }

    public static void main(String[] args) {
        Check check = new Check("RoomTest");
        warmUp(); // the machine makes things of its own when it meets code for the first time
        long before = made();
        ShareNets nets = new ShareNets();
        long after = made();
        long none = made() - after;
        check.isTrue("a new object takes " + (after - before - none), after - before - none <= BYTES_NEW);
        setUp(nets);
        for (int call = 0; call < 52; call++) {
            for (int round = 0; round < 4; round++) {
                long took = measure(nets, call) - none;
                check.isTrue("call " + call + " takes " + took, took <= (call == 10 ? BYTES_CALL : 0));
            }
        }
        check.isTrue("answers " + answers, answers != 0);
        check.end();
    }

    private static void warmUp() {
        ShareNets nets = new ShareNets();
        setUp(nets);
        for (int call = 0; call < 52; call++) {
            measure(nets, call);
        }
    }

    private static void setUp(ShareNets nets) {
        nets.posts(0, 10);
        nets.posts(1, 10);
        nets.mixed(0, 2);
        nets.mixed(1, 2);
        for (int i = 0; i < 5; i++) {
            nets.part(i + 5);
            for (int j = 0; j <= i; j++) {
                nets.chance(i, j, 1 + (i + j) % 3);
            }
        }
        nets.out(3, 7, true);
        nets.out(4, 13, true);
        for (int kind = 0; kind < 4; kind++) {
            nets.add(kind, 2, 1);
            nets.shelf(kind, 0, kind);
        }
    }

    private static long measure(ShareNets x, int call) {
        long before = made();
        answers += make(x, call);
        return made() - before;
    }

    private static long make(ShareNets x, int call) {
        switch (call) {
            case 0: return x.feed(0x3520737473706fL, 8);
            case 1: return x.read(2);
            case 2: return x.posts(2, 9);
            case 3: return x.road(2, 0, 1, true);
            case 4: return x.netOf(0, 1);
            case 5: return x.sheet(0, 2, 40);
            case 6: return x.rows(2, 0);
            case 7: return x.turn(0);
            case 8: return x.same(0, 1);
            case 9: return x.form(4, 33);
            case 10: return x.add(2, 3, -3);
            case 11: return x.formAt(4, 5);
            case 12: return x.count(0, 4, 13);
            case 13: return x.share(0, 4, 13, 1);
            case 14: return x.lift(3, 3, 4, 13, 0);
            case 15: return x.out(4, 30, true);
            case 16: return x.free(0);
            case 17: return x.heap(4);
            case 18: return x.most(5, 3, 3);
            case 19: return x.part(3);
            case 20: return x.chance(0, 1, 2);
            case 21: return x.at(4, 13, 0);
            case 22: return x.freeAt();
            case 23: return x.near(2, 10);
            case 24: return x.mixed(2, 2);
            case 25: return x.draw(2, 4);
            case 26: return x.seed(5);
            case 27: return x.shareOf(0, 1);
            case 28: return x.weight(2, 5);
            case 29: return x.gives(2, 2);
            case 30: return x.value(1, 0, 0);
            case 31: return x.valueAt(1, 1);
            case 32: return x.bound(2, 1, 0);
            case 33: return x.slack(2, 1, 0, 0);
            case 34: return x.tight(2, 1);
            case 35: return x.met(2, 1);
            case 36: return x.prove(0, 4);
            case 37: return x.row(0, 1);
            case 38: return x.alterRow(0, 1, 2);
            case 39: return x.judge(0, 4);
            case 40: return x.put(0, 1, 2);
            case 41: return x.item(0, 2, 1);
            case 42: return x.shelf(3, 1, 0);
            case 43: return x.taken(2, 1);
            case 44: return x.act(2, 3, 9);
            case 45: return x.trace(2);
            case 46: return x.many(5);
            case 47: return x.keep();
            case 48: return x.again();
            case 49: return x.posts(2, 5);
            case 50: return x.blow(2);
            default: return x.bare();
        }
    }
}
