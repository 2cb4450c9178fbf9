import com.sun.management.ThreadMXBean;
import java.lang.management.ManagementFactory;

/** All calls of a run share one room: an object is small, and calls make nothing. */
final class RoomTest {
    private static final ThreadMXBean BEAN = (ThreadMXBean) ManagementFactory.getThreadMXBean();
    private static final int CALLS = 512;

    public static void main(String[] args) {
        measure(new MorningBite[1], 0);
        long before = BEAN.getCurrentThreadAllocatedBytes();
        MorningBite[] kept = new MorningBite[100];
        for (int i = 0; i < kept.length; i++) {
            kept[i] = new MorningBite();
        }
        long each = (BEAN.getCurrentThreadAllocatedBytes() - before) / kept.length;
        Check.holds("an object takes " + each + " bytes", each > 0 && each < 40000);
        for (int kind = 0; kind < 15; kind++) {
            long bytes = measure(kept, kind);
            Check.holds("512 calls of kind " + kind + " make " + bytes + " bytes", bytes < 8 * CALLS);
        }
        Check.end();
    }

    private static MorningBite crowd() {
        MorningBite x = new MorningBite();
        for (int one = 0; one < 6; one++) {
            x.one(one, 40 + 3 * one, 1 + one, 20);
        }
        x.set(0, 12);
        x.seen(0, 39);
        for (int i = 0; i < 15; i++) {
            x.say('A');
            x.say('h');
            x.say('.');
            x.say('!');
        }
        x.image(0);
        return x;
    }

    private static long measure(MorningBite[] any, int kind) {
        MorningBite x = crowd();
        ask(x, kind, 1);
        long before = BEAN.getCurrentThreadAllocatedBytes();
        for (int i = 0; i < CALLS; i++) {
            ask(x, kind, i);
        }
        return BEAN.getCurrentThreadAllocatedBytes() - before;
    }

    private static long ask(MorningBite x, int kind, int i) {
        switch (kind) {
            case 0: return x.one(i % 6, 50, 5, 5);
            case 1: return x.judge(0);
            case 2: return x.behind(1, 0);
            case 3: return x.passed(1);
            case 4: return x.oldest(3);
            case 5: return x.keeps(56, 6, 5, 60);
            case 6: return x.plan(56, 6, 5, 60, 5, 5);
            case 7: return x.envy(i % 13, 1);
            case 8: return x.refuses(60);
            case 9: return x.ask(1);
            case 10: return x.worms(i % 6, 6, 5, -1, 1);
            case 11: return x.year(i, 99, 0);
            case 12: return x.image(1);
            case 13: return x.restore(0);
            default: return x.told(10) + x.gave(1) + x.thieves(99, 9, 1) + x.fault() + x.lasts(1, 98);
        }
    }
}
