import java.util.function.IntPredicate;
import java.util.function.IntToLongFunction;

/** For each number that a call takes: all values from far below the least to far above the greatest are asked. */
final class RangeTest {
    private static final int UNKNOWN = -1, OUTSIDE = -2, FULL = -4;
    private static final long GONE = Scene.GONE;
    private static final int MARGIN = 150;
    private static final int[] FAR = {Integer.MIN_VALUE, Integer.MIN_VALUE + 1, -65536, -10000, 10001, 65535, 65536,
        65537, 1 << 30, Integer.MAX_VALUE - 1, Integer.MAX_VALUE};

    public static void main(String[] args) {
        ones();
        settings();
        days();
        lasts();
        plans();
        planDays();
        sights();
        games();
        years();
        images();
        told();
        Check.end();
    }

    /** The call is refused so for each value outside the range, and not so for each value within it. */
    private static void range(String what, int least, int greatest, long refusal, IntToLongFunction call) {
        only(what, least - MARGIN, greatest + MARGIN, v -> least <= v && v <= greatest, refusal, call);
        for (int far : FAR) {
            if (far < least || far > greatest) {
                Check.due(what + " " + far, call.applyAsLong(far), refusal);
            }
        }
    }

    private static void only(String what, int from, int to, IntPredicate taken, long refusal, IntToLongFunction call) {
        for (int v = from; v <= to; v++) {
            long got = call.applyAsLong(v);
            if (taken.test(v)) {
                Check.holds(what + " " + v + " is taken, answered " + got, got != refusal);
            } else {
                Check.due(what + " " + v, got, refusal);
            }
        }
    }

    private static void ones() {
        range("one: the number", 0, 5, UNKNOWN, v -> new MorningBite().one(v, 50, 5, 5));
        range("one: LOOKS", 0, 99, OUTSIDE, v -> new MorningBite().one(0, v, 5, 0));
        range("one: PACE", 1, 9, OUTSIDE, v -> new MorningBite().one(0, 50, v, 5));
        for (int looks : new int[] {0, 1, 2, 50, 98, 99}) {
            range("one: YOUTH, LOOKS " + looks, 0, looks, OUTSIDE, v -> new MorningBite().one(0, looks, 5, v));
        }
        range("leave: the number", 0, 5, UNKNOWN, v -> Scene.six().leave(v));
        for (int there = 0; there < 6; there++) {
            int one = there;
            range("leave: who is there alone", one, one, UNKNOWN, v -> {
                MorningBite x = new MorningBite();
                x.one(one, 50, 5, 5);
                return x.leave(v);
            });
        }
    }

    private static void settings() {
        range("set: which", 0, 2, OUTSIDE, v -> new MorningBite().set(v, 0));
        range("set: which, to 1", 0, 2, OUTSIDE, v -> new MorningBite().set(v, 1));
        range("set: BASKET", 0, 99, OUTSIDE, v -> new MorningBite().set(0, v));
        range("set: GROWN", 0, 40, OUTSIDE, v -> new MorningBite().set(1, v));
        range("set: SHE", 0, 1, OUTSIDE, v -> new MorningBite().set(2, v));
        range("say: the sign", 33, 126, OUTSIDE, v -> new MorningBite().say(v));
    }

    private static void days() {
        range("judge: what", 0, 2, OUTSIDE, v -> Scene.rich("Ab.Dx").judge(v));
        range("judge: what, a FAULT", 0, 2, OUTSIDE, v -> Scene.rich("Ab.D").judge(v));
        range("behind: what", 0, 1, OUTSIDE, v -> Scene.rich(".").behind(0, v));
        range("behind: the ONE", 0, 5, UNKNOWN, v -> Scene.six().behind(v, 0));
        range("behind: EATEN of the ONE", 0, 5, UNKNOWN, v -> Scene.six().behind(v, 1));
        range("passed: what", 0, 1, OUTSIDE, v -> Scene.rich("..").passed(v));
        for (int mornings : new int[] {1, 2, 59, 60}) {
            String text = Scene.FULL_PAD.substring(0, mornings);
            range("oldest of " + mornings, 0, mornings - 1, UNKNOWN, v -> Scene.pad(Scene.six(), text).oldest(v));
        }
        only("oldest of none", -200, 200, v -> false, UNKNOWN, v -> Scene.pad(Scene.six(), "!!").oldest(v));
    }

    private static void lasts() {
        range("lasts: the ONE", 0, 5, UNKNOWN, v -> Scene.six().lasts(v, 99));
        range("lasts: v", 0, 99, OUTSIDE, v -> Scene.six().lasts(0, v));
    }

    private static void plans() {
        range("keeps: the set", 0, 63, UNKNOWN, v -> Scene.six().keeps(v, 1, 6, 99));
        only("keeps: a set of three at most", 0, 63, v -> Integer.bitCount(v) <= 3, FULL,
            v -> Scene.six().keeps(v, 1, 6, 99));
        only("keeps: a set of those who are there", 0, 63, v -> (v & 8) == 0, UNKNOWN,
            v -> Scene.rich().keeps(v, 1, 6, 99));
        range("keeps: m", 0, 6, OUTSIDE, v -> Scene.six().keeps(7, v, 3, 60));
        range("keeps: n", 0, 6, OUTSIDE, v -> Scene.six().keeps(7, 3, v, 60));
        range("keeps: v", 0, 99, OUTSIDE, v -> Scene.six().keeps(7, 3, 3, v));
        // No ONE is of the empty set, so that it is refused, too.
        range("plan: the set", 1, 63, UNKNOWN, v -> Scene.six().plan(v, 1, 6, 99, 0, lowest(v)));
        only("plan: a set of three at most", 1, 63, v -> Integer.bitCount(v) <= 3, FULL,
            v -> Scene.six().plan(v, 1, 6, 99, 0, lowest(v)));
        range("plan: m", 0, 6, OUTSIDE, v -> Scene.six().plan(7, v, 3, 99, 0, 0));
        range("plan: n", 0, 6, OUTSIDE, v -> Scene.six().plan(7, 3, v, 60, 0, 0));
        range("plan: v", 0, 99, OUTSIDE, v -> Scene.six().plan(7, 3, 3, v, 0, 0));
        range("envy: c", 0, 12, OUTSIDE, v -> Scene.six().envy(v, 0));
        range("envy: c, the first", 0, 12, OUTSIDE, v -> Scene.six().envy(v, 1));
        range("envy: what", 0, 1, OUTSIDE, v -> Scene.six().envy(6, v));
        range("refuses: m", 0, 60, OUTSIDE, v -> Scene.six().refuses(v));
    }

    /** The least ONE of a set; the last one, if the set has none of the six. */
    private static int lowest(int set) {
        return set == 0 ? 0 : Math.min(5, Integer.numberOfTrailingZeros(set));
    }

    private static void planDays() {
        for (int days = 1; days <= 6; days++) {
            int m = days;
            range("plan: the day of " + m, 0, m - 1, UNKNOWN, v -> Scene.six().plan(7, m, 6, 99, v, 1));
            range("plan: the day of " + m + ", no way", 0, m - 1, UNKNOWN, v -> Scene.six().plan(7, m, 0, 0, v, 1));
        }
        only("plan: the day of none", -200, 200, v -> false, UNKNOWN, v -> Scene.six().plan(7, 0, 6, 99, v, 1));
        for (int set = 0; set < 64; set++) {
            int s = set;
            if (Integer.bitCount(s) <= 3) {
                only("plan: the ONE of set " + s, -200, 200, v -> v >= 0 && v < 6 && (s >> v & 1) == 1, UNKNOWN,
                    v -> Scene.six().plan(s, 2, 6, 99, 1, v));
            }
        }
    }

    private static void sights() {
        range("seen: the ONE", 0, 5, UNKNOWN, v -> Scene.six().seen(v, 0));
        range("seen: v", 0, 99, OUTSIDE, v -> Scene.six().seen(0, v));
        range("gave: what", 0, 1, OUTSIDE, v -> Scene.rich().gave(v));
        range("ask: what", 0, 1, OUTSIDE, v -> Scene.rich().ask(v));
        range("ask: what, nobody is there", 0, 1, OUTSIDE, v -> new MorningBite().ask(v));
    }

    private static void games() {
        range("thieves: n", 1, 99, OUTSIDE, v -> new MorningBite().thieves(v, 3, 0));
        range("thieves: k", 1, 9, OUTSIDE, v -> new MorningBite().thieves(20, v, 1));
        range("thieves: what", 0, 1, OUTSIDE, v -> new MorningBite().thieves(20, 3, v));
        range("worms: the ONE", 0, 5, GONE + UNKNOWN, v -> Scene.six().worms(v, 3, 3, -1, 0));
        range("worms: a", 0, 6, GONE + OUTSIDE, v -> Scene.six().worms(0, v, 3, -1, 0));
        range("worms: t", 0, 10, GONE + OUTSIDE, v -> Scene.six().worms(0, 3, v, -1, 0));
        range("worms: v", -1, 99, GONE + OUTSIDE, v -> Scene.six().worms(0, 3, 3, v, 0));
        range("worms: part", 0, 1, GONE + OUTSIDE, v -> Scene.six().worms(0, 3, 3, -1, v));
    }

    private static void years() {
        range("year: the seed", 0, 9999, OUTSIDE, v -> Scene.six().year(v, 1, 0));
        range("year: m", 1, 99, OUTSIDE, v -> Scene.six().year(7, v, 0));
        range("year: what", 0, 2, OUTSIDE, v -> Scene.six().year(7, 9, v));
    }

    private static void images() {
        range("image: k", 0, 1, OUTSIDE, v -> new MorningBite().image(v));
        range("restore: k", 0, 1, OUTSIDE, v -> Scene.rich().restore(v));
        range("restore: k, none is kept", 0, 1, OUTSIDE, v -> new MorningBite().restore(v));
    }

    private static void told() {
        IntPredicate first = v -> v >= 0 && v <= 5;
        only("told: nobody is there", -200, 200, first, OUTSIDE, v -> new MorningBite().told(v));
        only("told: all are there", -200, 200, v -> first.test(v) || v >= 10 && v < 70 && v % 10 < 4, OUTSIDE,
            v -> Scene.six().told(v));
        only("told: D is not there", -200, 200,
            v -> first.test(v) || v >= 10 && v < 70 && v / 10 != 4 && v % 10 < 4, OUTSIDE,
            v -> Scene.rich().told(v));
        for (int far : FAR) {
            Check.due("told " + far, Scene.six().told(far), OUTSIDE);
        }
    }
}
