import java.util.function.Supplier;
import java.util.function.ToLongFunction;

/** Objects as the edge tests need them, and all that can be seen of one. */
final class Scene {
    static final int UNKNOWN = -1, OUTSIDE = -2, STATE = -3, FULL = -4, NO = -5, NONE = -6;
    static final long GONE = -1000000000000000000L;
    static final String FULL_PAD = "............................................................";

    private Scene() {
    }

    /** A, B, .. F as far as there are rows of LOOKS, PACE and YOUTH; null: that one is not there. */
    static MorningBite of(int[]... rows) {
        MorningBite x = new MorningBite();
        for (int one = 0; one < rows.length; one++) {
            if (rows[one] != null) {
                x.one(one, rows[one][0], rows[one][1], rows[one][2]);
            }
        }
        return x;
    }

    static int[] row(int looks, int pace, int youth) {
        return new int[] {looks, pace, youth};
    }

    /** All six: A 30 by 1, B 40 by 2, .. F 80 by 6, none below 20; twelve halves. */
    static MorningBite six() {
        MorningBite x = new MorningBite();
        for (int one = 0; one < 6; one++) {
            x.one(one, 30 + 10 * one, 1 + one, 20);
        }
        x.set(0, 12);
        return x;
    }

    /** All but D; some have eaten, SHE is away, two sights, two unlike images. */
    static MorningBite rich() {
        MorningBite x = six();
        x.image(1);
        pad(x, "AhBbDx!").done();
        x.set(1, 7);
        x.seen(0, 29);
        x.seen(5, 74);
        x.image(0);
        x.one(4, 70, 5, 66);
        return x;
    }

    static MorningBite rich(String text) {
        return pad(rich(), text);
    }

    static MorningBite pad(MorningBite x, String text) {
        x.wipe();
        for (int i = 0; i < text.length(); i++) {
            x.say(text.charAt(i));
        }
        return x;
    }

    /** All that can be seen of an object, its images last: they are restored for it. */
    static String look(MorningBite x) {
        StringBuilder s = new StringBuilder();
        tell(x, s);
        s.append(" fault ").append(x.fault()).append(" judge");
        for (int what = 0; what < 3; what++) {
            s.append(' ').append(x.judge(what));
        }
        s.append(" basket ").append(x.basket()).append(" behind");
        for (int one = 0; one < 6; one++) {
            s.append(' ').append(x.behind(one, 0)).append('/').append(x.behind(one, 1));
        }
        for (int k = 0; k < 2; k++) {
            s.append(" image ").append(k).append(' ').append(x.restore(k));
            tell(x, s);
        }
        return s.toString();
    }

    private static void tell(MorningBite x, StringBuilder s) {
        s.append(" told");
        for (int what = 0; what < 6; what++) {
            s.append(' ').append(x.told(what));
        }
        for (int one = 0; one < 6; one++) {
            for (int what = 0; what < 4; what++) {
                s.append(what == 0 ? ' ' : '/').append(x.told(10 * (1 + one) + what));
            }
        }
        s.append(" gave ").append(x.gave(0)).append(' ').append(x.gave(1)).append(" ask ").append(x.ask(0));
    }

    /** A call that answers this and changes nothing: its object is seen as one on which it was not called. */
    static void idle(String what, Supplier<MorningBite> scene, ToLongFunction<MorningBite> call, long want) {
        MorningBite called = scene.get();
        MorningBite left = scene.get();
        Check.due(what, call.applyAsLong(called), want);
        String seen = look(called);
        String due = look(left);
        Check.holds(what + " changes nothing: " + seen + ", due is " + due, seen.equals(due));
    }
}
