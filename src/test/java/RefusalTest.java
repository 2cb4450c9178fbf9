import java.util.function.Supplier;
import java.util.function.ToLongFunction;

/**
 * "Calls that are refused answer, the first of these that fits: UNKNOWN .., OUTSIDE .., NO .., STATE .., FULL ..; where
 * a call names them in another order, in that. They change nothing": each refusal by itself, then where two fit.
 */
final class RefusalTest {
    private static final int UNKNOWN = -1, OUTSIDE = -2, STATE = -3, FULL = -4, NO = -5, NONE = -6;
    private static final long GONE = Scene.GONE;
    private static final int[] BEYOND = {-1, 2, Integer.MIN_VALUE, Integer.MAX_VALUE};

    public static void main(String[] args) {
        one();
        leave();
        set();
        say();
        faultsAhead();
        statesAhead();
        whatAhead();
        notThereBehind();
        noSuchMorning();
        lasts();
        keeps();
        keepsOrder();
        plan();
        planOrder();
        shares();
        seen();
        givers();
        games();
        worms();
        images();
        told();
        asked();
        answersOfNone();
        Check.end();
    }

    private static void rich(String what, ToLongFunction<MorningBite> call, long want) {
        Scene.idle(what, () -> Scene.rich("Ah.!"), call, want);
    }

    private static void pad(String text, String what, ToLongFunction<MorningBite> call, long want) {
        Scene.idle(what + " of " + text, () -> Scene.rich(text), call, want);
    }

    private static void one() {
        rich("one(-1)", x -> x.one(-1, 50, 5, 5), UNKNOWN);
        rich("one(6)", x -> x.one(6, 50, 5, 5), UNKNOWN);
        rich("one: LOOKS -1, YOUTH 0", x -> x.one(0, -1, 5, 0), OUTSIDE);
        rich("one: LOOKS -1, YOUTH -1", x -> x.one(0, -1, 5, -1), OUTSIDE);
        rich("one: LOOKS 100", x -> x.one(0, 100, 5, 5), OUTSIDE);
        rich("one: LOOKS 100, YOUTH 100", x -> x.one(0, 100, 5, 100), OUTSIDE);
        rich("one: PACE 0", x -> x.one(0, 50, 0, 5), OUTSIDE);
        rich("one: PACE 10", x -> x.one(0, 50, 10, 5), OUTSIDE);
        rich("one: YOUTH -1", x -> x.one(0, 50, 5, -1), OUTSIDE);
        rich("one: YOUTH above LOOKS", x -> x.one(0, 50, 5, 51), OUTSIDE);
        rich("one: YOUTH above LOOKS 0", x -> x.one(0, 0, 5, 1), OUTSIDE);
        rich("one: who is not there yet", x -> x.one(3, 50, 5, 51), OUTSIDE);
        rich("one: UNKNOWN ahead of LOOKS", x -> x.one(6, 100, 5, 5), UNKNOWN);
        rich("one: UNKNOWN ahead of PACE", x -> x.one(-1, 50, 0, 5), UNKNOWN);
        rich("one: UNKNOWN ahead of YOUTH", x -> x.one(6, 50, 5, 51), UNKNOWN);
        rich("one: all are wrong", x -> x.one(-1, -1, 0, -1), UNKNOWN);
    }

    private static void leave() {
        rich("leave: D went", x -> x.leave(3), UNKNOWN);
        rich("leave(-1)", x -> x.leave(-1), UNKNOWN);
        rich("leave(6)", x -> x.leave(6), UNKNOWN);
        rich("leave(32)", x -> x.leave(32), UNKNOWN);
        Scene.idle("leave: nobody is there", MorningBite::new, x -> x.leave(0), UNKNOWN);
    }

    private static void set() {
        rich("set: BASKET -1", x -> x.set(0, -1), OUTSIDE);
        rich("set: BASKET 100", x -> x.set(0, 100), OUTSIDE);
        rich("set: GROWN -1", x -> x.set(1, -1), OUTSIDE);
        rich("set: GROWN 41", x -> x.set(1, 41), OUTSIDE);
        rich("set: SHE -1", x -> x.set(2, -1), OUTSIDE);
        rich("set: SHE 2", x -> x.set(2, 2), OUTSIDE);
        rich("set: which -1", x -> x.set(-1, 1), OUTSIDE);
        rich("set: which 3", x -> x.set(3, 1), OUTSIDE);
        rich("set: both", x -> x.set(3, -1), OUTSIDE);
    }

    private static void say() {
        rich("say(32)", x -> x.say(32), OUTSIDE);
        rich("say(127)", x -> x.say(127), OUTSIDE);
        rich("say(-1)", x -> x.say(-1), OUTSIDE);
        rich("say: 'A' and 256", x -> x.say('A' + 256), OUTSIDE);
        pad(Scene.FULL_PAD, "say: a sign too many", x -> x.say('.'), FULL);
        pad(Scene.FULL_PAD, "say: a sign too many that can not stand", x -> x.say('~'), FULL);
        pad(Scene.FULL_PAD, "say: OUTSIDE ahead of FULL, 32", x -> x.say(32), OUTSIDE);
        pad(Scene.FULL_PAD, "say: OUTSIDE ahead of FULL, 127", x -> x.say(127), OUTSIDE);
        pad("A", "say: the FAULT stays where it was", x -> x.say(32), OUTSIDE);
    }

    /** "NO: there is a FAULT", also where an ACT ahead of it can not be: NO is ahead of STATE. */
    private static void faultsAhead() {
        for (String text : new String[] {"A", "A>", "Ah.B", "~", ".Q", "Dx.A", "DhDx~"}) {
            pad(text, "judge(0)", x -> x.judge(0), NO);
            pad(text, "judge(1)", x -> x.judge(1), NO);
            daysRefused(text, NO);
        }
    }

    /** "STATE: some ACT can not be", the first, one in between, or the last. */
    private static void statesAhead() {
        for (String text : new String[] {"Dx", "Dx.", ".Dh.", "...A>A", "ExEx", "Bb", ".Fb"}) {
            daysRefused(text, STATE);
        }
    }

    /** NO and STATE are ahead of UNKNOWN. */
    private static void daysRefused(String text, int refusal) {
        pad(text, "judge(2)", x -> x.judge(2), refusal);
        pad(text, "behind: LOOKS", x -> x.behind(0, 0), refusal);
        pad(text, "behind: EATEN", x -> x.behind(0, 1), refusal);
        pad(text, "behind: ahead of UNKNOWN", x -> x.behind(3, 0), refusal);
        pad(text, "behind: ahead of UNKNOWN, -1", x -> x.behind(-1, 1), refusal);
        pad(text, "behind: ahead of UNKNOWN, 6", x -> x.behind(6, 1), refusal);
        pad(text, "basket", MorningBite::basket, refusal);
        pad(text, "passed(0)", x -> x.passed(0), refusal);
        pad(text, "passed(1)", x -> x.passed(1), refusal);
        pad(text, "oldest(0)", x -> x.oldest(0), refusal);
        pad(text, "oldest: ahead of UNKNOWN, 60", x -> x.oldest(60), refusal);
        pad(text, "oldest: ahead of UNKNOWN, -1", x -> x.oldest(-1), refusal);
        pad(text, "done", MorningBite::done, refusal);
    }

    /** OUTSIDE is ahead of NO, STATE and UNKNOWN where a call has a "what". */
    private static void whatAhead() {
        for (String text : new String[] {"", ".", "A", "Dx", "DxA"}) {
            for (int beyond : BEYOND) {
                pad(text, "behind(0, " + beyond + ")", x -> x.behind(0, beyond), OUTSIDE);
                pad(text, "behind(3, " + beyond + ")", x -> x.behind(3, beyond), OUTSIDE);
                pad(text, "behind(6, " + beyond + ")", x -> x.behind(6, beyond), OUTSIDE);
                pad(text, "passed(" + beyond + ")", x -> x.passed(beyond), OUTSIDE);
            }
            pad(text, "judge(-1)", x -> x.judge(-1), OUTSIDE);
            pad(text, "judge(3)", x -> x.judge(3), OUTSIDE);
        }
    }

    /** "UNKNOWN (behind that): it is not there then". */
    private static void notThereBehind() {
        pad("", "behind: who is not there now", x -> x.behind(3, 0), UNKNOWN);
        pad("..", "behind: who is not there, EATEN", x -> x.behind(3, 1), UNKNOWN);
        pad("Ax", "behind: who goes", x -> x.behind(0, 0), UNKNOWN);
        pad("Ax.", "behind: who went, EATEN", x -> x.behind(0, 1), UNKNOWN);
        pad(".", "behind(-1)", x -> x.behind(-1, 0), UNKNOWN);
        pad(".", "behind(6)", x -> x.behind(6, 0), UNKNOWN);
        pad(".", "behind(32)", x -> x.behind(32, 0), UNKNOWN);
    }

    /** "UNKNOWN (behind that): there is no such morning". */
    private static void noSuchMorning() {
        pad("", "oldest(0)", x -> x.oldest(0), UNKNOWN);
        pad("!", "oldest(0)", x -> x.oldest(0), UNKNOWN);
        pad(".", "oldest(1)", x -> x.oldest(1), UNKNOWN);
        pad(".", "oldest(-1)", x -> x.oldest(-1), UNKNOWN);
        pad("Ah.!.", "oldest(2)", x -> x.oldest(2), UNKNOWN);
        pad(Scene.FULL_PAD, "oldest(60)", x -> x.oldest(60), UNKNOWN);
    }

    private static void lasts() {
        rich("lasts: D is not there", x -> x.lasts(3, 50), UNKNOWN);
        rich("lasts(-1)", x -> x.lasts(-1, 50), UNKNOWN);
        rich("lasts(6)", x -> x.lasts(6, 50), UNKNOWN);
        rich("lasts: v -1", x -> x.lasts(0, -1), OUTSIDE);
        rich("lasts: v 100", x -> x.lasts(0, 100), OUTSIDE);
        rich("lasts: UNKNOWN ahead of OUTSIDE", x -> x.lasts(3, 100), UNKNOWN);
        rich("lasts: UNKNOWN ahead of OUTSIDE, the number", x -> x.lasts(6, -1), UNKNOWN);
    }

    private static void keeps() {
        rich("keeps: set -1", x -> x.keeps(-1, 1, 1, 50), UNKNOWN);
        rich("keeps: set 64", x -> x.keeps(64, 1, 1, 50), UNKNOWN);
        rich("keeps: set 65", x -> x.keeps(65, 1, 1, 50), UNKNOWN);
        rich("keeps: D", x -> x.keeps(8, 1, 1, 50), UNKNOWN);
        rich("keeps: C and D", x -> x.keeps(12, 1, 1, 50), UNKNOWN);
        rich("keeps: m -1", x -> x.keeps(1, -1, 1, 50), OUTSIDE);
        rich("keeps: m 7", x -> x.keeps(1, 7, 1, 50), OUTSIDE);
        rich("keeps: n -1", x -> x.keeps(1, 1, -1, 50), OUTSIDE);
        rich("keeps: n 7", x -> x.keeps(1, 1, 7, 50), OUTSIDE);
        rich("keeps: v -1", x -> x.keeps(1, 1, 1, -1), OUTSIDE);
        rich("keeps: v 100", x -> x.keeps(1, 1, 1, 100), OUTSIDE);
        rich("keeps: nobody, m 7", x -> x.keeps(0, 7, 1, 50), OUTSIDE);
        rich("keeps: no days, n 7", x -> x.keeps(1, 0, 7, 50), OUTSIDE);
        rich("keeps: four", x -> x.keeps(1 + 2 + 4 + 16, 1, 1, 50), FULL);
        rich("keeps: five", x -> x.keeps(63 - 8, 1, 1, 50), FULL);
        rich("keeps: four, no days", x -> x.keeps(1 + 2 + 4 + 16, 0, 0, 99), FULL);
        Scene.idle("keeps: all six", Scene::six, x -> x.keeps(63, 1, 1, 50), FULL);
    }

    private static void keepsOrder() {
        rich("keeps: UNKNOWN ahead of OUTSIDE", x -> x.keeps(8, 7, 1, 50), UNKNOWN);
        rich("keeps: UNKNOWN ahead of OUTSIDE, 64", x -> x.keeps(64, 1, 7, 50), UNKNOWN);
        rich("keeps: UNKNOWN ahead of FULL", x -> x.keeps(15, 1, 1, 50), UNKNOWN);
        rich("keeps: UNKNOWN ahead of FULL, -1", x -> x.keeps(-1, 1, 1, 50), UNKNOWN);
        rich("keeps: UNKNOWN ahead of both", x -> x.keeps(63, -1, -1, -1), UNKNOWN);
        rich("keeps: OUTSIDE ahead of FULL, m", x -> x.keeps(23, 7, 1, 50), OUTSIDE);
        rich("keeps: OUTSIDE ahead of FULL, n", x -> x.keeps(23, 1, -1, 50), OUTSIDE);
        rich("keeps: OUTSIDE ahead of FULL, v", x -> x.keeps(23, 1, 1, 100), OUTSIDE);
    }

    private static void plan() {
        rich("plan: set -1", x -> x.plan(-1, 1, 1, 50, 0, 0), UNKNOWN);
        rich("plan: set 64", x -> x.plan(64, 1, 1, 50, 0, 0), UNKNOWN);
        rich("plan: D", x -> x.plan(8, 1, 1, 99, 0, 3), UNKNOWN);
        rich("plan: m -1", x -> x.plan(1, -1, 1, 50, 0, 0), OUTSIDE);
        rich("plan: m 7", x -> x.plan(1, 7, 1, 50, 0, 0), OUTSIDE);
        rich("plan: n -1", x -> x.plan(1, 1, -1, 50, 0, 0), OUTSIDE);
        rich("plan: n 7", x -> x.plan(1, 1, 7, 50, 0, 0), OUTSIDE);
        rich("plan: v -1", x -> x.plan(1, 1, 1, -1, 0, 0), OUTSIDE);
        rich("plan: v 100", x -> x.plan(1, 1, 1, 100, 0, 0), OUTSIDE);
        rich("plan: four", x -> x.plan(23, 1, 1, 50, 0, 0), FULL);
        rich("plan: a ONE that is not of the set", x -> x.plan(3, 1, 1, 99, 0, 2), UNKNOWN);
        rich("plan: ONE -1", x -> x.plan(3, 1, 1, 99, 0, -1), UNKNOWN);
        rich("plan: ONE 6", x -> x.plan(3, 1, 1, 99, 0, 6), UNKNOWN);
        rich("plan: ONE 32", x -> x.plan(3, 1, 1, 99, 0, 32), UNKNOWN);
        rich("plan: nobody", x -> x.plan(0, 1, 1, 99, 0, 0), UNKNOWN);
        rich("plan: day -1", x -> x.plan(3, 1, 1, 99, -1, 0), UNKNOWN);
        rich("plan: day 1 of one", x -> x.plan(3, 1, 1, 99, 1, 0), UNKNOWN);
        rich("plan: day 6 of six", x -> x.plan(3, 6, 1, 99, 6, 0), UNKNOWN);
        rich("plan: day 0 of none", x -> x.plan(3, 0, 1, 99, 0, 0), UNKNOWN);
        rich("plan: there is no such way", x -> x.plan(3, 1, 0, 0, 0, 0), NONE);
    }

    private static void planOrder() {
        rich("plan: UNKNOWN ahead of OUTSIDE", x -> x.plan(8, 7, 1, 50, 0, 0), UNKNOWN);
        rich("plan: UNKNOWN ahead of FULL", x -> x.plan(15, 1, 1, 50, 0, 0), UNKNOWN);
        rich("plan: OUTSIDE ahead of FULL", x -> x.plan(23, 1, 7, 50, 0, 0), OUTSIDE);
        rich("plan: OUTSIDE ahead of the ONE", x -> x.plan(3, 1, 1, 100, 0, 2), OUTSIDE);
        rich("plan: OUTSIDE ahead of the day", x -> x.plan(3, 1, 7, 50, 9, 0), OUTSIDE);
        rich("plan: OUTSIDE, m -1, ahead of the day", x -> x.plan(3, -1, 1, 50, -1, 0), OUTSIDE);
        rich("plan: FULL ahead of the ONE", x -> x.plan(23, 1, 1, 50, 0, 3), FULL);
        rich("plan: FULL ahead of the day", x -> x.plan(23, 1, 1, 50, 1, 0), FULL);
        rich("plan: FULL ahead of NONE", x -> x.plan(23, 1, 0, 0, 0, 0), FULL);
        rich("plan: the ONE ahead of NONE", x -> x.plan(3, 1, 0, 0, 0, 2), UNKNOWN);
        rich("plan: the day ahead of NONE", x -> x.plan(3, 1, 0, 0, 1, 0), UNKNOWN);
        rich("plan: day -1 ahead of NONE", x -> x.plan(3, 1, 0, 0, -1, 0), UNKNOWN);
        rich("plan: ONE -1 ahead of NONE", x -> x.plan(3, 1, 0, 0, 0, -1), UNKNOWN);
    }

    private static void shares() {
        rich("envy: c -1", x -> x.envy(-1, 0), OUTSIDE);
        rich("envy: c 13", x -> x.envy(13, 0), OUTSIDE);
        rich("envy: c -1, the first", x -> x.envy(-1, 1), OUTSIDE);
        rich("envy: c 13, the first", x -> x.envy(13, 1), OUTSIDE);
        rich("envy: what -1", x -> x.envy(0, -1), OUTSIDE);
        rich("envy: what 2", x -> x.envy(0, 2), OUTSIDE);
        rich("envy: OUTSIDE ahead of NONE", x -> x.envy(12, 2), OUTSIDE);
        rich("refuses(-1)", x -> x.refuses(-1), OUTSIDE);
        rich("refuses(61)", x -> x.refuses(61), OUTSIDE);
    }

    private static MorningBite eightSights() {
        MorningBite x = Scene.rich("Ah.!");
        for (int i = 0; i < 6; i++) {
            x.seen(5, 74);
        }
        return x;
    }

    private static void seen() {
        Supplier<MorningBite> eight = RefusalTest::eightSights;
        Check.due("seen: eight are told", eightSights().told(5), 8);
        rich("seen: D is not there", x -> x.seen(3, 50), UNKNOWN);
        rich("seen(-1)", x -> x.seen(-1, 50), UNKNOWN);
        rich("seen(6)", x -> x.seen(6, 50), UNKNOWN);
        rich("seen: v -1", x -> x.seen(0, -1), OUTSIDE);
        rich("seen: v 100", x -> x.seen(0, 100), OUTSIDE);
        rich("seen: UNKNOWN ahead of OUTSIDE", x -> x.seen(3, 100), UNKNOWN);
        Scene.idle("seen: a ninth", eight, x -> x.seen(5, 74), FULL);
        Scene.idle("seen: a ninth that does not fit", eight, x -> x.seen(5, 0), FULL);
        Scene.idle("seen: UNKNOWN ahead of FULL", eight, x -> x.seen(3, 50), UNKNOWN);
        Scene.idle("seen: OUTSIDE ahead of FULL, 100", eight, x -> x.seen(5, 100), OUTSIDE);
        Scene.idle("seen: OUTSIDE ahead of FULL, -1", eight, x -> x.seen(5, -1), OUTSIDE);
        Scene.idle("seen: UNKNOWN ahead of both", eight, x -> x.seen(6, 100), UNKNOWN);
    }

    private static void givers() {
        for (int beyond : BEYOND) {
            rich("gave(" + beyond + ")", x -> x.gave(beyond), OUTSIDE);
            rich("ask(" + beyond + ")", x -> x.ask(beyond), OUTSIDE);
            Scene.idle("ask: OUTSIDE ahead of NONE, " + beyond, MorningBite::new, x -> x.ask(beyond), OUTSIDE);
        }
    }

    private static void games() {
        rich("thieves: n 0", x -> x.thieves(0, 1, 0), OUTSIDE);
        rich("thieves: n 100", x -> x.thieves(100, 1, 0), OUTSIDE);
        rich("thieves: k 0", x -> x.thieves(5, 0, 0), OUTSIDE);
        rich("thieves: k -1", x -> x.thieves(5, -1, 0), OUTSIDE);
        rich("thieves: k 10", x -> x.thieves(5, 10, 0), OUTSIDE);
        rich("thieves: what -1", x -> x.thieves(5, 1, -1), OUTSIDE);
        rich("thieves: what 2", x -> x.thieves(5, 1, 2), OUTSIDE);
        rich("thieves: OUTSIDE ahead of NONE", x -> x.thieves(1, 10, 1), OUTSIDE);
        rich("year: seed -1", x -> x.year(-1, 1, 0), OUTSIDE);
        rich("year: seed 10000", x -> x.year(10000, 1, 0), OUTSIDE);
        rich("year: m 0", x -> x.year(0, 0, 0), OUTSIDE);
        rich("year: m 100", x -> x.year(0, 100, 0), OUTSIDE);
        rich("year: what -1", x -> x.year(0, 1, -1), OUTSIDE);
        rich("year: what 3", x -> x.year(0, 1, 3), OUTSIDE);
        Scene.idle("year: OUTSIDE ahead of NONE", MorningBite::new, x -> x.year(0, 0, 1), OUTSIDE);
    }

    private static void worms() {
        rich("worms: D is not there", x -> x.worms(3, 1, 1, 50, 0), GONE + UNKNOWN);
        rich("worms(-1)", x -> x.worms(-1, 1, 1, 50, 0), GONE + UNKNOWN);
        rich("worms(6)", x -> x.worms(6, 1, 1, 50, 0), GONE + UNKNOWN);
        rich("worms: a -1", x -> x.worms(0, -1, 1, 50, 0), GONE + OUTSIDE);
        rich("worms: a 7", x -> x.worms(0, 7, 1, 50, 0), GONE + OUTSIDE);
        rich("worms: t -1", x -> x.worms(0, 1, -1, 50, 0), GONE + OUTSIDE);
        rich("worms: t 11", x -> x.worms(0, 1, 11, 50, 0), GONE + OUTSIDE);
        rich("worms: v -2", x -> x.worms(0, 1, 1, -2, 0), GONE + OUTSIDE);
        rich("worms: v 100", x -> x.worms(0, 1, 1, 100, 0), GONE + OUTSIDE);
        rich("worms: part -1", x -> x.worms(0, 1, 1, 50, -1), GONE + OUTSIDE);
        rich("worms: part 2", x -> x.worms(0, 1, 1, 50, 2), GONE + OUTSIDE);
        rich("worms: UNKNOWN ahead of a", x -> x.worms(3, 7, 1, 50, 0), GONE + UNKNOWN);
        rich("worms: UNKNOWN ahead of t", x -> x.worms(3, 1, 11, 50, 0), GONE + UNKNOWN);
        rich("worms: UNKNOWN ahead of v", x -> x.worms(6, 1, 1, 100, 0), GONE + UNKNOWN);
        rich("worms: UNKNOWN ahead of part", x -> x.worms(-1, 1, 1, 50, 2), GONE + UNKNOWN);
    }

    private static void images() {
        for (int beyond : BEYOND) {
            rich("image(" + beyond + ")", x -> x.image(beyond), OUTSIDE);
            rich("restore(" + beyond + ")", x -> x.restore(beyond), OUTSIDE);
            Scene.idle("restore: OUTSIDE ahead of STATE, " + beyond, MorningBite::new, x -> x.restore(beyond), OUTSIDE);
        }
        Scene.idle("restore: none was kept", () -> Scene.pad(Scene.six(), "Ab"), x -> x.restore(0), STATE);
        Scene.idle("restore: the other was kept", RefusalTest::firstKept, x -> x.restore(1), STATE);
    }

    private static MorningBite firstKept() {
        MorningBite x = Scene.six();
        x.image(0);
        x.leave(2);
        return x;
    }

    private static void told() {
        int[] wrong = {-1, 6, 7, 8, 9, 14, 19, 40, 41, 43, 64, 70, 73, Integer.MIN_VALUE, Integer.MAX_VALUE};
        for (int what : wrong) {
            rich("told(" + what + ")", x -> x.told(what), OUTSIDE);
        }
    }

    /** What only asks changes nothing when it is answered: "Nothing is DONE in fact". */
    private static void asked() {
        rich("fault", MorningBite::fault, NONE);
        rich("judge(0)", x -> x.judge(0), NONE);
        rich("judge(2)", x -> x.judge(2), 1);
        rich("behind: LOOKS", x -> x.behind(2, 0), 53);
        rich("behind: EATEN", x -> x.behind(0, 1), 0);
        rich("basket", MorningBite::basket, 0);
        rich("passed", x -> x.passed(0), NONE);
        rich("oldest", x -> x.oldest(0), 5);
        rich("lasts", x -> x.lasts(2, 60), 3);
        rich("keeps", x -> x.keeps(7, 6, 6, 60), 3);
        rich("plan", x -> x.plan(7, 6, 6, 60, 5, 2), 1);
        rich("envy", x -> x.envy(10, 1), 222322);
        rich("refuses", x -> x.refuses(1), 2 + 4 + 6 + 9 + 12);
        rich("gave", x -> x.gave(1), 2 + 4 + 16);
        rich("ask", x -> x.ask(1), 3);
        rich("thieves", x -> x.thieves(99, 9, 1), 8);
        rich("worms", x -> x.worms(1, 6, 5, -1, 1), 1);
        rich("told", x -> x.told(13), 1);
        for (int seed = 0; seed < 50; seed++) {
            int s = seed;
            long due = Scene.rich("Ah.!").year(s, 99, 0);
            rich("year by " + s, x -> x.year(s, 99, 0), due);
        }
    }

    /** NONE, where there is nothing to tell, changes nothing, too. */
    private static void answersOfNone() {
        Supplier<MorningBite> empty = MorningBite::new;
        Scene.idle("fault of an empty PAD", empty, MorningBite::fault, NONE);
        Scene.idle("judge: the ACT of none", empty, x -> x.judge(0), NONE);
        Scene.idle("passed of no morning", empty, x -> x.passed(1), NONE);
        Scene.idle("envy: nobody is there", empty, x -> x.envy(1, 1), NONE);
        Scene.idle("ask: nobody is there", empty, x -> x.ask(0), NONE);
        Scene.idle("thieves: one half", empty, x -> x.thieves(1, 9, 1), NONE);
        Scene.idle("year: nobody is there", empty, x -> x.year(0, 99, 1), NONE);
        Scene.idle("oldest: nobody is there", () -> Scene.pad(new MorningBite(), "."), x -> x.oldest(0), NONE);
        rich("lasts: LOOKS more now", x -> x.lasts(2, 49), NONE);
        rich("keeps: there is no such way", x -> x.keeps(4, 1, 6, 10), NONE);
        Scene.idle("wipe: no signs", empty, MorningBite::wipe, 0);
        Scene.idle("forget: no sights", empty, MorningBite::forget, 0);
        Scene.idle("done: no ACTS", empty, MorningBite::done, 0);
    }
}
