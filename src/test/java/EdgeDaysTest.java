/** Section 2 and promises 8 to 14, sentence by sentence where a boundary is named; each quotes its sentence. */
final class EdgeDaysTest {
    private static final int UNKNOWN = -1, OUTSIDE = -2, STATE = -3, NO = -5, NONE = -6;
    private static final String DOTS = Scene.FULL_PAD;

    public static void main(String[] args) {
        firstAct();
        firstActOfMany();
        howManyMornings();
        judgeOfAFault();
        judgeOfWhatCanNotBe();
        behindLooks();
        behindEaten();
        notThereThen();
        basketBehind();
        passedYoungerThenOlder();
        levelIsNoPass();
        firstMorning();
        whoIsThere();
        leastTwo();
        noPass();
        oldestIsTheLeast();
        oldestOfNobody();
        oldestByMorning();
        noDays();
        fullDays();
        doneInFact();
        doneLeavesTheRest();
        notDone();
        lastsToV();
        lastsForAHundred();
        lastsNone();
        lastsAsCounted();
        Check.end();
    }

    private static void due(String what, long got, long want) {
        Check.due(what, got, want);
    }

    private static MorningBite pad(MorningBite x, String text) {
        return Scene.pad(x, text);
    }

    private static int[] row(int looks, int pace, int youth) {
        return Scene.row(looks, pace, youth);
    }

    /** "the first ACT (from 0 on) that can not be, why". */
    private static void firstAct() {
        MorningBite x = pad(Scene.six(), "A>B");
        due("ACT 0", x.judge(0), 0);
        due("ACT 0: why", x.judge(1), 5);
        pad(x, DOTS.substring(0, 58) + "Ah");
        x.set(1, 0);
        due("the last ACT that can be of 60 signs", x.judge(0), 58);
        due("the last ACT: why", x.judge(1), 4);
        pad(x, DOTS.substring(0, 57) + "A>B");
        due("the last but one, of three signs", x.judge(0), 57);
        due("the last but one: why", x.judge(1), 5);
        pad(x, "AhBhCh");
        due("all can be", x.judge(0), NONE);
        due("all can be: why", x.judge(1), NONE);
        pad(x, "AhBhC>C");
        due("ACTS are counted, not signs", x.judge(0), 2);
    }

    /** The first of some, whatever comes behind it. */
    private static void firstActOfMany() {
        String[] bad = {"A>A", "AhAb", "B>A", "AxAx"};
        int[] acts = {0, 1, 0, 1};
        int[] whys = {2, 3, 5, 1};
        for (int i = 0; i < bad.length; i++) {
            for (String more : new String[] {"", ".", "A>A", "AbAb", "..."}) {
                MorningBite x = pad(Scene.six(), bad[i] + more);
                due(bad[i] + more, x.judge(0), acts[i]);
                due(bad[i] + more + ": why", x.judge(1), whys[i]);
                x = pad(Scene.six(), ".!" + bad[i] + more);
                due(".!" + bad[i] + more, x.judge(0), acts[i] + 2);
            }
        }
    }

    /** "how many mornings". */
    private static void howManyMornings() {
        for (int mornings : new int[] {0, 1, 2, 30, 59, 60}) {
            due(mornings + " mornings", pad(Scene.six(), DOTS.substring(0, mornings)).judge(2), mornings);
            due(mornings + " mornings, nobody", pad(new MorningBite(), DOTS.substring(0, mornings)).judge(2), mornings);
        }
        due("other ACTS are no mornings", pad(Scene.six(), "Ab!Bx!A>D").judge(2), 0);
        due("in between", pad(Scene.six(), ".Ab.!.").judge(2), 3);
    }

    /** "OUTSIDE; NO: there is a FAULT". */
    private static void judgeOfAFault() {
        for (String text : new String[] {"A", "A>", ".A", "A>B>", "Ab~", DOTS.substring(1) + "F"}) {
            MorningBite x = pad(Scene.six(), text);
            for (int what = 0; what < 3; what++) {
                due("judge(" + what + ") of " + text, x.judge(what), NO);
            }
            due("judge(3) of " + text, x.judge(3), OUTSIDE);
            due("judge(-1) of " + text, x.judge(-1), OUTSIDE);
        }
    }

    /** "STATE (2): some ACT can not be": of mornings alone. */
    private static void judgeOfWhatCanNotBe() {
        MorningBite x = pad(Scene.six(), "..A>A");
        due("the ACT", x.judge(0), 2);
        due("why", x.judge(1), 2);
        due("mornings", x.judge(2), STATE);
        due("what 3", x.judge(3), OUTSIDE);
        pad(x, "..A>B");
        x.set(1, 0);
        due("mornings of another", x.judge(2), STATE);
        pad(x, "..");
        due("mornings, all can be", x.judge(2), 2);
    }

    /** "BEHIND: of a ONE LOOKS", of all six, from 0 to 99. */
    private static void behindLooks() {
        MorningBite x = Scene.of(row(0, 1, 0), row(99, 9, 99), row(98, 1, 0), row(1, 1, 0), row(50, 9, 50),
            row(9, 9, 0));
        x.set(0, 12);
        int[] now = {0, 99, 98, 1, 50, 9};
        int[] unfed = {1, 99, 99, 2, 59, 18};
        int[] fed = {0, 99, 97, 0, 50, 0};
        for (int one = 0; one < 6; one++) {
            due("now, " + one, pad(x, "").behind(one, 0), now[one]);
            due("by day, " + one, pad(x, "AbBbCbDbEbFb!").behind(one, 0), now[one]);
            due("unfed, " + one, pad(x, ".").behind(one, 0), unfed[one]);
            due("fed, " + one, pad(x, "AbBbCbDbEbFb.").behind(one, 0), fed[one]);
            due("by a half, " + one, pad(x, "AhBhChDhEhFh.").behind(one, 0), now[one]);
        }
    }

    /** "EATEN" behind: 0, 1, 2. */
    private static void behindEaten() {
        MorningBite x = Scene.six();
        pad(x, "AhBb");
        due("one", x.behind(0, 1), 1);
        due("two", x.behind(1, 1), 2);
        due("none", x.behind(2, 1), 0);
        x.done();
        due("now: one", x.behind(0, 1), 1);
        due("now: two", x.behind(1, 1), 2);
        pad(x, "B>A");
        due("given: two", x.behind(0, 1), 2);
        due("given: one", x.behind(1, 1), 1);
        pad(x, "B>A.");
        due("behind a morning", x.behind(0, 1) + x.behind(1, 1), 0);
        due("it was two that A ate", x.behind(0, 0), 29);
        due("it was one that B ate", x.behind(1, 0), 40);
    }

    /** "UNKNOWN (behind that): it is not there then". */
    private static void notThereThen() {
        MorningBite x = Scene.of(row(50, 5, 5), null, row(60, 6, 6));
        for (String text : new String[] {"", "!", ".", "Ax", "Ax.", ".Ax"}) {
            boolean gone = text.contains("x");
            pad(x, text);
            for (int what = 0; what < 2; what++) {
                due("A behind " + text, x.behind(0, what) == UNKNOWN ? 1 : 0, gone ? 1 : 0);
                due("B behind " + text, x.behind(1, what), UNKNOWN);
                due("C behind " + text, x.behind(2, what) == UNKNOWN ? 1 : 0, 0);
                due("-1 behind " + text, x.behind(-1, what), UNKNOWN);
                due("6 behind " + text, x.behind(6, what), UNKNOWN);
            }
            due("what 2 behind " + text, x.behind(1, 2), OUTSIDE);
        }
    }

    /** "BASKET behind", from 0 to 99. */
    private static void basketBehind() {
        MorningBite x = Scene.six();
        for (int halves : new int[] {0, 1, 2, 12, 99}) {
            x.set(0, halves);
            due("as it is, " + halves, pad(x, "").basket(), halves);
            due("others' ACTS", pad(x, "Ax!").basket(), halves);
            due("a whole", pad(x, "Bb").basket(), halves >= 2 ? halves - 2 : STATE);
            due("a half", pad(x, "Bh").basket(), halves >= 1 ? halves - 1 : STATE);
            due("a FAULT", pad(x, "B").basket(), NO);
            due("a morning", pad(x, ".").basket(), 12);
        }
        for (int grown : new int[] {0, 1, 40}) {
            x.set(1, grown);
            due("GROWN " + grown, pad(x, "..").basket(), grown);
            due("GROWN " + grown + ", a half", pad(x, ".Ah").basket(), grown >= 1 ? grown - 1 : STATE);
        }
    }

    private static void passed(String what, MorningBite x, String text, int morning, int who) {
        pad(x, text);
        due(what + " " + text + ": the morning", x.passed(0), morning);
        due(what + " " + text + ": who", x.passed(1), who);
    }

    /** "by which of some two ONES that are there the one who LOOKED younger just ahead of it LOOKS older behind it". */
    private static void passedYoungerThenOlder() {
        passed("A only draws level", Scene.of(row(50, 2, 0), row(51, 1, 0)), ".", NONE, NONE);
        passed("A passes B by one", Scene.of(row(50, 3, 0), row(51, 1, 0)), ".", 0, 1);
        passed("B passes A", Scene.of(row(51, 1, 0), row(50, 3, 0)), ".", 0, 1);
        passed("B ages more", Scene.of(row(50, 1, 0), row(51, 9, 0)), ".", NONE, NONE);
        MorningBite x = Scene.of(row(50, 1, 0), row(51, 9, 0));
        x.set(0, 2);
        passed("B eats and is passed", x, "Bb.", 0, 1);
        passed("B eats a half", x, "Bh.", NONE, NONE);
        passed("both ways: the first", x, "Bb..", 0, 1);
        passed("no morning behind it", x, "Bb", NONE, NONE);
        passed("the cap makes level", Scene.of(row(98, 1, 0), row(97, 9, 0)), ".", NONE, NONE);
        passed("just below the cap", Scene.of(row(97, 1, 0), row(96, 3, 0)), ".", 0, 1);
        MorningBite y = Scene.of(row(20, 9, 19), row(21, 9, 0));
        y.set(0, 4);
        passed("the YOUTH lets it be passed", y, "AbBb.", 0, 1);
        MorningBite z = Scene.of(row(20, 9, 12), row(21, 9, 0));
        z.set(0, 4);
        passed("the YOUTH makes level", z, "AbBb.", NONE, NONE);
    }

    /** Level ahead of a morning, or behind it, is neither younger nor older. */
    private static void levelIsNoPass() {
        passed("level ahead", Scene.of(row(50, 1, 0), row(50, 9, 0)), ".", NONE, NONE);
        passed("level ahead, the other", Scene.of(row(50, 9, 0), row(50, 1, 0)), "..", NONE, NONE);
        passed("level behind", Scene.of(row(50, 2, 0), row(51, 1, 0)), ".", NONE, NONE);
        passed("level behind, then ahead", Scene.of(row(50, 2, 0), row(51, 1, 0)), "..", NONE, NONE);
        passed("level behind, then ahead, the other", Scene.of(row(51, 1, 0), row(50, 2, 0)), "...", NONE, NONE);
        passed("level always", Scene.of(row(50, 5, 0), row(50, 5, 0)), "...", NONE, NONE);
    }

    /** "the first morning (0 on)", from the first to a late one. */
    private static void firstMorning() {
        for (int late : new int[] {0, 1, 2, 10, 32}) {
            MorningBite x = Scene.of(row(0, 3, 0), row(1 + 2 * late, 1, 0));
            passed("after " + late, x, DOTS.substring(0, late + 1), late, 1);
            passed("after " + late + ", all signs", x, DOTS, late, 1);
            passed("not yet", x, DOTS.substring(0, late), NONE, NONE);
        }
        MorningBite x = Scene.of(row(50, 3, 0), row(51, 1, 0), row(40, 9, 0));
        passed("two mornings: the first's two", x, "..", 0, 1);
        passed("other ACTS are not counted", x, "!!CxAx", NONE, NONE);
        passed("mornings are counted, not ACTS", x, "!!.", 0, 1);
    }

    /** "of some two ONES that are there". */
    private static void whoIsThere() {
        MorningBite x = Scene.of(row(50, 9, 0), row(51, 1, 0), row(52, 1, 0));
        passed("all are there", x, ".", 0, 1);
        passed("B goes ahead of it", x, "Bx.", 0, 2);
        passed("A goes ahead of it", x, "Ax.", NONE, NONE);
        passed("two go", x, "BxCx.", NONE, NONE);
        passed("B goes behind it", x, ".Bx", 0, 1);
        passed("all go behind it", x, ".AxBxCx", 0, 1);
        passed("all go ahead of it", x, "AxBxCx.", NONE, NONE);
        x.leave(0);
        passed("A left", x, ".", NONE, NONE);
        x.one(5, 50, 9, 0);
        passed("F came", x, ".", 0, 15);
    }

    /** "the least two (10 times the lesser and the greater)", from 1 to 45. */
    private static void leastTwo() {
        for (int lesser = 0; lesser < 6; lesser++) {
            for (int greater = lesser + 1; greater < 6; greater++) {
                MorningBite x = new MorningBite();
                for (int one = 0; one < 6; one++) {
                    x.one(one, one == lesser ? 10 : one == greater ? 11 : 50 + one, one == lesser ? 3 : 1, 0);
                }
                passed("the lesser passes", x, ".", 0, 10 * lesser + greater);
                x.one(lesser, 11, 1, 0);
                x.one(greater, 10, 3, 0);
                passed("the greater passes", x, ".", 0, 10 * lesser + greater);
            }
        }
        passed("A passes all", Scene.of(row(50, 9, 0), row(51, 1, 0), row(51, 1, 0)), ".", 0, 1);
        passed("C passes all", Scene.of(row(51, 1, 0), row(51, 1, 0), row(50, 9, 0)), ".", 0, 2);
        passed("B and C, A and D: the least", Scene.of(row(50, 9, 0), row(20, 9, 0), row(21, 1, 0), row(51, 1, 0)), ".",
            0, 3);
        passed("all pass all", Scene.of(row(50, 1, 0), row(49, 3, 0), row(48, 5, 0), row(47, 7, 0), row(46, 9, 0)), ".",
            0, 1);
    }

    /** "(NONE)". */
    private static void noPass() {
        passed("nobody is there", new MorningBite(), DOTS, NONE, NONE);
        passed("one alone", Scene.of(row(50, 5, 5)), DOTS, NONE, NONE);
        passed("an empty PAD", Scene.of(row(50, 9, 5), row(51, 1, 5)), "", NONE, NONE);
        passed("no morning", Scene.of(row(50, 9, 5), row(51, 1, 5)), "!Ax", NONE, NONE);
        passed("six in their order", Scene.six(), DOTS, NONE, NONE);
    }

    /** "who LOOKS oldest behind it (the least ..)". */
    private static void oldestIsTheLeast() {
        for (int oldest = 0; oldest < 6; oldest++) {
            MorningBite x = new MorningBite();
            for (int one = 0; one < 6; one++) {
                x.one(one, one < oldest ? 40 : 50, 1, 0);
            }
            due("level from " + oldest + " on", pad(x, ".").oldest(0), oldest);
            x.one(5, 51, 1, 0);
            due("F a year older", pad(x, ".").oldest(0), 5);
        }
        due("level by the cap", pad(Scene.of(row(90, 9, 0), row(99, 1, 0)), ".").oldest(0), 0);
        due("just below the cap", pad(Scene.of(row(89, 9, 0), row(99, 1, 0)), ".").oldest(0), 1);
        due("level behind, not ahead", pad(Scene.of(row(50, 2, 0), row(51, 1, 0)), ".").oldest(0), 0);
        MorningBite x = Scene.of(null, null, row(1, 1, 0));
        x.set(0, 2);
        due("who LOOKS 0 is oldest alone", pad(x, "Cb.").oldest(0), 2);
    }

    /** "NONE: nobody is there". */
    private static void oldestOfNobody() {
        due("nobody at first", pad(new MorningBite(), ".").oldest(0), NONE);
        MorningBite x = pad(Scene.of(row(50, 5, 5)), ".Ax.");
        due("A is there", x.oldest(0), 0);
        due("A went", x.oldest(1), NONE);
        due("no such morning", x.oldest(2), UNKNOWN);
        x = pad(new MorningBite(), DOTS);
        due("the last of sixty", x.oldest(59), NONE);
        due("beyond the last", x.oldest(60), UNKNOWN);
    }

    /** "of a told morning": the first, the last, none. */
    private static void oldestByMorning() {
        MorningBite x = Scene.of(row(0, 3, 0), row(1, 1, 0), row(50, 1, 50));
        for (int mornings : new int[] {1, 2, 26, 60}) {
            pad(x, DOTS.substring(0, mornings));
            due("the first of " + mornings, x.oldest(0), 2);
            due("the last of " + mornings, x.oldest(mornings - 1), mornings >= 25 ? 0 : 2);
            due("one more than " + mornings, x.oldest(mornings), UNKNOWN);
            due("-1 of " + mornings, x.oldest(-1), UNKNOWN);
        }
        due("level on the 25th", pad(x, DOTS).oldest(24), 0);
        due("the 24th", x.oldest(23), 2);
        due("none told", pad(x, "!").oldest(0), UNKNOWN);
        due("of an empty PAD", pad(x, "").oldest(0), UNKNOWN);
    }

    /** "no ACTS": all that is told of an empty PAD. */
    private static void noDays() {
        MorningBite x = Scene.six();
        due("judge(0)", x.judge(0), NONE);
        due("judge(1)", x.judge(1), NONE);
        due("judge(2)", x.judge(2), 0);
        due("basket", x.basket(), 12);
        due("passed(0)", x.passed(0), NONE);
        due("passed(1)", x.passed(1), NONE);
        due("oldest(0)", x.oldest(0), UNKNOWN);
        due("done", x.done(), 0);
        for (int one = 0; one < 6; one++) {
            due("behind(" + one + ", 0)", x.behind(one, 0), 30 + 10 * one);
            due("behind(" + one + ", 1)", x.behind(one, 1), 0);
        }
    }

    /** "a PAD of up to 60 signs": the most ACTS. */
    private static void fullDays() {
        MorningBite x = pad(Scene.of(row(0, 1, 0), null, null, null, null, row(99, 9, 0)), DOTS);
        due("judge(0)", x.judge(0), NONE);
        due("judge(2)", x.judge(2), 60);
        due("behind(0, 0)", x.behind(0, 0), 60);
        due("behind(5, 0)", x.behind(5, 0), 99);
        due("oldest(59)", x.oldest(59), 5);
        due("done", x.done(), 60);
        due("LOOKS", x.told(10), 60);
        due("signs", x.told(0), 0);
        pad(x, "AbAxFbFx" + DOTS.substring(0, 52));
        due("56 ACTS", x.done(), 56);
    }

    /** "DAYS are DONE (the PAD is empty then): ACTS." */
    private static void doneInFact() {
        MorningBite x = Scene.six();
        x.set(1, 9);
        due("done", pad(x, "AbBhB>C.!FxEh").done(), 7);
        due("signs", x.told(0), 0);
        due("who is there", x.told(1), 31);
        due("BASKET", x.told(2), 8);
        due("SHE", x.told(4), 0);
        int[] looks = {29, 42, 50, 64, 75};
        int[] eaten = {0, 0, 0, 0, 1};
        for (int one = 0; one < 5; one++) {
            due("LOOKS of " + one, x.told(10 + 10 * one), looks[one]);
            due("EATEN of " + one, x.told(13 + 10 * one), eaten[one]);
        }
        due("F is not there", x.told(60), OUTSIDE);
        due("done again: an empty PAD", x.done(), 0);
        due("LOOKS of A still", x.told(10), 29);
        due("one ACT", pad(x, "!").done(), 1);
    }

    /** What days do not name stays: GROWN, SIGHTS, images, PACE, YOUTH. */
    private static void doneLeavesTheRest() {
        MorningBite x = Scene.rich("Ah..!");
        due("done", x.done(), 4);
        due("GROWN", x.told(3), 7);
        due("SIGHTS", x.told(5), 2);
        due("PACE", x.told(51), 5);
        due("YOUTH", x.told(52), 66);
        due("image 0", x.restore(0), 1);
        due("image 0: A", x.told(10), 30);
        due("image 1", x.restore(1), 1);
        due("image 1: D is there", x.told(1), 63);
    }

    /** "NO, STATE, likewise." */
    private static void notDone() {
        MorningBite x = Scene.six();
        due("a FAULT", pad(x, "AbB").done(), NO);
        due("the signs stay", x.told(0), 3);
        due("A has not eaten", x.told(13), 0);
        x.say('b');
        due("no FAULT any more", x.done(), 2);
        due("an ACT that can not be", pad(x, ".Ax.Ab").done(), STATE);
        due("the signs stay, too", x.told(0), 6);
        due("A is there", x.told(1), 63);
        due("no morning came", x.told(10), 30);
        x.wipe();
        due("an empty PAD", x.done(), 0);
    }

    /** "how many mornings without a bite it can have so that it LOOKS no more than v (0 to 99)". */
    private static void lastsToV() {
        MorningBite x = Scene.of(row(50, 5, 5), row(0, 1, 0), row(0, 9, 0), row(98, 9, 9));
        int[][] rows = {{0, 50, 0}, {0, 54, 0}, {0, 55, 1}, {0, 59, 1}, {0, 60, 2}, {0, 98, 9}, {1, 0, 0}, {1, 1, 1},
            {1, 97, 97}, {1, 98, 98}, {2, 8, 0}, {2, 9, 1}, {2, 98, 10}, {3, 98, 0}};
        for (int[] r : rows) {
            due("lasts(" + r[0] + ", " + r[1] + ")", x.lasts(r[0], r[1]), r[2]);
        }
        due("v -1", x.lasts(0, -1), OUTSIDE);
        due("v 100", x.lasts(0, 100), OUTSIDE);
        due("E is not there", x.lasts(4, 50), UNKNOWN);
        due("UNKNOWN ahead", x.lasts(4, 100), UNKNOWN);
    }

    /** "100, if v is 99". */
    private static void lastsForAHundred() {
        for (int[] r : new int[][] {{0, 1, 0}, {0, 9, 0}, {50, 5, 5}, {98, 9, 98}, {99, 1, 0}, {99, 9, 99}}) {
            MorningBite x = Scene.of(r);
            due("LOOKS " + r[0], x.lasts(0, 99), 100);
            due("98 is not 99", x.lasts(0, 98) == 100 ? 1 : 0, 0);
        }
    }

    /** "NONE, if it LOOKS more now". */
    private static void lastsNone() {
        for (int looks : new int[] {1, 2, 50, 98, 99}) {
            MorningBite x = Scene.of(row(looks, 5, 0));
            due("one more than v, " + looks, x.lasts(0, looks - 1), NONE);
            due("v 0, " + looks, x.lasts(0, 0), NONE);
            due("as much as v, " + looks, x.lasts(0, looks), looks == 99 ? 100 : 0);
        }
        due("LOOKS 0, v 0", Scene.of(row(0, 1, 0)).lasts(0, 0), 0);
    }

    /** As it is when the mornings are told on the PAD; what was eaten today is no matter. */
    private static void lastsAsCounted() {
        for (int pace = 1; pace <= 9; pace++) {
            for (int v = 40; v < 99; v += 3) {
                MorningBite x = Scene.of(row(40, pace, 0));
                x.set(0, 2);
                pad(x, "Ab").done();
                int mornings = x.lasts(0, v);
                x.one(0, 40, pace, 0);
                int behind = pad(x, DOTS.substring(0, mornings)).behind(0, 0);
                Check.holds("in " + mornings + " by " + pace + ": " + behind + ", " + v, behind <= v);
                behind = pad(x, DOTS.substring(0, mornings + 1)).behind(0, 0);
                Check.holds("in one more by " + pace + ": " + behind + ", " + v, behind > v);
            }
        }
    }
}
