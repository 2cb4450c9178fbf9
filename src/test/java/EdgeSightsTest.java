import java.math.BigInteger;

/** Section 4 and promises 19 to 25, sentence by sentence where a boundary is named; each quotes its sentence. */
final class EdgeSightsTest {
    private static final int UNKNOWN = -1, OUTSIDE = -2, FULL = -4, NONE = -6;
    private static final long GONE = Scene.GONE;

    public static void main(String[] args) {
        eightSights();
        sightsOfAges();
        sightsGo();
        noSights();
        nobodyIsOne();
        eachGiver();
        youthTellsNothing();
        notThereAnyMore();
        asThingsAre();
        whoWithoutNobody();
        askTheLeast();
        askByOneLess();
        askWhereNothingIsTold();
        askNone();
        lastHalf();
        thievesByTurns();
        noDaysOfWorms();
        wormyNeverOrAlways();
        sixDaysOfWorms();
        wormsBehindThem();
        lowestTerms();
        yearOfOneAct();
        yearsOfAllLengths();
        yearsAtTheEnds();
        yearOfNobody();
        yearFromAllAsItIs();
        Check.end();
    }

    private static void due(String what, long got, long want) {
        Check.due(what, got, want);
    }

    private static int[] row(int looks, int pace, int youth) {
        return Scene.row(looks, pace, youth);
    }

    /** "SIGHTS, 8 at most"; "A SIGHT more: how many. UNKNOWN; OUTSIDE; FULL." */
    private static void eightSights() {
        MorningBite x = Scene.six();
        for (int i = 1; i <= 8; i++) {
            due("sight " + i, x.seen(i % 6, 50), i);
            due("sights", x.told(5), i);
        }
        due("sight 9", x.seen(0, 50), FULL);
        due("sights still", x.told(5), 8);
        due("forget", x.forget(), 8);
        for (int i = 1; i <= 8; i++) {
            due("the same one again, " + i, x.seen(0, 30), i);
        }
        due("the same one a ninth time", x.seen(0, 30), FULL);
    }

    /** "a ONE LOOKED v (0 to 99)". */
    private static void sightsOfAges() {
        MorningBite x = Scene.of(row(9, 9, 0), row(99, 9, 0));
        due("v -1", x.seen(0, -1), OUTSIDE);
        due("v 100", x.seen(0, 100), OUTSIDE);
        due("C is not there", x.seen(2, 50), UNKNOWN);
        due("no sights", x.told(5), 0);
        due("v 0", x.seen(0, 0), 1);
        due("LOOKED 0: A ate two", x.gave(1), 2);
        due("LOOKED 0: B or nobody", x.gave(0), 2);
        due("v 99", x.seen(1, 99), 2);
        due("LOOKED 99: B ate one", x.gave(1), 2);
        due("LOOKED 99: B alone", x.gave(0), 1);
    }

    /** "SIGHTS go: how many there were." */
    private static void sightsGo() {
        MorningBite x = Scene.six();
        due("none", x.forget(), 0);
        for (int many : new int[] {1, 2, 7, 8}) {
            for (int i = 0; i < many; i++) {
                x.seen(5, 99);
            }
            due("none fits", x.gave(0), 0);
            due(many + " go", x.forget(), many);
            due("none is left", x.told(5), 0);
            due("all fit", x.gave(0), 7);
        }
        due("none again", x.forget(), 0);
    }

    /** No SIGHTS: each ONE that is there, and nobody. */
    private static void noSights() {
        due("nobody is there: how many", new MorningBite().gave(0), 1);
        due("nobody is there: who", new MorningBite().gave(1), 0);
        MorningBite x = Scene.six();
        for (int there = 6; there >= 0; there--) {
            due(there + " are there: how many", x.gave(0), there + 1);
            due(there + " are there: who", x.gave(1), (1 << there) - 1);
            if (there > 0) {
                x.leave(there - 1);
            }
        }
    }

    /** "one ONE at the most gave a half away": "(nobody is one, too)". */
    private static void nobodyIsOne() {
        MorningBite x = Scene.six();
        for (int one = 0; one < 6; one++) {
            x.seen(one, 29 + 9 * one);
            due("all up to " + one + " ate two: how many", x.gave(0), 6 - one);
            due("all up to " + one + " ate two: who", x.gave(1), 63 & ~((2 << one) - 1));
        }
        due("nobody alone: how many", x.gave(0), 1);
        due("nobody alone: who", x.gave(1), 0);
        x.seen(0, 30);
        due("A both ways: nobody neither", x.gave(0), 0);
        MorningBite y = Scene.six();
        y.seen(0, 30);
        due("A ate one", y.gave(1), 1);
        y.seen(1, 40);
        due("B, too: two givers are none", y.gave(0), 0);
        due("two givers: who", y.gave(1), 0);
    }

    /** "so that it ate one; each other one ate two: behind the next morning". */
    private static void eachGiver() {
        for (int one = 0; one < 6; one++) {
            MorningBite x = Scene.six();
            x.seen(one, 30 + 10 * one);
            due("it ate one, " + one, x.gave(1), 1 << one);
            due("it alone, " + one, x.gave(0), 1);
            x.forget();
            x.seen(one, 29 + 9 * one);
            due("it ate two, " + one, x.gave(1), 63 & ~(1 << one));
            due("the others and nobody", x.gave(0), 6);
            x.forget();
            x.seen(one, 31 + 11 * one);
            due("it ate none, " + one, x.gave(0), 0);
            x.forget();
            x.seen(one, 28 + 9 * one);
            due("a year younger", x.gave(0), 0);
        }
    }

    /** A ONE at its YOUTH LOOKS the same by one half as by two; a year above it, not. */
    private static void youthTellsNothing() {
        MorningBite x = Scene.of(row(50, 9, 50), row(51, 9, 50), row(0, 9, 0), row(99, 1, 99));
        x.seen(0, 50);
        due("at its YOUTH: all", x.gave(0), 5);
        x.seen(2, 0);
        x.seen(3, 99);
        due("three at their YOUTH: all", x.gave(1), 15);
        x.seen(1, 50);
        due("a year above it: not B", x.gave(1), 13);
        x.forget();
        x.seen(1, 51);
        due("a year above it: B", x.gave(1), 2);
        x.forget();
        x.seen(0, 41);
        due("below its YOUTH: none", x.gave(0), 0);
    }

    /** "(one of a ONE that is not there any more: by none, nobody too)". */
    private static void notThereAnyMore() {
        MorningBite x = Scene.six();
        x.seen(2, 47);
        due("C is there", x.gave(0), 6);
        x.leave(2);
        due("C left", x.gave(0), 0);
        due("C left: who", x.gave(1), 0);
        due("C left: ask", x.ask(0), NONE);
        due("the sight stays", x.told(5), 1);
        x.one(2, 50, 3, 20);
        due("C came back", x.gave(1), 59);
        x.one(2, 47, 3, 47);
        due("C came back at its YOUTH", x.gave(0), 7);
        Scene.pad(x, "Cx").done();
        due("C went by an ACT", x.gave(0), 0);
        x.forget();
        due("without the sight", x.gave(0), 6);
        due("C is no giver", x.gave(1), 59);
        MorningBite y = Scene.of(row(50, 5, 5));
        y.seen(0, 45);
        y.leave(0);
        due("nobody is there any more", y.gave(0), 0);
        due("nobody is there any more: ask", y.ask(1), NONE);
    }

    /** "(As things are when that is asked, for SIGHTS told before, too.)" */
    private static void asThingsAre() {
        MorningBite x = Scene.six();
        x.seen(0, 29);
        due("A 30 ate two", x.gave(1), 62);
        x.one(0, 29, 1, 20);
        due("A 29 ate one", x.gave(1), 1);
        x.one(0, 28, 1, 20);
        due("A 28 can not", x.gave(0), 0);
        Scene.pad(x, "..").done();
        due("A 30 again", x.gave(1), 62);
        Scene.pad(x, "AhBb").done();
        due("what is EATEN now is no matter", x.gave(1), 62);
        x.set(2, 0);
        x.set(0, 0);
        due("SHE and the BASKET neither", x.gave(0), 6);
    }

    /** "who, as bits (without nobody)". */
    private static void whoWithoutNobody() {
        int[] sights = {29, 38, 47, 56, 65, 74};
        for (int told = 0; told < 64; told++) {
            MorningBite x = Scene.six();
            for (int one = 0; one < 6; one++) {
                if ((told >> one & 1) == 1) {
                    x.seen(one, sights[one]);
                }
            }
            due("who, by " + told, x.gave(1), 63 & ~told);
            due("how many, by " + told, x.gave(0), 7 - Integer.bitCount(told));
        }
    }

    /** "fewest of these are left at the most: the least". */
    private static void askTheLeast() {
        for (int first = 0; first < 6; first++) {
            MorningBite x = Scene.six();
            for (int one = 0; one < first; one++) {
                x.leave(one);
            }
            due("from " + first + " on: the ONE", x.ask(0), first);
            due("from " + first + " on: how many", x.ask(1), Math.max(1, 6 - first));
        }
        MorningBite x = Scene.of(row(50, 5, 50), row(50, 5, 50), row(50, 5, 5), row(50, 5, 5));
        due("who are at their YOUTH tell nothing: the ONE", x.ask(0), 2);
        due("who are at their YOUTH tell nothing: how many", x.ask(1), 4);
        x.one(0, 51, 5, 50);
        due("a year above it", x.ask(0), 0);
    }

    /** Each look leaves one less, down to one. */
    private static void askByOneLess() {
        MorningBite x = Scene.six();
        for (int one = 0; one < 6; one++) {
            due("ask", x.ask(0), one);
            due("at the most", x.ask(1), Math.max(1, 6 - one));
            x.seen(one, 29 + 9 * one);
            due("that many are left", x.gave(0), 6 - one);
        }
        due("nobody alone: the least", x.ask(0), 0);
        due("nobody alone: one", x.ask(1), 1);
        MorningBite y = Scene.six();
        y.seen(4, 70);
        due("E alone: the least", y.ask(0), 0);
        due("E alone: one", y.ask(1), 1);
        y.leave(0);
        due("E alone, A left: the least there", y.ask(0), 1);
    }

    /** All at their YOUTH: each look leaves all. */
    private static void askWhereNothingIsTold() {
        MorningBite x = new MorningBite();
        for (int one = 5; one >= 0; one--) {
            x.one(one, 50, 5, 50);
            due("the least: " + one, x.ask(0), one);
            due("all are left: " + one, x.ask(1), 7 - one);
        }
    }

    /** "NONE: no giver fits, or nobody is there." */
    private static void askNone() {
        MorningBite x = Scene.six();
        x.seen(0, 99);
        due("no giver fits: the ONE", x.ask(0), NONE);
        due("no giver fits: how many", x.ask(1), NONE);
        MorningBite y = new MorningBite();
        due("nobody is there: the ONE", y.ask(0), NONE);
        due("nobody is there: how many", y.ask(1), NONE);
        due("what 2", y.ask(2), OUTSIDE);
        due("what -1", y.ask(-1), OUTSIDE);
        y.one(5, 0, 1, 0);
        due("one is there: the ONE", y.ask(0), 5);
        due("one is there: how many", y.ask(1), 2);
    }

    private static void thieves(int n, int k, int takes) {
        MorningBite x = new MorningBite();
        due(n + " by " + k + ": whether", x.thieves(n, k, 0), takes == NONE ? 0 : 1);
        due(n + " by " + k + ": how many", x.thieves(n, k, 1), takes);
    }

    /** "of n halves (1 to 99) .. 1 to k (1 to 9) ..; who takes the last one is caught, and loses". */
    private static void lastHalf() {
        for (int k = 1; k <= 9; k++) {
            thieves(1, k, NONE);
            for (int n = 2; n <= k + 1; n++) {
                thieves(n, k, n - 1);
            }
            thieves(k + 2, k, NONE);
            thieves(k + 3, k, 1);
        }
        thieves(99, 1, NONE);
        thieves(98, 1, 1);
        thieves(99, 9, 8);
        thieves(91, 9, NONE);
        thieves(92, 9, 1);
        thieves(99, 6, NONE);
        due("n 0", new MorningBite().thieves(0, 5, 0), OUTSIDE);
        due("n 100", new MorningBite().thieves(100, 5, 0), OUTSIDE);
        due("k 0", new MorningBite().thieves(5, 0, 0), OUTSIDE);
        due("k 10", new MorningBite().thieves(5, 10, 0), OUTSIDE);
    }

    /** "two by turns take": each number of halves, by those below it. */
    private static void thievesByTurns() {
        for (int k = 1; k <= 9; k++) {
            boolean[] wins = new boolean[100];
            for (int n = 1; n <= 99; n++) {
                int takes = NONE;
                for (int t = Math.min(k, n - 1); t >= 1; t--) {
                    takes = wins[n - t] ? takes : t;
                }
                wins[n] = takes != NONE;
                thieves(n, k, takes);
            }
        }
    }

    private static void worms(MorningBite x, int[] k, long upper, long lower) {
        String call = "worms(" + k[0] + ", " + k[1] + ", " + k[2] + ", " + k[3] + ")";
        due(call + ": upper", x.worms(k[0], k[1], k[2], k[3], 0), upper);
        due(call + ": lower", x.worms(k[0], k[1], k[2], k[3], 1), lower);
    }

    /** "each of a days (0 to 6)": none, so it LOOKS as it does. */
    private static void noDaysOfWorms() {
        MorningBite x = Scene.of(row(50, 9, 0), row(0, 1, 0), row(99, 1, 0));
        for (int t = 0; t <= 10; t++) {
            worms(x, new int[] {0, 0, t, 49}, 0, 1);
            worms(x, new int[] {0, 0, t, 50}, 1, 1);
            worms(x, new int[] {0, 0, t, -1}, 50, 1);
        }
        worms(x, new int[] {1, 0, 5, 0}, 1, 1);
        worms(x, new int[] {1, 0, 5, -1}, 0, 1);
        worms(x, new int[] {2, 0, 5, 98}, 0, 1);
        worms(x, new int[] {2, 0, 5, 99}, 1, 1);
        worms(x, new int[] {2, 0, 5, -1}, 99, 1);
        due("a -1", x.worms(0, -1, 5, 50, 0), GONE + OUTSIDE);
        due("a 7", x.worms(0, 7, 5, 50, 0), GONE + OUTSIDE);
    }

    /** "wormy with t tenths (0 to 10)": never, always. */
    private static void wormyNeverOrAlways() {
        MorningBite x = Scene.of(row(50, 9, 20), row(60, 9, 0));
        for (int a = 0; a <= 6; a++) {
            int young = Math.max(20, 50 - 9 * a);
            int old = Math.min(99, 50 + 9 * a);
            worms(x, new int[] {0, a, 0, -1}, young, 1);
            worms(x, new int[] {0, a, 10, -1}, old, 1);
            worms(x, new int[] {0, a, 0, young}, 1, 1);
            worms(x, new int[] {0, a, 0, young - 1}, 0, 1);
            worms(x, new int[] {0, a, 10, old}, 1, 1);
            worms(x, new int[] {0, a, 10, old - 1}, 0, 1);
            worms(x, new int[] {1, a, 10, -1}, Math.min(99, 60 + 9 * a), 1);
        }
        due("t -1", x.worms(0, 1, -1, 50, 0), GONE + OUTSIDE);
        due("t 11", x.worms(0, 1, 11, 50, 0), GONE + OUTSIDE);
    }

    /** The most days: chances over a million. */
    private static void sixDaysOfWorms() {
        MorningBite x = Scene.of(row(50, 1, 0), row(0, 9, 0), row(99, 9, 99));
        worms(x, new int[] {0, 6, 1, 44}, 531441, 1000000);
        worms(x, new int[] {0, 6, 1, 45}, 531441, 1000000);
        worms(x, new int[] {0, 6, 1, 46}, 177147, 200000);
        worms(x, new int[] {0, 6, 1, 43}, 0, 1);
        worms(x, new int[] {0, 6, 9, 55}, 468559, 1000000);
        worms(x, new int[] {0, 6, 9, 56}, 1, 1);
        worms(x, new int[] {0, 6, 5, 44}, 1, 64);
        worms(x, new int[] {0, 6, 5, 49}, 11, 32);
        worms(x, new int[] {0, 6, 5, -1}, 50, 1);
        worms(x, new int[] {0, 6, 1, -1}, 226, 5);
        worms(x, new int[] {0, 6, 9, -1}, 274, 5);
        worms(x, new int[] {1, 6, 1, 99}, 1, 1);
        worms(x, new int[] {1, 6, 0, 0}, 1, 1);
        worms(x, new int[] {2, 6, 3, -1}, 99, 1);
        worms(x, new int[] {2, 6, 3, 98}, 0, 1);
        worms(x, new int[] {2, 6, 3, 99}, 1, 1);
    }

    /** "behind them": the days between are no matter; "then it has EATEN none that day", not one. */
    private static void wormsBehindThem() {
        MorningBite x = Scene.of(row(95, 5, 0), row(3, 5, 0), row(98, 9, 97));
        worms(x, new int[] {0, 1, 5, -1}, 189, 2);
        // Good, bad: 95; bad, good: 94, by way of 99. Both bad: 99; both good: 85.
        worms(x, new int[] {0, 2, 5, -1}, 85 + 95 + 94 + 99, 4);
        worms(x, new int[] {0, 2, 5, 94}, 1, 2);
        worms(x, new int[] {0, 2, 5, 95}, 3, 4);
        // By way of 0: 5 and 0; by way of 8: 3 and 13.
        worms(x, new int[] {1, 2, 5, -1}, 21, 4);
        worms(x, new int[] {1, 2, 5, 3}, 1, 2);
        worms(x, new int[] {1, 2, 5, 4}, 1, 2);
        worms(x, new int[] {1, 2, 5, 5}, 3, 4);
        worms(x, new int[] {2, 1, 5, -1}, 98, 1);
        worms(x, new int[] {2, 1, 5, 97}, 1, 2);
        x.set(0, 2);
        Scene.pad(x, "Ab").done();
        worms(x, new int[] {0, 1, 5, -1}, 189, 2);
        due("v -2", x.worms(0, 1, 5, -2, 0), GONE + OUTSIDE);
        due("v 100", x.worms(0, 1, 5, 100, 0), GONE + OUTSIDE);
    }

    /** "Fractions are told in lowest terms by part: 0 the upper, 1 the lower number". */
    private static void lowestTerms() {
        int[][] people = {{50, 5, 40}, {0, 1, 0}, {99, 9, 0}, {97, 2, 90}};
        for (int a = 0; a <= 6; a++) {
            for (int t = 0; t <= 10; t++) {
                MorningBite x = Scene.of(people);
                for (int one = 0; one < 4; one++) {
                    for (int v : new int[] {-1, 0, 45, 50, 60, 90, 99}) {
                        long upper = x.worms(one, a, t, v, 0);
                        long lower = x.worms(one, a, t, v, 1);
                        String call = "worms(" + one + ", " + a + ", " + t + ", " + v + "): " + upper + " of " + lower;
                        Check.holds(call, lower >= 1 && (long) Math.pow(10, a) % lower == 0);
                        Check.holds(call, upper >= 0 && upper <= (v < 0 ? 99 : 1) * lower);
                        Check.due(call, BigInteger.valueOf(upper).gcd(BigInteger.valueOf(lower)).longValue(), 1);
                    }
                }
            }
        }
        MorningBite x = Scene.of(people);
        due("part -1", x.worms(0, 1, 5, 50, -1), GONE + OUTSIDE);
        due("part 2", x.worms(0, 1, 5, 50, 2), GONE + OUTSIDE);
        due("UNKNOWN", x.worms(4, 1, 5, 50, 0), GONE + UNKNOWN);
        due("GONE and the refusal", x.worms(4, 1, 5, 50, 0), -1000000000000000001L);
    }

    private static MorningBite[] crowds() {
        MorningBite some = Scene.of(row(50, 5, 5), null, row(53, 9, 53), row(99, 1, 98), null, row(52, 3, 3));
        some.set(0, 4);
        Scene.pad(some, "AhCb").done();
        MorningBite away = Scene.six();
        away.set(2, 0);
        Scene.pad(away, "AbBhChDbEhFb").done();
        return new MorningBite[] {Scene.six(), some, away, new MorningBite()};
    }

    /** Each seed's first ACT, as it is when it is said on the PAD; one that can not be is left out. */
    private static void yearOfOneAct() {
        for (int crowd = 0; crowd < 4; crowd++) {
            int[] kinds = new int[7];
            for (int seed = 0; seed <= 9999; seed += crowd == 1 ? 1 : 7) {
                MorningBite x = crowds()[crowd];
                int draw = (75 * seed + 74) % 65537;
                String act = actOf(draw);
                kinds[draw / 6 % 7]++;
                Scene.pad(x, act);
                if (x.judge(0) != NONE) {
                    x.wipe();
                }
                int sum = 0;
                int oldest = NONE;
                for (int one = 5; one >= 0; one--) {
                    int looks = x.behind(one, 0);
                    sum += Math.max(0, looks);
                    oldest = looks >= 0 && (oldest == NONE || looks >= x.behind(oldest, 0)) ? one : oldest;
                }
                String call = "crowd " + crowd + ", year(" + seed + ", 1), " + act;
                due(call + ": LOOKS", x.year(seed, 1, 0), sum);
                due(call + ": who", x.year(seed, 1, 1), oldest);
                due(call + ": mornings", x.year(seed, 1, 2), act.equals(".") ? 1 : 0);
            }
            for (int kind = 0; kind < 7; kind++) {
                Check.holds("kind " + kind + " is drawn", kinds[kind] > 0);
            }
        }
    }

    private static String actOf(int draw) {
        String letters = "ABCDEF";
        String who = letters.substring(draw % 6, draw % 6 + 1);
        int other = draw / 42 % 6;
        switch (draw / 6 % 7) {
            case 0: case 1: return who + "b";
            case 2: case 3: return who + "h";
            case 4: return who + ">" + letters.charAt(other);
            case 5: return ".";
            default: return "!";
        }
    }

    /** "m ACTS (1 to 99)": each length, lived act by act on the PAD. */
    private static void yearsOfAllLengths() {
        for (int seed : new int[] {0, 1, 2, 5000, 9998, 9999}) {
            MorningBite lived = Scene.six();
            int draw = seed;
            int mornings = 0;
            for (int m = 1; m <= 99; m++) {
                draw = (75 * draw + 74) % 65537;
                String act = actOf(draw);
                Scene.pad(lived, act).done();
                mornings += act.equals(".") ? 1 : 0;
                if (m == 1 || m == 2 || m == 50 || m >= 98) {
                    lived.wipe();
                    int sum = 0;
                    for (int one = 0; one < 6; one++) {
                        sum += lived.told(10 + 10 * one);
                    }
                    due("year(" + seed + ", " + m + ", 0)", Scene.six().year(seed, m, 0), sum);
                    due("year(" + seed + ", " + m + ", 2)", Scene.six().year(seed, m, 2), mornings);
                }
            }
        }
    }

    /** "a seed (0 to 9999) of m ACTS (1 to 99)". */
    private static void yearsAtTheEnds() {
        MorningBite x = Scene.six();
        // Seed 0 draws 74: of C, 12 left over by 7 is 5: a morning.
        due("seed 0", x.year(0, 1, 2), 1);
        due("seed 0: LOOKS", x.year(0, 1, 0), 330 + 21);
        due("seed 0: who", x.year(0, 1, 1), 5);
        due("seed 9999", x.year(9999, 1, 2), actOf((75 * 9999 + 74) % 65537).equals(".") ? 1 : 0);
        due("seed -1", x.year(-1, 1, 0), OUTSIDE);
        due("seed 10000", x.year(10000, 1, 0), OUTSIDE);
        due("m 0", x.year(0, 0, 0), OUTSIDE);
        due("m 100", x.year(0, 100, 0), OUTSIDE);
        due("what -1", x.year(0, 1, -1), OUTSIDE);
        due("what 3", x.year(0, 1, 3), OUTSIDE);
    }

    /** "who LOOKS oldest (NONE)". */
    private static void yearOfNobody() {
        for (int seed : new int[] {0, 1, 4711, 9999}) {
            MorningBite x = new MorningBite();
            due("nobody: LOOKS", x.year(seed, 99, 0), 0);
            due("nobody: who", x.year(seed, 99, 1), NONE);
            due("nobody: the mornings come", x.year(seed, 99, 2), Scene.six().year(seed, 99, 2));
        }
        MorningBite level = new MorningBite();
        for (int one = 5; one >= 0; one--) {
            level.one(one, 99, 1, 99);
            due("level: the least", level.year(0, 1, 1), one);
        }
        due("who LOOKS 0 alone", Scene.of(null, row(0, 1, 0)).year(9, 1, 1), 1);
    }

    /** "from all as it is": EATEN, BASKET, GROWN and SHE, too; the PAD is no matter; "Nothing is DONE in fact." */
    private static void yearFromAllAsItIs() {
        int unlike = 0;
        for (int seed = 0; seed < 200; seed++) {
            MorningBite x = Scene.six();
            int plain = x.year(seed, 60, 0);
            Scene.pad(x, "AxBx..");
            due("the PAD is no matter", x.year(seed, 60, 0), plain);
            x.set(0, 0);
            unlike |= x.year(seed, 60, 0) == plain ? 0 : 1;
            x.set(0, 12);
            x.set(1, 0);
            unlike |= x.year(seed, 60, 0) == plain ? 0 : 2;
            x.set(1, 12);
            x.set(2, 0);
            unlike |= x.year(seed, 60, 0) == plain ? 0 : 4;
            x.set(2, 1);
            due("all as it was", x.year(seed, 60, 0), plain);
            Scene.pad(x, "AbBbCbDbEbFb").done();
            x.set(0, 12);
            unlike |= x.year(seed, 60, 0) == plain ? 0 : 8;
        }
        due("BASKET, GROWN, SHE and EATEN are a matter", unlike, 15);
    }
}
