import java.util.Random;

/** Random runs of calls, with fixed seeds, on the class and on the oracle: every answer is the same. */
final class OracleTest {
    private static final int RUNS = 1500;
    private static final int CALLS = 512;
    private static final int[] EDGES = {Integer.MIN_VALUE, Integer.MIN_VALUE + 1, -1000000, -101, -2, -1, 0, 1, 2, 3, 5,
        6, 7, 8, 9, 10, 12, 13, 31, 32, 33, 40, 41, 59, 60, 61, 63, 64, 98, 99, 100, 126, 127, 1000000,
        Integer.MAX_VALUE - 1, Integer.MAX_VALUE};

    private final Random random;
    private final MorningBite x = new MorningBite();
    private final Oracle y = new Oracle();
    private final double wild;
    private final int most;
    private final StringBuilder words = new StringBuilder();

    private OracleTest(long seed) {
        random = new Random(seed);
        wild = seed % 4 == 0 ? 0.15 : 0.02;
        // In every third run all look much alike, so that ties and youths are met often.
        most = seed % 3 == 0 ? 15 : 99;
    }

    public static void main(String[] args) {
        for (int seed = 1; seed <= RUNS; seed++) {
            OracleTest run = new OracleTest(seed);
            for (int call = 0; call < CALLS; call++) {
                run.call(seed + ":" + call + " ");
            }
        }
        thieves();
        Check.end();
    }

    private static void thieves() {
        MorningBite x = new MorningBite();
        Oracle y = new Oracle();
        for (int n = 1; n < 100; n++) {
            for (int k = 1; k < 10; k++) {
                Check.due("thieves " + n + " " + k, x.thieves(n, k, 0), y.thieves(n, k, 0));
                Check.due("thieves first " + n + " " + k, x.thieves(n, k, 1), y.thieves(n, k, 1));
            }
        }
    }

    private int from(int least, int greatest) {
        if (random.nextDouble() < wild) {
            return random.nextBoolean() ? EDGES[random.nextInt(EDGES.length)]
                : random.nextBoolean() ? least - 1 : greatest + 1;
        }
        return least + random.nextInt(greatest - least + 1);
    }

    private int someOne() {
        for (int i = 0; i < 3; i++) {
            int one = random.nextInt(6);
            if ((x.told(1) >> one & 1) == 1) {
                return random.nextDouble() < wild ? from(0, 5) : one;
            }
        }
        return from(0, 5);
    }

    private int someSet() {
        if (random.nextDouble() < wild) {
            return from(0, 63);
        }
        int set = random.nextInt(64) & x.told(1);
        while (Integer.bitCount(set) > 3 && random.nextInt(12) > 0) {
            set &= set - 1;
        }
        return set;
    }

    private String act() {
        String letters = "ABCDEF";
        char a = letters.charAt(Math.floorMod(someOne(), 6));
        char b = letters.charAt(Math.floorMod(someOne(), 6));
        switch (random.nextInt(12)) {
            case 0: case 1: case 2: return a + "b";
            case 3: case 4: case 5: return a + "h";
            case 6: case 7: return a + ">" + b;
            case 8: return random.nextInt(5) == 0 ? a + "x" : a + "h";
            case 9: return random.nextInt(2) == 0 ? "!" : ".";
            default: return ".";
        }
    }

    private void call(String at) {
        if (words.length() > 0) {
            int sign = words.charAt(0);
            words.deleteCharAt(0);
            Check.due(at + "say " + sign, x.say(sign), y.say(sign));
            return;
        }
        int kind = random.nextInt(100);
        if (kind < 24) {
            change(at, kind);
        } else if (kind < 62) {
            askDays(at, kind);
        } else {
            askPlans(at, kind);
        }
    }

    private void change(String at, int kind) {
        if (kind < 8) {
            int one = from(0, 5);
            int youth = random.nextInt(most + 1);
            int pace = from(1, 9);
            int looks = random.nextInt(4) == 0 ? from(0, 99) : from(youth, most);
            Check.due(at + "one " + one, x.one(one, looks, pace, youth), y.one(one, looks, pace, youth));
        } else if (kind < 9) {
            int one = someOne();
            Check.due(at + "leave " + one, x.leave(one), y.leave(one));
        } else if (kind < 14) {
            int which = from(0, 2);
            int v = which == 0 ? from(0, random.nextInt(100)) : which == 1 ? from(0, 40) : from(0, 1);
            Check.due(at + "set " + which + " " + v, x.set(which, v), y.set(which, v));
        } else if (kind < 17) {
            int acts = random.nextInt(14);
            for (int i = 0; i < acts; i++) {
                words.append(act());
            }
        } else if (kind < 18) {
            words.append((char) (32 + random.nextInt(96)));
        } else if (kind < 20) {
            Check.due(at + "wipe", x.wipe(), y.wipe());
        } else if (kind < 22) {
            int k = from(0, 1);
            Check.due(at + "image " + k, x.image(k), y.image(k));
        } else if (kind < 23) {
            int k = from(0, 1);
            Check.due(at + "restore " + k, x.restore(k), y.restore(k));
        } else {
            int sign = from(33, 126);
            Check.due(at + "say " + sign, x.say(sign), y.say(sign));
        }
    }

    private void askDays(String at, int kind) {
        int what = from(0, 1);
        if (kind < 28) {
            Check.due(at + "fault", x.fault(), y.fault());
        } else if (kind < 36) {
            int w = from(0, 2);
            Check.due(at + "judge " + w, x.judge(w), y.judge(w));
        } else if (kind < 41) {
            int one = someOne();
            Check.due(at + "behind " + one + " " + what, x.behind(one, what), y.behind(one, what));
        } else if (kind < 43) {
            Check.due(at + "basket", x.basket(), y.basket());
        } else if (kind < 48) {
            Check.due(at + "passed " + what, x.passed(what), y.passed(what));
        } else if (kind < 53) {
            int morning = from(0, 6);
            Check.due(at + "oldest " + morning, x.oldest(morning), y.oldest(morning));
        } else if (kind < 56) {
            Check.due(at + "done", x.done(), y.done());
        } else if (kind < 58) {
            int one = someOne();
            int v = from(0, 99);
            Check.due(at + "lasts " + one + " " + v, x.lasts(one, v), y.lasts(one, v));
        } else {
            int w = random.nextInt(3) == 0 ? from(0, 5) : 10 * (1 + random.nextInt(6)) + random.nextInt(5);
            Check.due(at + "told " + w, x.told(w), y.told(w));
        }
    }

    private void askPlans(String at, int kind) {
        int what = from(0, 1);
        if (kind < 72) {
            keeping(at, kind < 66);
        } else if (kind < 78) {
            int c = from(0, 12);
            Check.due(at + "envy " + c + " " + what, x.envy(c, what), y.envy(c, what));
        } else if (kind < 80) {
            int m = from(0, 60);
            Check.due(at + "refuses " + m, x.refuses(m), y.refuses(m));
        } else if (kind < 83) {
            int one = someOne();
            int looks = x.told(10 + 10 * Math.floorMod(one, 6));
            int v = random.nextBoolean() ? looks : from(0, 99);
            int pace = x.told(11 + 10 * Math.floorMod(one, 6));
            v = random.nextBoolean() ? v : Math.max(0, looks - pace);
            Check.due(at + "seen " + one + " " + v, x.seen(one, v), y.seen(one, v));
        } else if (kind < 84) {
            Check.due(at + "forget", x.forget(), y.forget());
        } else if (kind < 88) {
            Check.due(at + "gave " + what, x.gave(what), y.gave(what));
        } else if (kind < 91) {
            Check.due(at + "ask " + what, x.ask(what), y.ask(what));
        } else if (kind < 92) {
            int n = from(1, 99);
            int k = from(1, 9);
            Check.due(at + "thieves " + n + " " + k + " " + what, x.thieves(n, k, what), y.thieves(n, k, what));
        } else if (kind < 96) {
            worms(at, what);
        } else {
            int seed = from(0, 9999);
            int m = from(1, 99);
            int w = from(0, 2);
            Check.due(at + "year " + seed + " " + m + " " + w, x.year(seed, m, w), y.year(seed, m, w));
        }
    }

    private void worms(String at, int part) {
        int one = someOne();
        int a = from(0, 6);
        int t = from(0, 10);
        int v = random.nextBoolean() ? -1 : from(-1, 99);
        Check.due(at + "worms " + one + " " + a + " " + t + " " + v + " " + part, x.worms(one, a, t, v, part),
            y.worms(one, a, t, v, part));
    }

    /** The limit lies near to how old the set looks: far from it there is no way, or nothing to eat. */
    private void keeping(String at, boolean whole) {
        int set = someSet();
        int m = from(0, 6);
        int n = random.nextInt(3) == 0 ? from(0, 6) : from(2, 6);
        int oldest = 0;
        for (int one = 0; one < 6; one++) {
            oldest = Math.max(oldest, (set >> one & 1) == 1 ? x.told(10 + 10 * one) : 0);
        }
        int v = random.nextInt(6) == 0 ? from(0, 99) : Math.min(99, Math.max(0, oldest - 3 + random.nextInt(16)));
        String call = set + " " + m + " " + n + " " + v;
        if (whole) {
            Check.due(at + "keeps " + call, x.keeps(set, m, n, v), y.keeps(set, m, n, v));
            return;
        }
        int day = from(0, m >= 1 && m <= 6 ? m - 1 : 0);
        int one = someOne();
        for (int i = 0; i < 4 && (set >> one & 1) == 0 && random.nextInt(9) > 0; i++) {
            one = someOne();
        }
        Check.due(at + "plan " + call + " " + day + " " + one, x.plan(set, m, n, v, day, one),
            y.plan(set, m, n, v, day, one));
    }
}
