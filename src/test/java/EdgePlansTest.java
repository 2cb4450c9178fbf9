/** Section 3 and promises 15 to 18, sentence by sentence where a boundary is named; each quotes its sentence. */
final class EdgePlansTest {
    private static final int UNKNOWN = -1, OUTSIDE = -2, FULL = -4, NONE = -6;

    public static void main(String[] args) {
        setsOfThreeAtMost();
        setsOfWhoIsThere();
        noDays();
        sixDays();
        halvesForAll();
        twoADayAtMost();
        behindAnyMorning();
        atTheEnds();
        eatenIsNoMatter();
        fewestByTrying();
        threeForSixDays();
        noWay();
        planOfADay();
        planOfTheSet();
        theLeastRow();
        sharesOfAll();
        noShare();
        sharesByNumber();
        levelOnes();
        olderOnes();
        sharesByTrying();
        refusesNoMornings();
        refusesSixty();
        refusesAsLived();
        Check.end();
    }

    private static void due(String what, long got, long want) {
        Check.due(what, got, want);
    }

    private static int[] row(int looks, int pace, int youth) {
        return Scene.row(looks, pace, youth);
    }

    /** "a set of ONES (3 at most)": FULL beyond it; none at all is a set, too. */
    private static void setsOfThreeAtMost() {
        for (int set = 0; set < 64; set++) {
            MorningBite x = Scene.six();
            boolean full = Integer.bitCount(set) > 3;
            due("keeps of set " + set, x.keeps(set, 1, 0, 99), full ? FULL : 0);
            for (int one = 0; one < 6; one++) {
                int answer = full ? FULL : (set >> one & 1) == 1 ? 0 : UNKNOWN;
                due("plan of set " + set + " for " + one, x.plan(set, 1, 0, 99, 0, one), answer);
            }
        }
        MorningBite x = Scene.six();
        due("set -1", x.keeps(-1, 1, 0, 99), UNKNOWN);
        due("set 64", x.keeps(64, 1, 0, 99), UNKNOWN);
    }

    /** "a set that is not 0 to 63, one of it that is not there". */
    private static void setsOfWhoIsThere() {
        for (int gone = 0; gone < 6; gone++) {
            MorningBite x = Scene.six();
            x.leave(gone);
            for (int set = 0; set < 64; set++) {
                int answer = (set >> gone & 1) == 1 ? UNKNOWN : Integer.bitCount(set) > 3 ? FULL : 0;
                due("set " + set + " without " + gone, x.keeps(set, 1, 0, 99), answer);
            }
        }
        MorningBite x = new MorningBite();
        due("nobody of nobody", x.keeps(0, 6, 6, 0), 0);
        for (int set = 1; set < 64; set++) {
            due("nobody is there: set " + set, x.keeps(set, 0, 0, 99), UNKNOWN);
        }
    }

    /** "m days (0 to 6)": no days, so no morning, however old all look now. */
    private static void noDays() {
        MorningBite x = Scene.of(row(99, 9, 99), row(50, 5, 5), row(0, 1, 0));
        for (int set = 0; set < 8; set++) {
            due("set " + set + ", v 0", x.keeps(set, 0, 0, 0), 0);
            due("set " + set + ", v 99", x.keeps(set, 0, 6, 99), 0);
            due("a day of none", x.plan(set, 0, 6, 99, 0, 0), UNKNOWN);
        }
        due("m -1", x.keeps(1, -1, 6, 99), OUTSIDE);
        due("m 7", x.keeps(1, 7, 6, 99), OUTSIDE);
    }

    private static void whole(String what, MorningBite x, int set, int[] k, String due) {
        StringBuilder got = new StringBuilder();
        int sum = 0;
        for (int day = 0; day < k[0]; day++) {
            for (int one = 0; one < 6; one++) {
                if ((set >> one & 1) == 1) {
                    int eats = x.plan(set, k[0], k[1], k[2], day, one);
                    got.append(eats);
                    sum += eats;
                }
            }
        }
        Check.holds(what + ": " + got + ", due is " + due, got.toString().equals(due));
        due(what + ": so many", x.keeps(set, k[0], k[1], k[2]), sum);
    }

    /** The most days, the most ONES, the most halves. */
    private static void sixDays() {
        MorningBite x = Scene.of(row(50, 5, 0), row(50, 5, 0), row(50, 5, 0));
        whole("younger at once, then as it is", x, 7, new int[] {6, 6, 45}, "222111111111111111");
        due("not by five", x.keeps(7, 6, 5, 45), NONE);
        whole("as it is", x, 7, new int[] {6, 3, 50}, "111111111111111111");
        due("not by two", x.keeps(7, 6, 2, 50), NONE);
        whole("older by six", x, 7, new int[] {6, 6, 80}, "000000000000000000");
        whole("older by five", x, 7, new int[] {6, 6, 79}, "000000000000000111");
        whole("older by five, two a day", x, 7, new int[] {6, 2, 79}, "000000000000001110");
        whole("older by five, one a day", x, 7, new int[] {6, 1, 79}, "000000000001010100");
        whole("one alone", x, 2, new int[] {6, 1, 54}, "111111");
        whole("one alone, none ahead", x, 4, new int[] {6, 1, 55}, "011111");
        due("m 7", x.keeps(7, 7, 6, 99), OUTSIDE);
    }

    /** "each with n halves (0 to 6) for all of them". */
    private static void halvesForAll() {
        MorningBite x = Scene.of(row(50, 5, 0), row(60, 6, 0), row(70, 7, 0));
        for (int n = 0; n <= 6; n++) {
            due("a half for each by " + n, Scene.of(row(70, 5, 0), row(70, 6, 0), row(70, 7, 0)).keeps(7, 1, n, 70),
                n >= 3 ? 3 : NONE);
            due("a whole for C by " + n, x.keeps(7, 1, n, 63), n >= 3 ? 3 : NONE);
            due("nothing is due by " + n, x.keeps(7, 1, n, 99), 0);
            due("a whole for each by " + n, Scene.of(row(50, 5, 0), row(50, 5, 0), row(50, 5, 0)).keeps(7, 1, n, 45),
                n == 6 ? 6 : NONE);
        }
        due("n -1", x.keeps(7, 1, -1, 99), OUTSIDE);
        due("n 7", x.keeps(7, 1, 7, 99), OUTSIDE);
        due("no days, n 7", x.keeps(7, 0, 7, 99), OUTSIDE);
        due("a half for each by one a day", Scene.of(row(50, 5, 0), row(50, 5, 0)).keeps(3, 2, 1, 50), NONE);
    }

    /** "each eats 0, 1 or 2 of them a day". */
    private static void twoADayAtMost() {
        MorningBite x = Scene.of(row(50, 5, 0));
        due("none", x.keeps(1, 1, 6, 55), 0);
        due("one", x.keeps(1, 1, 6, 54), 1);
        due("one still", x.keeps(1, 1, 6, 50), 1);
        due("two", x.keeps(1, 1, 6, 49), 2);
        due("two still", x.keeps(1, 1, 6, 45), 2);
        due("three would be due", x.keeps(1, 1, 6, 44), NONE);
        due("two by two halves", x.keeps(1, 1, 2, 45), 2);
        due("not by one", x.keeps(1, 1, 1, 45), NONE);
        due("one by one", x.keeps(1, 1, 1, 50), 1);
        due("not by none", x.keeps(1, 1, 0, 54), NONE);
    }

    /** "none of them LOOKS more than v behind any of these mornings". */
    private static void behindAnyMorning() {
        MorningBite x = Scene.of(row(50, 5, 0), row(20, 9, 0));
        due("behind the first, not now", x.keeps(1, 1, 2, 45), 2);
        due("not behind the last alone", x.keeps(1, 2, 2, 45), 3);
        due("behind each of three", x.keeps(1, 3, 2, 45), 4);
        due("the first is one of them", x.keeps(1, 2, 2, 40), NONE);
        due("just v behind the last", x.keeps(1, 2, 2, 60), 0);
        due("one more than v behind the last", x.keeps(1, 2, 2, 59), 1);
        whole("at the last", x, 1, new int[] {2, 2, 59}, "01");
        due("none of both", x.keeps(3, 2, 4, 59), 1);
        due("v of the older", x.keeps(3, 1, 4, 49), 2);
        due("v of the younger is no matter", x.keeps(2, 1, 4, 29), 0);
        due("v is its matter by one", x.keeps(2, 1, 4, 28), 1);
    }

    /** LOOKS of 0 and 99, a YOUTH that is LOOKS, v of 0 and 99. */
    private static void atTheEnds() {
        MorningBite x = Scene.of(row(0, 1, 0), row(99, 9, 0), row(99, 9, 99), row(98, 9, 98), row(99, 1, 98));
        due("LOOKS 0, v 0", x.keeps(1, 6, 6, 0), 6);
        due("LOOKS 0, v 0, none", x.keeps(1, 1, 0, 0), NONE);
        due("LOOKS 99, v 99", x.keeps(2, 6, 0, 99), 0);
        due("all LOOK 99 at the most", x.keeps(7, 6, 0, 99), 0);
        due("LOOKS 99, v 98", x.keeps(2, 1, 6, 98), 2);
        due("LOOKS 99, v 98, six days", x.keeps(2, 6, 6, 98), 2 + 5);
        due("LOOKS 99, v 90", x.keeps(2, 1, 6, 90), 2);
        due("LOOKS 99, v 89", x.keeps(2, 1, 6, 89), NONE);
        due("YOUTH 99, v 98", x.keeps(4, 6, 6, 98), NONE);
        due("YOUTH 98, v 98", x.keeps(8, 6, 6, 98), 6);
        due("YOUTH 98, v 98, of 99", x.keeps(16, 6, 6, 98), 7);
        due("YOUTH 98, v 97", x.keeps(8, 1, 6, 97), NONE);
        due("v -1", x.keeps(1, 1, 6, -1), OUTSIDE);
        due("v 100", x.keeps(1, 1, 6, 100), OUTSIDE);
        due("no days, v 100", x.keeps(0, 0, 0, 100), OUTSIDE);
    }

    /** "(As things are now, EATEN and BASKET are no matter.)" */
    private static void eatenIsNoMatter() {
        for (String eats : new String[] {"", "Ah", "Ab", "AbBb"}) {
            for (int basket : new int[] {4, 99}) {
                MorningBite x = Scene.six();
                x.set(0, basket);
                x.set(1, 0);
                x.set(2, 0);
                Scene.pad(x, eats).done();
                due("keeps, behind " + eats, x.keeps(7, 3, 4, 50), 3);
                due("plan, behind " + eats, x.plan(7, 3, 4, 50, 0, 2), 1);
                due("envy, behind " + eats, x.envy(12, 1), 222222);
                due("refuses, behind " + eats, x.refuses(1), 2 * (1 + 2 + 3 + 4 + 5 + 6));
            }
        }
        MorningBite x = Scene.six();
        x.one(0, 50, 5, 5);
        due("as things are now", x.keeps(1, 1, 2, 49), 2);
        x.leave(0);
        due("as things are now: it left", x.keeps(1, 1, 2, 49), UNKNOWN);
    }

    /** The fewest, and the least row, by trying all rows. */
    private static void fewestByTrying() {
        int[][] people = {{50, 5, 0}, {50, 1, 49}, {48, 9, 45}, {99, 4, 90}, {3, 7, 1}, {55, 2, 55}};
        int[] sets = {1, 2, 4, 8, 16, 32, 3, 5, 12, 33, 36, 48, 7, 38, 41, 21, 26};
        for (int set : sets) {
            int days = Integer.bitCount(set) == 1 ? 6 : Integer.bitCount(set) == 2 ? 3 : 2;
            MorningBite x = Scene.of(people);
            for (int n = 0; n <= 6; n++) {
                for (int v : new int[] {0, 3, 10, 45, 50, 51, 54, 55, 90, 98, 99}) {
                    String best = tried(people, set, days, n, v);
                    String call = "set " + set + ", m " + days + ", n " + n + ", v " + v;
                    due(call, x.keeps(set, days, n, v), best == null ? NONE : sum(best));
                    int at = 0;
                    for (int one = 0; one < 6; one++) {
                        if ((set >> one & 1) == 1) {
                            int last = (days - 1) * Integer.bitCount(set) + at;
                            due(call + ", plan of " + one, x.plan(set, days, n, v, days - 1, one),
                                best == null ? NONE : best.charAt(last) - '0');
                            at++;
                        }
                    }
                }
            }
        }
    }

    private static int sum(String row) {
        int sum = 0;
        for (char c : row.toCharArray()) {
            sum += c - '0';
        }
        return sum;
    }

    /** All rows of 0, 1 and 2 in their order: the first one of those with the least sum that keeps all young enough. */
    private static String tried(int[][] people, int set, int days, int n, int v) {
        int size = Integer.bitCount(set);
        int rows = (int) Math.round(Math.pow(3, days * size));
        String best = null;
        for (int r = 0; r < rows; r++) {
            StringBuilder row = new StringBuilder(Integer.toString(r, 3));
            while (row.length() < days * size) {
                row.insert(0, '0');
            }
            if ((best == null || sum(row.toString()) < sum(best)) && keepsAll(people, set, days, n, v, row)) {
                best = row.toString();
            }
        }
        return best;
    }

    private static boolean keepsAll(int[][] people, int set, int days, int n, int v, CharSequence row) {
        int[] looks = new int[6];
        for (int one = 0; one < 6; one++) {
            looks[one] = people[one][0];
        }
        int at = 0;
        for (int day = 0; day < days; day++) {
            int left = n;
            for (int one = 0; one < 6; one++) {
                if ((set >> one & 1) == 1) {
                    int eats = row.charAt(at++) - '0';
                    left -= eats;
                    looks[one] = behind(people[one], looks[one], eats);
                    if (looks[one] > v || left < 0) {
                        return false;
                    }
                }
            }
        }
        return true;
    }

    private static int behind(int[] person, int looks, int eats) {
        int next = looks + (1 - eats) * person[1];
        return next > 99 ? 99 : next < person[2] ? person[2] : next;
    }

    /** Three ONES for six days, the most of both: whole rows, as the oracle has them by how old all look. */
    private static void threeForSixDays() {
        int[][][] crowds = {{{50, 5, 0}, {52, 3, 48}, {47, 9, 10}}, {{60, 1, 0}, {58, 2, 0}, {55, 4, 55}},
            {{95, 7, 60}, {80, 8, 0}, {99, 2, 97}}, {{9, 9, 0}, {1, 1, 0}, {6, 5, 0}},
            {{50, 7, 0}, {50, 7, 0}, {51, 8, 0}}};
        for (int[][] crowd : crowds) {
            Oracle y = new Oracle();
            int oldest = 0;
            for (int one = 0; one < 3; one++) {
                y.one(2 * one, crowd[one][0], crowd[one][1], crowd[one][2]);
                oldest = Math.max(oldest, crowd[one][0]);
            }
            for (int n = 1; n <= 6; n++) {
                for (int v = Math.max(0, oldest - 4); v <= Math.min(99, oldest + 26); v += 3) {
                    MorningBite x = Scene.of(crowd[0], null, crowd[1], null, crowd[2]);
                    String row = y.row(21, 6, n, v);
                    String call = "three for six days, n " + n + ", v " + v;
                    if (row == null) {
                        due(call, x.keeps(21, 6, n, v), NONE);
                    } else {
                        whole(call, x, 21, new int[] {6, n, v}, row);
                    }
                }
            }
        }
    }

    /** "NONE" of keeps, and of plan for each day and ONE of the set. */
    private static void noWay() {
        MorningBite x = Scene.six();
        due("keeps", x.keeps(7, 6, 6, 29), NONE);
        for (int day = 0; day < 6; day++) {
            for (int one = 0; one < 3; one++) {
                due("plan of day " + day + " for " + one, x.plan(7, 6, 6, 29, day, one), NONE);
            }
        }
        due("not of the set", x.plan(7, 6, 6, 29, 0, 3), UNKNOWN);
        due("no such day", x.plan(7, 6, 6, 29, 6, 0), UNKNOWN);
        due("a way again", x.keeps(7, 6, 6, 99), 0);
        due("and no way again", x.keeps(7, 1, 0, 49), NONE);
    }

    /** "what a ONE eats on a day (0 on)", "a day that is none of the m". */
    private static void planOfADay() {
        MorningBite x = Scene.of(row(50, 5, 0));
        for (int m = 0; m <= 6; m++) {
            for (int day = -2; day <= 8; day++) {
                int answer = day < 0 || day >= m ? UNKNOWN : day == 0 ? 2 : 1;
                due("day " + day + " of " + m, x.plan(1, m, 2, 45, day, 0), answer);
            }
        }
    }

    /** "a ONE that is not of the set". */
    private static void planOfTheSet() {
        for (int a = 0; a < 6; a++) {
            MorningBite x = new MorningBite();
            for (int one = 0; one < 6; one++) {
                x.one(one, 40, 1, 0);
            }
            x.one(a, 50, 5, 0);
            int b = (a + 1) % 6;
            int set = 1 << a | 1 << b;
            for (int one = -1; one <= 6; one++) {
                int answer = one == a ? 2 : one == b ? 0 : UNKNOWN;
                due("ONE " + one + " of set " + set, x.plan(set, 1, 3, 45, 0, one), answer);
            }
        }
    }

    /** "what is eaten as a row, by days, then by ONES: the least such row". */
    private static void theLeastRow() {
        MorningBite x = Scene.of(row(50, 5, 0), row(50, 5, 0), row(50, 5, 0));
        whole("late, both", x, 3, new int[] {2, 2, 55}, "0011");
        whole("late, one a day: B first", x, 3, new int[] {2, 1, 55}, "0110");
        whole("one of three early", x, 7, new int[] {2, 2, 55}, "001110");
        whole("C first, then B, then A", x, 7, new int[] {3, 1, 60}, "001010100");
        whole("a day without any", x, 1, new int[] {3, 2, 55}, "011");
        whole("a whole is later than two halves", x, 1, new int[] {2, 2, 50}, "11");
        MorningBite y = Scene.of(row(50, 5, 0), row(45, 5, 0));
        whole("by days ahead of ONES", y, 3, new int[] {2, 3, 50}, "1011");
        whole("who is due at once", y, 3, new int[] {1, 3, 50}, "10");
    }

    private static void shares(String what, MorningBite x, int c, int count, int first) {
        due(what + ", " + c + ": how many", x.envy(c, 0), count);
        due(what + ", " + c + ": the first", x.envy(c, 1), first);
    }

    /** "(six digits, ONE 0's the highest, 3: not there ..)". */
    private static void sharesOfAll() {
        shares("nobody", new MorningBite(), 0, 1, 333333);
        int digit = 100000;
        for (int one = 0; one < 6; one++) {
            MorningBite x = new MorningBite();
            x.one(one, 50, 5, 5);
            for (int c = 0; c <= 2; c++) {
                shares("alone " + one, x, c, 1, 333333 - (3 - c) * digit);
            }
            shares("alone " + one, x, 3, 0, NONE);
            digit /= 10;
        }
        shares("six, none", Scene.six(), 0, 1, 0);
        shares("six, all", Scene.six(), 12, 1, 222222);
        MorningBite x = Scene.six();
        x.leave(0);
        x.leave(5);
        shares("four", x, 8, 1, 322223);
        shares("four, too many", x, 9, 0, NONE);
    }

    /** "c halves (0 to 12) .. all are eaten", "NONE". */
    private static void noShare() {
        for (int c = 1; c <= 12; c++) {
            shares("nobody", new MorningBite(), c, 0, NONE);
        }
        MorningBite x = Scene.six();
        due("c -1", x.envy(-1, 0), OUTSIDE);
        due("c 13", x.envy(13, 0), OUTSIDE);
        due("c 13, the first", x.envy(13, 1), OUTSIDE);
        for (int there = 5; there >= 0; there--) {
            x.leave(there);
            shares(there + " are there", x, 2 * there, 1, Integer.parseInt("222222".substring(0, there)
                + "333333".substring(there)));
            shares(there + " are there", x, Math.min(12, 2 * there + 1), 0, NONE);
            shares(there + " are there", x, 12, 0, NONE);
        }
    }

    /** Far apart nobody is older than somebody who is older now, whoever eats: all shares are fine. */
    private static void sharesByNumber() {
        MorningBite x = new MorningBite();
        for (int one = 0; one < 6; one++) {
            x.one(one, 2 + 19 * one, 1, 0);
        }
        int[] counts = {1, 6, 21, 50, 90, 126, 141, 126, 90, 50, 21, 6, 1};
        int[] firsts = {0, 1, 2, 12, 22, 122, 222, 1222, 2222, 12222, 22222, 122222, 222222};
        for (int c = 0; c <= 12; c++) {
            shares("far apart", x, c, counts[c], firsts[c]);
        }
    }

    /** "somebody else who LOOKS at least as old as it now": level ones must be level behind it. */
    private static void levelOnes() {
        MorningBite x = Scene.of(row(50, 5, 0), row(50, 5, 0), row(50, 5, 0));
        for (int c = 0; c <= 6; c++) {
            shares("three alike", x, c, c % 3 == 0 ? 1 : 0, c % 3 == 0 ? c / 3 * 111000 + 333 : NONE);
        }
        MorningBite y = Scene.of(row(50, 5, 50), row(50, 5, 50));
        shares("a half is as good as a whole", y, 2, 1, 113333);
        shares("a half is as good as a whole", y, 3, 2, 123333);
        shares("a half is as good as a whole", y, 4, 1, 223333);
        shares("none is not", y, 1, 0, NONE);
        MorningBite z = Scene.of(row(99, 5, 50), row(99, 1, 50));
        shares("none is as good as a half", z, 1, 2, 13333);
        MorningBite w = Scene.of(row(50, 5, 0), row(50, 4, 0));
        shares("other paces", w, 0, 0, NONE);
        shares("other paces", w, 2, 1, 113333);
        shares("other paces", w, 1, 0, NONE);
    }

    /** "nobody LOOKS older behind the next morning than" an older one; the older one may look older. */
    private static void olderOnes() {
        MorningBite x = Scene.of(row(51, 1, 0), row(50, 1, 0));
        shares("one year: level behind it is no envy", x, 1, 2, 13333);
        shares("one year: two", x, 2, 2, 23333);
        shares("one year: three", x, 3, 2, 123333);
        MorningBite y = Scene.of(row(52, 1, 0), row(50, 1, 0));
        shares("two years", y, 2, 3, 23333);
        MorningBite z = Scene.of(row(50, 1, 0), row(51, 3, 0));
        shares("B fed alone falls below A", z, 2, 2, 113333);
        shares("B by a half is level with A", z, 1, 2, 13333);
    }

    /** All shares tried out, for some ages that lie close together. */
    private static void sharesByTrying() {
        int[][][] crowds = {{{50, 5, 0}, {51, 1, 0}, {52, 2, 52}, {50, 9, 48}, null, {53, 3, 0}},
            {{99, 1, 99}, {98, 2, 0}, null, {99, 9, 0}, {97, 1, 0}, {99, 1, 0}},
            {null, {0, 1, 0}, {1, 1, 0}, {0, 9, 0}},
            {{30, 3, 3}, {31, 3, 3}, {32, 3, 3}, {33, 3, 3}, {34, 3, 3}, {35, 3, 3}}};
        for (int[][] crowd : crowds) {
            MorningBite x = Scene.of(crowd);
            for (int c = 0; c <= 12; c++) {
                int count = 0;
                int first = NONE;
                for (int digits = 0; digits <= 333333; digits++) {
                    if (isShare(crowd, digits, c)) {
                        first = count == 0 ? digits : first;
                        count++;
                    }
                }
                shares("by trying", x, c, count, first);
            }
        }
    }

    private static boolean isShare(int[][] crowd, int digits, int c) {
        int[] gets = new int[6];
        int sum = 0;
        int rest = digits;
        for (int one = 5; one >= 0; one--) {
            gets[one] = rest % 10;
            rest /= 10;
            boolean there = one < crowd.length && crowd[one] != null;
            if (there ? gets[one] > 2 : gets[one] != 3) {
                return false;
            }
            sum += there ? gets[one] : 0;
        }
        for (int a = 0; a < crowd.length && sum == c; a++) {
            for (int b = 0; b < crowd.length; b++) {
                if (crowd[a] != null && crowd[b] != null && crowd[b][0] >= crowd[a][0]
                    && behind(crowd[a], crowd[a][0], gets[a]) > behind(crowd[b], crowd[b][0], gets[b])) {
                    return false;
                }
            }
        }
        return sum == c;
    }

    /** "m mornings (0 to 60)": none. */
    private static void refusesNoMornings() {
        due("six", Scene.six().refuses(0), 0);
        due("nobody", new MorningBite().refuses(0), 0);
        due("m -1", Scene.six().refuses(-1), OUTSIDE);
        due("m 61", Scene.six().refuses(61), OUTSIDE);
    }

    /** Sixty mornings, to 99 and to the YOUTH. */
    private static void refusesSixty() {
        due("nobody", new MorningBite().refuses(60), 0);
        due("to both ends", Scene.of(row(50, 9, 0)).refuses(60), 99);
        due("LOOKS 0 by 1", Scene.of(row(0, 1, 0)).refuses(60), 60);
        due("LOOKS 0 by 1, 59", Scene.of(row(0, 1, 0)).refuses(59), 59);
        due("LOOKS 39 by 1: 99 just", Scene.of(row(39, 1, 39)).refuses(60), 60);
        due("LOOKS 40 by 1: 99", Scene.of(row(40, 1, 40)).refuses(60), 59);
        due("LOOKS 60 by 1: 0 just", Scene.of(row(60, 1, 0)).refuses(60), 39 + 60);
        due("LOOKS 61 by 1: 1", Scene.of(row(61, 1, 0)).refuses(60), 38 + 60);
        due("LOOKS 99 from 99", Scene.of(row(99, 9, 99)).refuses(60), 0);
        due("six to both ends", Scene.of(row(50, 9, 0), row(50, 9, 0), row(50, 9, 0), row(50, 9, 0), row(50, 9, 0),
            row(50, 9, 0)).refuses(60), 6 * 99);
        due("one morning, at both ends", Scene.of(row(99, 9, 95), row(0, 9, 0), row(95, 9, 90)).refuses(1), 4 + 9 + 9);
    }

    /** As it is when both are told on the PAD. */
    private static void refusesAsLived() {
        int[][] crowd = {{30, 1, 20}, {40, 2, 39}, {98, 5, 1}, null, {9, 9, 0}, {99, 3, 90}};
        for (int m = 0; m <= 3; m++) {
            MorningBite x = Scene.of(crowd);
            x.set(0, 12);
            StringBuilder fed = new StringBuilder();
            StringBuilder away = new StringBuilder();
            for (int i = 0; i < m; i++) {
                fed.append("AbBbCbEbFb.");
                away.append(i == 0 ? "!." : ".");
            }
            int more = 0;
            for (int one = 0; one < 6; one++) {
                if (one != 3) {
                    more += Scene.pad(x, away.toString()).behind(one, 0);
                    more -= Scene.pad(x, fed.toString()).behind(one, 0);
                }
            }
            due("refuses(" + m + ")", x.refuses(m), more);
        }
    }
}
