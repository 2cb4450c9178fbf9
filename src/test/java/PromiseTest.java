/** Promise by promise: ordinary inputs, the edges that the document names, wrong inputs. */
final class PromiseTest {
    private static final int UNKNOWN = -1, OUTSIDE = -2, STATE = -3, FULL = -4, NO = -5, NONE = -6;
    private static final long GONE = -1000000000000000000L;
    private static final int[] FAR = {Integer.MIN_VALUE, -10000, 10000, Integer.MAX_VALUE};

    public static void main(String[] args) {
        aNewObject();
        one();
        leave();
        set();
        say();
        wipe();
        fault();
        judge();
        judgeReasons();
        behind();
        mornings();
        basket();
        passed();
        oldest();
        done();
        lasts();
        keeps();
        plan();
        envy();
        refuses();
        seen();
        forget();
        gave();
        ask();
        thieves();
        worms();
        year();
        image();
        told();
        Check.end();
    }

    private static void due(String what, long got, long want) {
        Check.due(what, got, want);
    }

    private static MorningBite say(MorningBite x, String text) {
        for (int i = 0; i < text.length(); i++) {
            x.say(text.charAt(i));
        }
        return x;
    }

    private static MorningBite days(MorningBite x, String text) {
        x.wipe();
        return say(x, text);
    }

    /** A 30 by 2 down to 20, B 31 by 1 down to 31, C 20 by 9 down to 10. */
    private static MorningBite three() {
        MorningBite x = new MorningBite();
        x.one(0, 30, 2, 20);
        x.one(1, 31, 1, 31);
        x.one(2, 20, 9, 10);
        return x;
    }

    // promise 1
    private static void aNewObject() {
        MorningBite x = new MorningBite();
        due("1 signs", x.told(0), 0);
        due("1 ones", x.told(1), 0);
        due("1 basket", x.told(2), 0);
        due("1 grown", x.told(3), 12);
        due("1 she", x.told(4), 1);
        due("1 sights", x.told(5), 0);
        for (int what = 10; what < 70; what++) {
            due("1 told " + what, x.told(what), OUTSIDE);
        }
        due("1 restore(0)", x.restore(0), STATE);
        due("1 restore(1)", x.restore(1), STATE);
        due("1 fault", x.fault(), NONE);
    }

    // promise 2
    private static void one() {
        MorningBite x = new MorningBite();
        due("2 one(0)", x.one(0, 0, 1, 0), 1);
        due("2 one(5)", x.one(5, 99, 9, 99), 2);
        due("2 one(0) anew", x.one(0, 40, 3, 7), 2);
        due("2 bits", x.told(1), 33);
        due("2 looks", x.told(10), 40);
        due("2 pace", x.told(11), 3);
        due("2 youth", x.told(12), 7);
        due("2 eaten", x.told(13), 0);
        x.set(0, 9);
        due("2 b", say(x, "Ab").done(), 1);
        due("2 eaten two", x.told(13), 2);
        due("2 anew", x.one(0, 41, 3, 7), 2);
        due("2 eaten none anew", x.told(13), 0);
        due("2 looks anew", x.told(10), 41);
        due("2 the number first", x.one(6, -1, 0, -1), UNKNOWN);
        due("2 number -1", x.one(-1, 1, 1, 1), UNKNOWN);
        due("2 looks -1", x.one(1, -1, 1, 0), OUTSIDE);
        due("2 looks 100", x.one(1, 100, 1, 0), OUTSIDE);
        due("2 pace 0", x.one(1, 5, 0, 0), OUTSIDE);
        due("2 pace 10", x.one(1, 5, 10, 0), OUTSIDE);
        due("2 youth -1", x.one(1, 5, 1, -1), OUTSIDE);
        due("2 youth above looks", x.one(1, 5, 1, 6), OUTSIDE);
        due("2 youth is looks", x.one(1, 5, 1, 5), 3);
        due("2 wrong anew", x.one(0, 5, 1, 6), OUTSIDE);
        due("2 nothing changed", x.told(10), 41);
        for (int far : FAR) {
            due("2 far number", x.one(far, 1, 1, 1), UNKNOWN);
            due("2 far looks", x.one(0, far, 1, 1), OUTSIDE);
            due("2 far pace", x.one(0, 1, far, 1), OUTSIDE);
            due("2 far youth", x.one(0, 1, 1, far), OUTSIDE);
        }
        due("2 bits behind all", x.told(1), 35);
    }

    // promise 3
    private static void leave() {
        MorningBite x = three();
        due("3 leave(1)", x.leave(1), 2);
        due("3 bits", x.told(1), 5);
        due("3 again", x.leave(1), UNKNOWN);
        due("3 never there", x.leave(3), UNKNOWN);
        due("3 -1", x.leave(-1), UNKNOWN);
        due("3 6", x.leave(6), UNKNOWN);
        due("3 32", x.leave(32), UNKNOWN);
        for (int far : FAR) {
            due("3 far", x.leave(far), UNKNOWN);
        }
        due("3 leave(0)", x.leave(0), 1);
        due("3 leave(2)", x.leave(2), 0);
        due("3 back", x.one(1, 5, 5, 5), 1);
    }

    // promise 4
    private static void set() {
        MorningBite x = new MorningBite();
        due("4 basket", x.set(0, 99), 0);
        due("4 basket was", x.set(0, 0), 99);
        due("4 grown", x.set(1, 40), 12);
        due("4 grown was", x.set(1, 0), 40);
        due("4 she", x.set(2, 0), 1);
        due("4 she was", x.set(2, 1), 0);
        int[][] wrong = {{0, -1}, {0, 100}, {1, -1}, {1, 41}, {2, -1}, {2, 2}, {3, 0}, {-1, 0}};
        for (int[] w : wrong) {
            due("4 set(" + w[0] + ", " + w[1] + ")", x.set(w[0], w[1]), OUTSIDE);
        }
        for (int far : FAR) {
            due("4 far which", x.set(far, 0), OUTSIDE);
            due("4 far v", x.set(0, far), OUTSIDE);
        }
        due("4 basket stays", x.told(2), 0);
        due("4 grown stays", x.told(3), 0);
        due("4 she stays", x.told(4), 1);
    }

    // promise 5
    private static void say() {
        MorningBite x = new MorningBite();
        due("5 32", x.say(32), OUTSIDE);
        due("5 127", x.say(127), OUTSIDE);
        due("5 33", x.say(33), 1);
        due("5 126", x.say(126), 2);
        for (int far : FAR) {
            due("5 far", x.say(far), OUTSIDE);
        }
        for (int i = 3; i <= 60; i++) {
            due("5 sign " + i, x.say('.'), i);
        }
        due("5 a sign too many", x.say('.'), FULL);
        due("5 outside ahead of full", x.say(32), OUTSIDE);
        due("5 signs", x.told(0), 60);
    }

    // promise 6
    private static void wipe() {
        MorningBite x = say(new MorningBite(), "..!Q");
        due("6 wipe", x.wipe(), 4);
        due("6 none", x.wipe(), 0);
        due("6 signs", x.told(0), 0);
        due("6 no fault", x.fault(), NONE);
        due("6 as new", x.say('.'), 1);
    }

    // promise 7
    private static void fault() {
        Object[][] texts = {
            {"", NONE}, {"A", 1}, {"Ab", NONE}, {"Ah", NONE}, {"Ax", NONE}, {"A>", 2}, {"A>B", NONE}, {"A>A", NONE},
            {"!", NONE}, {".", NONE}, {"!.!.", NONE}, {"F>F", NONE}, {"G", 0}, {"@", 0}, {"Fb", NONE}, {"Gb", 0},
            {"a", 0}, {"b", 0}, {">", 0}, {"A!", 1}, {"A.", 1}, {"AB", 1}, {"A>!", 2}, {"A>b", 2}, {"A>G", 2},
            {"A>@", 2}, {"Abb", 2}, {"AbB", 3}, {"AbB>", 4}, {"AbB>C", NONE}, {"AB>", 1}, {"Ay", 1}, {"A<", 1},
            {"Q.", 0}, {".Q!", 1}, {"A>B>C", 3}, {"AxAx", NONE}, {"~", 0}, {"h.", 0}};
        for (Object[] t : texts) {
            due("7 " + t[0], days(new MorningBite(), (String) t[0]).fault(), (Integer) t[1]);
        }
        StringBuilder full = new StringBuilder();
        for (int i = 0; i < 59; i++) {
            full.append('.');
        }
        due("7 full", days(new MorningBite(), full + "A").fault(), 60);
        due("7 full and whole", days(new MorningBite(), full + "!").fault(), NONE);
    }

    // promise 8
    private static void judge() {
        MorningBite x = three();
        due("8 empty 0", x.judge(0), NONE);
        due("8 empty 1", x.judge(1), NONE);
        due("8 empty 2", x.judge(2), 0);
        x.set(0, 5);
        days(x, "Ab!.Bh.");
        due("8 all can be 0", x.judge(0), 4 - 1);
        days(x, "Ab!.B>Bx.");
        due("8 fault", x.judge(2), NO);
        days(x, "Ab!..Bx.");
        due("8 mornings", x.judge(2), 3);
        due("8 none 0", x.judge(0), NONE);
        due("8 none 1", x.judge(1), NONE);
        days(x, "Ab!..Bh.");
        due("8 the act", x.judge(0), 4);
        due("8 why", x.judge(1), 4);
        due("8 state", x.judge(2), STATE);
        days(x, "AbAbDb");
        due("8 the first", x.judge(0), 1);
        due("8 the first's why", x.judge(1), 3);
        days(x, "Ab.A");
        for (int what = 0; what < 3; what++) {
            due("8 no " + what, x.judge(what), NO);
        }
        due("8 outside ahead of no", x.judge(3), OUTSIDE);
        due("8 -1", x.judge(-1), OUTSIDE);
        for (int far : FAR) {
            due("8 far", x.judge(far), OUTSIDE);
        }
        due("8 nothing is done", x.told(13), 0);
        due("8 nor taken", x.told(2), 5);
    }

    private static void why(MorningBite x, String text, int act, int why) {
        days(x, text);
        due("8 " + text + " act", x.judge(0), act);
        due("8 " + text + " why", x.judge(1), why);
    }

    // promise 8, the reasons
    private static void judgeReasons() {
        MorningBite x = three();
        x.set(0, 4);
        why(x, "Db", 0, 1);
        why(x, "Dh", 0, 1);
        why(x, "Dx", 0, 1);
        why(x, "D>D", 0, 1);
        why(x, "D>A", 0, 1);
        why(x, "A>D", 0, 1);
        why(x, "A>A", 0, 2);
        why(x, "AbA>A", 1, 2);
        why(x, "A>B", 0, 5);
        why(x, "AbBbC>B", 2, 3);
        why(x, "AbC>A", 1, 3);
        why(x, "AbBbCh", 2, 4);
        why(x, "AbBhCb", 2, 4);
        why(x, "AbBhChCh", 3, 4);
        why(x, "AhAb", 1, 3);
        why(x, "AhAhAh", 2, 3);
        why(x, "AbBbAh", 2, 3);
        why(x, "AxAb", 1, 1);
        why(x, "AxB>A", 1, 1);
        why(x, "AxAx", 1, 1);
        why(x, "AbA>BA>BA>C", 3, 5);
        why(x, "AbA>BA>BB>AB>AA>B", NONE, NONE);
        why(x, "AhBhB>AA>BA>B", NONE, NONE);
        why(x, "AbBb.AbBbCbAhCh", 6, 3);
        why(x, "AbBb!.Ah", 4, 4);
        why(x, "!..!.AbBbCb", NONE, NONE);
        why(x, "AbBb.Ab", NONE, NONE);
        x.set(0, 1);
        why(x, "Ab", 0, 4);
        why(x, "Ah", NONE, NONE);
    }

    // promise 9
    private static void behind() {
        MorningBite x = three();
        x.set(0, 8);
        due("9 as it is", x.behind(2, 0), 20);
        due("9 as it ate", x.behind(2, 1), 0);
        days(x, "BbCh");
        due("9 B ate", x.behind(1, 1), 2);
        due("9 C ate", x.behind(2, 1), 1);
        due("9 B looks", x.behind(1, 0), 31);
        days(x, "BbCh.");
        due("9 A", x.behind(0, 0), 32);
        due("9 B", x.behind(1, 0), 31);
        due("9 C", x.behind(2, 0), 20);
        due("9 eaten is 0", x.behind(1, 1), 0);
        due("9 not there", x.behind(3, 0), UNKNOWN);
        due("9 no such number", x.behind(6, 0), UNKNOWN);
        due("9 -1", x.behind(-1, 1), UNKNOWN);
        due("9 what first", x.behind(3, 2), OUTSIDE);
        due("9 what -1", x.behind(0, -1), OUTSIDE);
        for (int far : FAR) {
            due("9 far one", x.behind(far, 0), UNKNOWN);
            due("9 far what", x.behind(0, far), OUTSIDE);
        }
        days(x, "BbCh.A");
        due("9 no", x.behind(3, 0), NO);
        due("9 what ahead of no", x.behind(3, 2), OUTSIDE);
        days(x, "BbBb");
        due("9 state", x.behind(3, 0), STATE);
        due("9 what ahead of state", x.behind(0, 2), OUTSIDE);
        days(x, "Bx.");
        due("9 it went", x.behind(1, 0), UNKNOWN);
        due("9 the others", x.behind(2, 0), 29);
        due("9 nothing is done", x.told(30), 20);
        due("9 it is there", x.told(1), 7);
        days(x, "AbA>CA>C");
        due("9 given 0", x.behind(0, 1), 0);
        due("9 given 2", x.behind(2, 1), 2);
    }

    // what a morning does, promise 9
    private static void mornings() {
        MorningBite x = new MorningBite();
        x.one(0, 98, 9, 0);
        x.one(1, 5, 9, 0);
        x.one(2, 12, 9, 3);
        x.one(3, 50, 1, 50);
        x.set(0, 7);
        days(x, "BbCbDb.");
        due("9 at the most 99", x.behind(0, 0), 99);
        due("9 at the least youth", x.behind(1, 0), 0);
        due("9 just youth", x.behind(2, 0), 3);
        due("9 is youth", x.behind(3, 0), 50);
        days(x, "Ah.");
        due("9 a half", x.behind(0, 0), 98);
        due("9 none", x.behind(3, 0), 51);
        due("9 the rest", x.behind(1, 0), 14);
        days(x, "Bb..");
        due("9 younger, then older", x.behind(1, 0), 9);
        days(x, "BhBhBxCx.");
        due("9 who went takes what it ate along", x.basket(), 12);
        due("9 gone", x.behind(1, 0), UNKNOWN);
    }

    // promise 10
    private static void basket() {
        MorningBite x = three();
        x.set(0, 7);
        due("10 as it is", x.basket(), 7);
        days(x, "AbBhA>B");
        due("10 three less", x.basket(), 4);
        days(x, "Ab.");
        due("10 what is left rots", x.basket(), 12);
        days(x, "Ab!");
        due("10 it stays by day", x.basket(), 5);
        days(x, "Ab!.");
        due("10 she is away", x.basket(), 0);
        days(x, "Ab!.!");
        due("10 back by day", x.basket(), 0);
        days(x, "Ab!.!.Ch");
        due("10 back", x.basket(), 11);
        x.set(1, 3);
        due("10 grown", x.basket(), 2);
        x.set(2, 0);
        days(x, ".");
        due("10 away now", x.basket(), 0);
        days(x, "A");
        due("10 no", x.basket(), NO);
        days(x, "Dx");
        due("10 state", x.basket(), STATE);
        due("10 in fact", x.told(2), 7);
    }

    // promise 11
    private static void passed() {
        MorningBite x = three();
        x.set(0, 4);
        due("11 no morning", x.passed(0), NONE);
        due("11 no pair", x.passed(1), NONE);
        days(x, ".");
        due("11 A passes B: 32, 32", x.passed(0), NONE);
        days(x, "Cx..");
        due("11 34, 33 were level ahead of it", x.passed(0), NONE);
        days(x, "..");
        due("11 the second morning", x.passed(0), 1);
        due("11 C passes A, too", x.passed(1), 2);
        days(x, "Bb.");
        due("11 A passes B", x.passed(0), 0);
        due("11 who", x.passed(1), 1);
        x.one(0, 32, 2, 20);
        days(x, "Ab.");
        due("11 B passes A", x.passed(0), 0);
        due("11 the lesser first", x.passed(1), 1);
        x.one(0, 30, 2, 20);
        days(x, "AhBh.AhBhCh..AbBb.");
        due("11 the first morning", x.passed(0), 2);
        due("11 the pair then", x.passed(1), 2);
        x.one(3, 35, 9, 0);
        x.set(0, 6);
        days(x, "BbDb.");
        due("11 two pairs", x.passed(1), 1);
        days(x, "AhBhDb.");
        due("11 D is passed by A, B and C", x.passed(1), 3);
        days(x, "BhDbAx.");
        due("11 A is not there", x.passed(1), 13);
        days(x, "BhDbAxBx.");
        due("11 B neither", x.passed(1), 23);
        MorningBite y = new MorningBite();
        y.one(0, 31, 1, 31);
        y.one(1, 30, 2, 20);
        days(y, "..");
        due("11 level behind it, then level ahead of it", y.passed(0), NONE);
        y.one(1, 30, 3, 20);
        due("11 B passes A at once", y.passed(0), 0);
        y.one(1, 29, 2, 20);
        days(y, "...");
        due("11 B passes A later", y.passed(0), NONE);
        y.one(1, 28, 2, 20);
        days(y, "!.!...");
        due("11 level on the third, no pass on the fourth", y.passed(0), NONE);
        y.one(1, 29, 3, 20);
        due("11 level on the first, too", y.passed(1), NONE);
        y.one(1, 28, 3, 20);
        due("11 on the second", y.passed(0), 1);
        due("11 what 2", x.passed(2), OUTSIDE);
        due("11 what -1", x.passed(-1), OUTSIDE);
        days(x, "A");
        due("11 no", x.passed(0), NO);
        due("11 outside ahead", x.passed(2), OUTSIDE);
        days(x, "A>A");
        due("11 state", x.passed(1), STATE);
    }

    // promise 12
    private static void oldest() {
        MorningBite x = three();
        x.set(0, 4);
        days(x, ".");
        due("12 level: the least", x.oldest(0), 0);
        due("12 no such morning", x.oldest(1), UNKNOWN);
        due("12 -1", x.oldest(-1), UNKNOWN);
        for (int far : FAR) {
            due("12 far", x.oldest(far), UNKNOWN);
        }
        days(x, "Ab...");
        due("12 first", x.oldest(0), 1);
        due("12 second", x.oldest(1), 2);
        due("12 third", x.oldest(2), 2);
        due("12 three in all", x.oldest(3), UNKNOWN);
        days(x, "AxBx.Cx.!.");
        due("12 C alone", x.oldest(0), 2);
        due("12 nobody", x.oldest(1), NONE);
        due("12 nobody still", x.oldest(2), NONE);
        days(x, "");
        due("12 none told", x.oldest(0), UNKNOWN);
        days(x, ".A");
        due("12 no", x.oldest(0), NO);
        due("12 no ahead of unknown", x.oldest(7), NO);
        days(x, ".Dx");
        due("12 state", x.oldest(0), STATE);
        due("12 state ahead of unknown", x.oldest(7), STATE);
    }

    // promise 13
    private static void done() {
        MorningBite x = three();
        due("13 nothing", x.done(), 0);
        x.set(0, 5);
        days(x, "AbBhB>CCx!");
        due("13 acts", x.done(), 5);
        due("13 signs", x.told(0), 0);
        due("13 bits", x.told(1), 3);
        due("13 basket", x.told(2), 2);
        due("13 she", x.told(4), 0);
        due("13 A ate", x.told(13), 2);
        due("13 B ate none", x.told(23), 0);
        due("13 A's second whole", days(x, "Ab").judge(1), 3);
        days(x, ".");
        due("13 a morning", x.done(), 1);
        due("13 A", x.told(10), 28);
        due("13 B", x.told(20), 32);
        due("13 basket is empty", x.told(2), 0);
        due("13 grown stays", x.told(3), 12);
        days(x, "A");
        due("13 no", x.done(), NO);
        due("13 signs stay", x.told(0), 1);
        days(x, "..Ch");
        due("13 state", x.done(), STATE);
        due("13 nothing changed", x.told(10), 28);
        due("13 the signs neither", x.told(0), 4);
    }

    // promise 14
    private static void lasts() {
        MorningBite x = three();
        due("14 A 30", x.lasts(0, 30), 0);
        due("14 A 31", x.lasts(0, 31), 0);
        due("14 A 32", x.lasts(0, 32), 1);
        due("14 A 29", x.lasts(0, 29), NONE);
        due("14 A 98", x.lasts(0, 98), 34);
        due("14 A 99", x.lasts(0, 99), 100);
        x.one(3, 99, 9, 0);
        due("14 D 99", x.lasts(3, 99), 100);
        due("14 D 98", x.lasts(3, 98), NONE);
        x.one(4, 0, 1, 0);
        due("14 E 98", x.lasts(4, 98), 98);
        due("14 E 0", x.lasts(4, 0), 0);
        due("14 unknown", x.lasts(5, 99), UNKNOWN);
        due("14 unknown ahead", x.lasts(5, 100), UNKNOWN);
        due("14 -1", x.lasts(0, -1), OUTSIDE);
        due("14 100", x.lasts(0, 100), OUTSIDE);
        for (int far : FAR) {
            due("14 far one", x.lasts(far, 0), UNKNOWN);
            due("14 far v", x.lasts(0, far), OUTSIDE);
        }
        x.set(0, 2);
        days(x, "Ab").done();
        due("14 mornings without a bite", x.lasts(0, 32), 1);
    }

    // promise 15
    private static void keeps() {
        MorningBite x = three();
        due("15 C two days", x.keeps(4, 2, 2, 29), 1);
        due("15 all", x.keeps(7, 2, 6, 32), 3);
        due("15 one a day", x.keeps(7, 2, 1, 32), NONE);
        due("15 nobody", x.keeps(0, 6, 0, 0), 0);
        due("15 no days", x.keeps(7, 0, 0, 0), 0);
        due("15 no halves", x.keeps(7, 1, 0, 32), 0);
        due("15 too old at once", x.keeps(2, 1, 2, 30), NONE);
        due("15 a whole at once", x.keeps(1, 1, 2, 28), 2);
        due("15 not by a half", x.keeps(1, 1, 1, 28), NONE);
        due("15 99 is no limit", x.keeps(7, 6, 0, 99), 0);
        x.set(0, 2);
        days(x, "Ab").done();
        due("15 eaten is no matter", x.keeps(1, 1, 2, 28), 2);
        x.one(3, 95, 9, 95);
        due("15 the cap is no rescue below 99", x.keeps(8, 6, 6, 98), 6);
        due("15 set -1", x.keeps(-1, 0, 0, 0), UNKNOWN);
        due("15 set 64", x.keeps(64, 0, 0, 0), UNKNOWN);
        due("15 not there", x.keeps(16, 7, 0, 0), UNKNOWN);
        due("15 not there, four", x.keeps(23, 0, 0, 0), UNKNOWN);
        due("15 m -1", x.keeps(15, -1, 0, 0), OUTSIDE);
        due("15 m 7", x.keeps(1, 7, 0, 0), OUTSIDE);
        due("15 n -1", x.keeps(1, 0, -1, 0), OUTSIDE);
        due("15 n 7", x.keeps(15, 0, 7, 0), OUTSIDE);
        due("15 v -1", x.keeps(1, 0, 0, -1), OUTSIDE);
        due("15 v 100", x.keeps(15, 0, 0, 100), OUTSIDE);
        due("15 four", x.keeps(15, 0, 0, 0), FULL);
        for (int far : FAR) {
            due("15 far set", x.keeps(far, 1, 1, 1), UNKNOWN);
            due("15 far m", x.keeps(1, far, 1, 1), OUTSIDE);
            due("15 far n", x.keeps(1, 1, far, 1), OUTSIDE);
            due("15 far v", x.keeps(1, 1, 1, far), OUTSIDE);
        }
    }

    private static void row(MorningBite x, String call, int set, int[] k, String row) {
        StringBuilder got = new StringBuilder();
        for (int day = 0; day < k[0]; day++) {
            for (int one = 0; one < 6; one++) {
                if ((set >> one & 1) == 1) {
                    got.append(x.plan(set, k[0], k[1], k[2], day, one));
                }
            }
        }
        Check.holds("16 " + call + ": " + got + ", due is " + row, got.toString().equals(row));
    }

    // promise 16
    private static void plan() {
        MorningBite x = three();
        row(x, "C two days", 4, new int[] {2, 2, 29}, "01");
        row(x, "all two days", 7, new int[] {2, 6, 32}, "000111");
        row(x, "by twos", 7, new int[] {2, 2, 33}, "000101");
        row(x, "A comes down", 1, new int[] {3, 2, 28}, "211");
        row(x, "A and C", 5, new int[] {3, 2, 31}, "101111");
        row(x, "nothing", 7, new int[] {2, 0, 99}, "000000");
        due("16 no way", x.plan(7, 2, 1, 32, 0, 0), NONE);
        due("16 no way, late", x.plan(7, 2, 1, 32, 1, 2), NONE);
        due("16 not of the set, no way", x.plan(3, 2, 0, 31, 0, 2), UNKNOWN);
        due("16 not of the set", x.plan(3, 2, 2, 40, 0, 2), UNKNOWN);
        due("16 one 6", x.plan(3, 2, 2, 40, 0, 6), UNKNOWN);
        due("16 one -1", x.plan(3, 2, 2, 40, 0, -1), UNKNOWN);
        due("16 one 32", x.plan(3, 2, 2, 40, 0, 32), UNKNOWN);
        due("16 day 2", x.plan(3, 2, 2, 40, 2, 0), UNKNOWN);
        due("16 day -1", x.plan(3, 2, 2, 40, -1, 0), UNKNOWN);
        due("16 no days", x.plan(3, 0, 2, 40, 0, 0), UNKNOWN);
        due("16 nobody", x.plan(0, 2, 2, 40, 0, 0), UNKNOWN);
        x.one(3, 1, 1, 1);
        due("16 set", x.plan(16, 7, 0, 0, 9, 9), UNKNOWN);
        due("16 outside ahead of full", x.plan(15, 7, 0, 0, 0, 0), OUTSIDE);
        due("16 outside ahead of unknown", x.plan(1, 1, 7, 0, 0, 9), OUTSIDE);
        due("16 v", x.plan(1, 1, 1, 100, 0, 0), OUTSIDE);
        due("16 full ahead of unknown", x.plan(15, 1, 1, 1, 9, 9), FULL);
        for (int far : FAR) {
            due("16 far set", x.plan(far, 1, 1, 99, 0, 0), UNKNOWN);
            due("16 far day", x.plan(1, 1, 1, 99, far, 0), UNKNOWN);
            due("16 far one", x.plan(1, 1, 1, 99, 0, far), UNKNOWN);
            due("16 far m", x.plan(1, far, 1, 99, 0, 0), OUTSIDE);
        }
    }

    // promise 17
    private static void envy() {
        MorningBite x = new MorningBite();
        due("17 nobody, none", x.envy(0, 0), 1);
        due("17 nobody, none, first", x.envy(0, 1), 333333);
        due("17 nobody, one", x.envy(1, 0), 0);
        due("17 nobody, one, first", x.envy(1, 1), NONE);
        x.one(5, 50, 1, 0);
        due("17 F alone", x.envy(2, 1), 333332);
        due("17 F alone, count", x.envy(2, 0), 1);
        due("17 F alone, too many", x.envy(3, 0), 0);
        x.one(0, 50, 1, 0);
        due("17 level, one", x.envy(1, 0), 0);
        due("17 level, two", x.envy(2, 1), 133331);
        due("17 level, two, count", x.envy(2, 0), 1);
        due("17 level, four", x.envy(4, 1), 233332);
        due("17 level, none", x.envy(0, 1), 33330);
        x.one(0, 51, 1, 0);
        due("17 A older: F gets it, or A if level behind it", x.envy(1, 0), 2);
        due("17 A older: the first", x.envy(1, 1), 33331);
        due("17 A older: two", x.envy(2, 0), 2);
        due("17 A older: two, first", x.envy(2, 1), 33332);
        x = three();
        due("17 three, six", x.envy(6, 1), 222333);
        due("17 three, none: level behind it is no envy", x.envy(0, 0), 1);
        due("17 c -1", x.envy(-1, 0), OUTSIDE);
        due("17 c 13", x.envy(13, 0), OUTSIDE);
        due("17 c 12", x.envy(12, 0), 0);
        due("17 what 2", x.envy(0, 2), OUTSIDE);
        due("17 what -1", x.envy(0, -1), OUTSIDE);
        for (int far : FAR) {
            due("17 far c", x.envy(far, 0), OUTSIDE);
            due("17 far what", x.envy(0, far), OUTSIDE);
        }
        for (int one = 0; one < 6; one++) {
            x.one(one, 16 * one, 1, 0);
        }
        due("17 six far apart: a whole for all", x.envy(12, 1), 222222);
        due("17 six far apart: all shares of six", x.envy(6, 0), 141);
        due("17 six far apart: the first", x.envy(6, 1), 222);
    }

    // promise 18
    private static void refuses() {
        MorningBite x = three();
        due("18 two", x.refuses(2), 38);
        due("18 none", x.refuses(0), 0);
        due("18 one", x.refuses(1), 4 + 1 + 18);
        due("18 sixty", x.refuses(60), 99 - 20 + 91 - 31 + 99 - 10);
        x.set(2, 0);
        x.set(0, 2);
        days(x, "Ab").done();
        due("18 eaten and she are no matter", x.refuses(2), 38);
        due("18 -1", x.refuses(-1), OUTSIDE);
        due("18 61", x.refuses(61), OUTSIDE);
        for (int far : FAR) {
            due("18 far", x.refuses(far), OUTSIDE);
        }
        due("18 nobody", new MorningBite().refuses(60), 0);
    }

    // promise 19
    private static void seen() {
        MorningBite x = three();
        for (int i = 1; i <= 8; i++) {
            due("19 sight " + i, x.seen(i % 3, i == 8 ? 99 : 0), i);
        }
        due("19 full", x.seen(0, 0), FULL);
        due("19 unknown ahead", x.seen(3, 100), UNKNOWN);
        due("19 outside ahead of full", x.seen(0, 100), OUTSIDE);
        due("19 -1", x.seen(0, -1), OUTSIDE);
        due("19 sights", x.told(5), 8);
        for (int far : FAR) {
            due("19 far one", x.seen(far, 0), UNKNOWN);
            due("19 far v", x.seen(0, far), OUTSIDE);
        }
    }

    // promise 20
    private static void forget() {
        MorningBite x = three();
        due("20 none", x.forget(), 0);
        x.seen(0, 30);
        x.seen(1, 0);
        due("20 two", x.forget(), 2);
        due("20 sights", x.told(5), 0);
        due("20 all fit again", x.gave(0), 4);
        due("20 as new", x.seen(0, 30), 1);
    }

    // promise 21
    private static void gave() {
        MorningBite x = three();
        due("21 all, and nobody", x.gave(0), 4);
        due("21 who", x.gave(1), 7);
        x.seen(0, 30);
        due("21 A ate one", x.gave(0), 1);
        due("21 A", x.gave(1), 1);
        x.seen(1, 31);
        due("21 B looks so anyway", x.gave(1), 1);
        x.seen(2, 20);
        due("21 not both", x.gave(0), 0);
        due("21 who: none", x.gave(1), 0);
        x.forget();
        x.seen(1, 31);
        due("21 B tells nothing", x.gave(0), 4);
        x.seen(0, 28);
        x.seen(2, 11);
        due("21 nobody, or B", x.gave(0), 2);
        due("21 B", x.gave(1), 2);
        x.leave(1);
        due("21 of one who is gone: by none", x.gave(0), 0);
        due("21 nobody neither", x.gave(1), 0);
        x.one(1, 40, 9, 31);
        due("21 as things are when that is asked", x.gave(0), 1);
        due("21 nobody alone", x.gave(1), 0);
        x.set(0, 2);
        days(x, "Ah").done();
        due("21 eaten is no matter", x.gave(0), 1);
        due("21 what 2", x.gave(2), OUTSIDE);
        due("21 what -1", x.gave(-1), OUTSIDE);
        for (int far : FAR) {
            due("21 far", x.gave(far), OUTSIDE);
        }
        due("21 nobody is there", new MorningBite().gave(0), 1);
        due("21 nobody is there: who", new MorningBite().gave(1), 0);
    }

    // promise 22
    private static void ask() {
        MorningBite x = three();
        due("22 A: one or three", x.ask(0), 0);
        due("22 three at the most", x.ask(1), 3);
        x.seen(0, 28);
        due("22 C", x.ask(0), 2);
        due("22 C: two at the most", x.ask(1), 2);
        x.seen(2, 11);
        due("22 B looks the same: the least", x.ask(0), 0);
        due("22 two", x.ask(1), 2);
        x.seen(2, 12);
        due("22 no giver fits", x.ask(0), NONE);
        due("22 no giver fits: how many", x.ask(1), NONE);
        due("22 what 2", x.ask(2), OUTSIDE);
        due("22 what -1", x.ask(-1), OUTSIDE);
        for (int far : FAR) {
            due("22 far", x.ask(far), OUTSIDE);
        }
        due("22 nobody is there", new MorningBite().ask(0), NONE);
        due("22 nobody is there: how many", new MorningBite().ask(1), NONE);
        x = new MorningBite();
        x.one(3, 40, 2, 10);
        due("22 D alone", x.ask(0), 3);
        due("22 D alone: one", x.ask(1), 1);
        x.seen(3, 38);
        due("22 nobody fits: a look is due still", x.ask(0), 3);
        due("22 nobody fits", x.ask(1), 1);
    }

    // promise 23
    private static void thieves() {
        MorningBite x = new MorningBite();
        int[][] games = {{1, 1, 0}, {1, 9, 0}, {2, 1, 1}, {3, 1, 0}, {2, 9, 1}, {10, 9, 9}, {11, 9, 0}, {12, 9, 1},
            {99, 9, 8}, {99, 1, 0}, {98, 1, 1}, {5, 3, 0}, {7, 3, 2}};
        for (int[] g : games) {
            String call = "23 " + g[0] + " by " + g[1];
            due(call, x.thieves(g[0], g[1], 0), g[2] == 0 ? 0 : 1);
            due(call + ": takes", x.thieves(g[0], g[1], 1), g[2] == 0 ? NONE : g[2]);
        }
        int[][] wrong = {{0, 1, 0}, {100, 1, 0}, {1, 0, 0}, {1, 10, 0}, {1, 1, 2}, {1, 1, -1}, {-1, -1, 0}};
        for (int[] w : wrong) {
            due("23 wrong " + w[0] + " " + w[1] + " " + w[2], x.thieves(w[0], w[1], w[2]), OUTSIDE);
        }
        for (int far : FAR) {
            due("23 far n", x.thieves(far, 1, 0), OUTSIDE);
            due("23 far k", x.thieves(1, far, 0), OUTSIDE);
            due("23 far what", x.thieves(1, 1, far), OUTSIDE);
        }
    }

    private static void fraction(MorningBite x, int[] k, long upper, long lower) {
        String call = "24 worms(" + k[0] + ", " + k[1] + ", " + k[2] + ", " + k[3] + ")";
        due(call + " upper", x.worms(k[0], k[1], k[2], k[3], 0), upper);
        due(call + " lower", x.worms(k[0], k[1], k[2], k[3], 1), lower);
    }

    // promise 24
    private static void worms() {
        MorningBite x = three();
        fraction(x, new int[] {0, 2, 5, 30}, 3, 4);
        fraction(x, new int[] {0, 0, 5, 30}, 1, 1);
        fraction(x, new int[] {0, 0, 5, 29}, 0, 1);
        fraction(x, new int[] {0, 0, 5, -1}, 30, 1);
        fraction(x, new int[] {0, 1, 0, 28}, 1, 1);
        fraction(x, new int[] {0, 1, 10, 31}, 0, 1);
        fraction(x, new int[] {0, 1, 10, 32}, 1, 1);
        fraction(x, new int[] {0, 1, 3, 28}, 7, 10);
        fraction(x, new int[] {0, 1, 3, -1}, 146, 5);
        fraction(x, new int[] {0, 6, 1, 99}, 1, 1);
        fraction(x, new int[] {0, 6, 1, 20}, 531441, 1000000);
        fraction(x, new int[] {0, 6, 1, 22}, 177147, 200000);
        x.one(3, 0, 9, 0);
        fraction(x, new int[] {3, 1, 0, -1}, 0, 1);
        fraction(x, new int[] {3, 1, 5, 0}, 1, 2);
        fraction(x, new int[] {3, 2, 5, -1}, 27, 4);
        x.one(4, 98, 9, 90);
        fraction(x, new int[] {4, 2, 5, -1}, 189, 2);
        x.set(0, 2);
        days(x, "Ab").done();
        fraction(x, new int[] {0, 1, 0, 28}, 1, 1);
        due("24 unknown", x.worms(5, 9, 99, 200, 7), GONE + UNKNOWN);
        int[][] wrong = {{-1, 0, 0, 0}, {7, 0, 0, 0}, {0, -1, 0, 0}, {0, 11, 0, 0}, {0, 0, -2, 0}, {0, 0, 100, 0},
            {0, 0, 0, -1}, {0, 0, 0, 2}};
        for (int[] w : wrong) {
            due("24 wrong " + w[0] + " " + w[1] + " " + w[2] + " " + w[3], x.worms(0, w[0], w[1], w[2], w[3]),
                GONE + OUTSIDE);
        }
        for (int far : FAR) {
            due("24 far one", x.worms(far, 0, 0, 0, 0), GONE + UNKNOWN);
            due("24 far a", x.worms(0, far, 0, 0, 0), GONE + OUTSIDE);
            due("24 far t", x.worms(0, 0, far, 0, 0), GONE + OUTSIDE);
            due("24 far v", x.worms(0, 0, 0, far, 0), GONE + OUTSIDE);
            due("24 far part", x.worms(0, 0, 0, 0, far), GONE + OUTSIDE);
        }
    }

    // promise 25
    private static void year() {
        MorningBite x = new MorningBite();
        due("25 nobody: looks", x.year(0, 99, 0), 0);
        due("25 nobody: who", x.year(0, 99, 1), NONE);
        x.one(0, 30, 2, 20);
        // x is 74: of ONE 2, by 12 left over by 7: 5, a morning.
        due("25 a morning", x.year(0, 1, 0), 32);
        due("25 one morning", x.year(0, 1, 2), 1);
        // x is 749 (seed 9): of ONE 5, by 124 left over by 7: 5, a morning; 56249: of ONE 5, by 9374: 1, it bites.
        x.set(0, 0);
        due("25 who is not there can not bite", x.year(9, 2, 0), 32);
        x.one(5, 50, 5, 10);
        // Then x is 24261: of ONE 3, by 4043: 4, it gives to ONE 577 left over by 6, 1: neither is there.
        // Then x is 50050: of ONE 4, by 8341: 4, it gives. Nothing comes of that.
        due("25 two, no morning behind the bite", x.year(9, 4, 0), 32 + 55);
        due("25 F is oldest", x.year(9, 4, 1), 5);
        due("25 one morning in four", x.year(9, 4, 2), 1);
        due("25 nothing is done", x.told(10), 30);
        due("25 nor eaten", x.told(63), 0);
        asToldOnThePad();
        due("25 seed 9999", x.year(9999, 1, 2) >= 0 ? 1 : 0, 1);
        due("25 seed -1", x.year(-1, 1, 0), OUTSIDE);
        due("25 seed 10000", x.year(10000, 1, 0), OUTSIDE);
        due("25 m 0", x.year(0, 0, 0), OUTSIDE);
        due("25 m 100", x.year(0, 100, 0), OUTSIDE);
        due("25 what 3", x.year(0, 1, 3), OUTSIDE);
        due("25 what -1", x.year(0, 1, -1), OUTSIDE);
        for (int far : FAR) {
            due("25 far seed", x.year(far, 1, 0), OUTSIDE);
            due("25 far m", x.year(0, far, 0), OUTSIDE);
            due("25 far what", x.year(0, 1, far), OUTSIDE);
        }
    }

    /** A year is what its draws do when they are said on the pad one by one, those left out that can not be. */
    private static void asToldOnThePad() {
        int[] seeds = {0, 1, 77, 4711, 9998, 9999};
        for (int seed : seeds) {
            MorningBite x = new MorningBite();
            for (int one = 0; one < 6; one++) {
                x.one(one, 40 + 5 * one, 1 + one, 20);
            }
            x.set(0, 9);
            MorningBite y = new MorningBite();
            for (int one = 0; one < 6; one++) {
                y.one(one, 40 + 5 * one, 1 + one, 20);
            }
            y.set(0, 9);
            int draw = seed;
            int mornings = 0;
            // Five calls for each act at the most, so that it stays below the 512 that an object is promised for.
            for (int m = 1; m <= 90; m++) {
                draw = (75 * draw + 74) % 65537;
                int kind = draw / 6 % 7;
                mornings += kind == 5 ? 1 : 0;
                String who = "" + (char) ('A' + draw % 6);
                String[] acts = {"b", "b", "h", "h", ">" + (char) ('A' + draw / 42 % 6)};
                say(y, kind == 5 ? "." : kind == 6 ? "!" : who + acts[kind]);
                if (y.done() < 0) {
                    y.wipe();
                }
                if (m % 15 == 0) {
                    int sum = 0;
                    for (int one = 0; one < 6; one++) {
                        sum += y.behind(one, 0);
                    }
                    due("25 seed " + seed + ", " + m + " acts: looks", x.year(seed, m, 0), sum);
                    due("25 seed " + seed + ", " + m + " acts: mornings", x.year(seed, m, 2), mornings);
                }
            }
        }
    }

    // promises 26 and 27
    private static void image() {
        MorningBite x = three();
        x.set(0, 9);
        x.set(1, 5);
        x.seen(0, 28);
        days(x, "Ah").done();
        say(x, "!..");
        due("26 kept", x.image(0), 1);
        due("27 the other was not", x.restore(1), STATE);
        x.leave(1);
        x.one(4, 9, 9, 9);
        x.one(0, 77, 7, 70);
        x.set(0, 1);
        x.set(1, 2);
        x.set(2, 0);
        x.forget();
        x.wipe();
        say(x, "!");
        due("26 the other", x.image(1), 1);
        due("27 restore(0)", x.restore(0), 1);
        int[] kept = {1, 7, 8, 5, 1, 1};
        for (int what = 0; what < kept.length; what++) {
            due("27 told " + what, x.told(what), kept[what]);
        }
        int[] ofA = {30, 2, 20, 1};
        for (int what = 0; what < ofA.length; what++) {
            due("27 told of A " + what, x.told(10 + what), ofA[what]);
        }
        due("27 B is there", x.told(20), 31);
        due("27 E is not", x.told(50), OUTSIDE);
        due("27 the sights", x.gave(0), 3);
        due("27 restore(1)", x.restore(1), 1);
        due("27 A is as it was", x.told(10), 77);
        due("27 no sights", x.told(5), 0);
        due("27 the ones", x.told(1), 1 + 4 + 16);
        due("27 she", x.told(4), 0);
        due("27 an image stays", x.restore(0), 1);
        x.one(0, 1, 1, 1);
        x.seen(2, 99);
        due("27 an image is apart", x.restore(0), 1);
        due("27 A's looks", x.told(10), 30);
        due("27 sights", x.told(5), 1);
        due("27 givers", x.gave(0), 3);
        x.one(0, 2, 1, 1);
        due("26 anew", x.image(0), 1);
        x.leave(0);
        x.restore(0);
        due("26 the later one", x.told(10), 2);
        int[] wrong = {-1, 2, Integer.MIN_VALUE, Integer.MAX_VALUE};
        for (int k : wrong) {
            due("26 image(" + k + ")", x.image(k), OUTSIDE);
            due("27 restore(" + k + ")", x.restore(k), OUTSIDE);
        }
    }

    // promise 28
    private static void told() {
        MorningBite x = three();
        x.one(5, 60, 6, 50);
        x.set(0, 33);
        x.set(1, 22);
        x.set(2, 0);
        x.seen(0, 1);
        x.seen(0, 1);
        days(x, "FbAh").done();
        say(x, "FbAh");
        int[] all = {4, 39, 30, 22, 0, 2, OUTSIDE, OUTSIDE, OUTSIDE, OUTSIDE};
        for (int what = 0; what < all.length; what++) {
            due("28 told " + what, x.told(what), all[what]);
        }
        int[] ofA = {30, 2, 20, 1, OUTSIDE, OUTSIDE, OUTSIDE, OUTSIDE, OUTSIDE, OUTSIDE};
        int[] ofF = {60, 6, 50, 2, OUTSIDE, OUTSIDE, OUTSIDE, OUTSIDE, OUTSIDE, OUTSIDE};
        for (int what = 0; what < 10; what++) {
            due("28 of A " + what, x.told(10 + what), ofA[what]);
            due("28 of D " + what, x.told(40 + what), OUTSIDE);
            due("28 of F " + what, x.told(60 + what), ofF[what]);
            due("28 of nobody " + what, x.told(70 + what), OUTSIDE);
            due("28 below " + what, x.told(-1 - what), OUTSIDE);
        }
        for (int far : FAR) {
            due("28 far", x.told(far), OUTSIDE);
        }
    }
}
