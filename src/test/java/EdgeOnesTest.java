/** Section 1 and promises 1 to 7, sentence by sentence where a boundary is named; each quotes its sentence. */
final class EdgeOnesTest {
    private static final int UNKNOWN = -1, OUTSIDE = -2, FULL = -4, NONE = -6;
    private static final String LETTERS = "ABCDEF";

    public static void main(String[] args) {
        aNewObject();
        onesFromAToF();
        looks();
        pace();
        youth();
        oneAnew();
        goes();
        eatenTwoAtMost();
        basket();
        grown();
        she();
        sixtySigns();
        codes();
        wipes();
        olderByAMorning();
        sameByAMorning();
        youngerByAMorning();
        eatenIsNone();
        whatIsLeftRots();
        faultAtEachPlace();
        firstFault();
        moreMustCome();
        fullPadFault();
        emptyPad();
        reasonOne();
        reasonTwo();
        reasonThree();
        reasonFour();
        reasonFive();
        leastReason();
        bites();
        goesForGood();
        gives();
        lured();
        Check.end();
    }

    private static void due(String what, long got, long want) {
        Check.due(what, got, want);
    }

    private static MorningBite pad(MorningBite x, String text) {
        return Scene.pad(x, text);
    }

    /** "Nobody is there, the BASKET is empty." */
    private static void aNewObject() {
        String none = " -2/-2/-2/-2 -2/-2/-2/-2 -2/-2/-2/-2 -2/-2/-2/-2 -2/-2/-2/-2 -2/-2/-2/-2";
        String images = " image 0 -3 told 0 0 0 12 1 0" + none + " gave 1 0 ask -6"
            + " image 1 -3 told 0 0 0 12 1 0" + none + " gave 1 0 ask -6";
        String due = " told 0 0 0 12 1 0" + none + " gave 1 0 ask -6 fault -6 judge -6 -6 0 basket 0"
            + " behind -1/-1 -1/-1 -1/-1 -1/-1 -1/-1 -1/-1" + images;
        String seen = Scene.look(new MorningBite());
        Check.holds("a new object: " + seen + ", due is " + due, seen.equals(due));
        MorningBite used = Scene.rich("Ab");
        used.leave(0);
        seen = Scene.look(new MorningBite());
        Check.holds("a new object beside a used one", seen.equals(due));
    }

    /** "ONES 0 to 5 (A to F), some of whom there are (none at first)"; "how many are". */
    private static void onesFromAToF() {
        MorningBite all = new MorningBite();
        for (int one = 0; one < 6; one++) {
            due("all come: " + one, all.one(one, 50, 5, 5), one + 1);
            due("all come: bits", all.told(1), (2 << one) - 1);
            MorningBite x = new MorningBite();
            due("one alone: " + one, x.one(one, 50, 5, 5), 1);
            due("one alone: bits", x.told(1), 1 << one);
            for (int other = 0; other < 6; other++) {
                pad(x, LETTERS.charAt(other) + "x");
                due("the letter of " + other + ", only " + one + " is there", x.judge(1), one == other ? NONE : 1);
                due("told of " + other, x.told(10 + 10 * other), one == other ? 50 : OUTSIDE);
            }
        }
        due("-1", all.one(-1, 50, 5, 5), UNKNOWN);
        due("6", all.one(6, 50, 5, 5), UNKNOWN);
        due("six are there", all.told(1), 63);
    }

    /** "each LOOKS some age (0 to 99)". */
    private static void looks() {
        MorningBite x = new MorningBite();
        due("LOOKS 0", x.one(0, 0, 1, 0), 1);
        due("LOOKS 0 told", x.told(10), 0);
        due("LOOKS 99", x.one(0, 99, 1, 0), 1);
        due("LOOKS 99 told", x.told(10), 99);
        due("LOOKS -1", x.one(0, -1, 1, 0), OUTSIDE);
        due("LOOKS 100", x.one(0, 100, 1, 0), OUTSIDE);
        due("as it was", x.told(10), 99);
    }

    /** "has a PACE (1 to 9)". */
    private static void pace() {
        MorningBite x = new MorningBite();
        due("PACE 1", x.one(0, 50, 1, 0), 1);
        due("PACE 1 told", x.told(11), 1);
        due("PACE 9", x.one(0, 50, 9, 0), 1);
        due("PACE 9 told", x.told(11), 9);
        due("PACE 0", x.one(0, 50, 0, 0), OUTSIDE);
        due("PACE 10", x.one(0, 50, 10, 0), OUTSIDE);
        due("as it was", x.told(11), 9);
    }

    /** "a YOUTH (0 to LOOKS)". */
    private static void youth() {
        for (int looks : new int[] {0, 1, 50, 98, 99}) {
            MorningBite x = new MorningBite();
            due("YOUTH 0 of " + looks, x.one(0, looks, 1, 0), 1);
            due("YOUTH 0 told", x.told(12), 0);
            due("YOUTH is LOOKS " + looks, x.one(0, looks, 1, looks), 1);
            due("YOUTH told", x.told(12), looks);
            due("YOUTH above LOOKS " + looks, x.one(0, looks, 1, looks + 1), OUTSIDE);
            due("YOUTH -1", x.one(0, looks, 1, -1), OUTSIDE);
            due("as it was", x.told(12), looks);
        }
    }

    /** "A ONE is there (or anew, EATEN 0): how many are." */
    private static void oneAnew() {
        MorningBite x = Scene.six();
        pad(x, "AbFh").done();
        due("A ate two", x.told(13), 2);
        due("A anew", x.one(0, 7, 7, 7), 6);
        due("A anew: EATEN", x.told(13), 0);
        due("A anew: LOOKS", x.told(10), 7);
        due("A anew: PACE", x.told(11), 7);
        due("A anew: YOUTH", x.told(12), 7);
        due("F's half stays eaten", x.told(63), 1);
        due("the BASKET does not come back", x.told(2), 9);
        due("F goes", x.leave(5), 5);
        due("F comes back", x.one(5, 80, 6, 20), 6);
        due("F came back: EATEN", x.told(63), 0);
        pad(x, "BhBx").done();
        due("B went on the PAD", x.told(1), 61);
        due("B comes back", x.one(1, 40, 2, 20), 6);
        due("B came back: EATEN", x.told(23), 0);
    }

    /** "A ONE goes: how many are there. UNKNOWN: it was not." */
    private static void goes() {
        MorningBite x = Scene.six();
        for (int one = 0; one < 6; one++) {
            due("leave(" + one + ")", x.leave(one), 5 - one);
            due("leave(" + one + ") again", x.leave(one), UNKNOWN);
            due("who is there", x.told(1), 63 & ~((2 << one) - 1));
        }
        for (int one = -1; one < 7; one++) {
            due("nobody is there: leave(" + one + ")", x.leave(one), UNKNOWN);
        }
        due("the BASKET stays", x.told(2), 12);
    }

    /** "EATEN: halves eaten this day (0 at first; 2 at most)". */
    private static void eatenTwoAtMost() {
        String[] toEat = {"", "Ah", "Ab"};
        for (int eaten = 0; eaten <= 2; eaten++) {
            MorningBite x = Scene.six();
            due("EATEN at first", x.told(13), 0);
            pad(x, toEat[eaten]).done();
            due("EATEN " + eaten, x.told(13), eaten);
            due("EATEN " + eaten + " and a half", pad(x, "Ah").judge(1), eaten <= 1 ? NONE : 3);
            due("EATEN " + eaten + " and a whole", pad(x, "Ab").judge(1), eaten == 0 ? NONE : 3);
            due("EATEN " + eaten + " and one from B", pad(x, "BhB>A").judge(1), eaten <= 1 ? NONE : 3);
        }
    }

    /** "BASKET: halves that are in it (0 to 99; 0 at first)". */
    private static void basket() {
        MorningBite x = new MorningBite();
        due("BASKET at first", x.told(2), 0);
        due("BASKET 99: what it was", x.set(0, 99), 0);
        due("BASKET 99", x.told(2), 99);
        due("BASKET 100", x.set(0, 100), OUTSIDE);
        due("BASKET -1", x.set(0, -1), OUTSIDE);
        due("BASKET 0: what it was", x.set(0, 0), 99);
        due("BASKET 0", x.told(2), 0);
    }

    /** "GROWN: halves that come each morning (0 to 40; 12 at first)". */
    private static void grown() {
        MorningBite x = new MorningBite();
        due("GROWN at first", x.told(3), 12);
        due("12 come", pad(x, ".").basket(), 12);
        due("GROWN 40: what it was", x.set(1, 40), 12);
        due("GROWN 40", x.told(3), 40);
        due("40 come", x.basket(), 40);
        due("GROWN 41", x.set(1, 41), OUTSIDE);
        due("GROWN -1", x.set(1, -1), OUTSIDE);
        due("GROWN 0: what it was", x.set(1, 0), 40);
        due("GROWN 0", x.told(3), 0);
        due("none come", x.basket(), 0);
    }

    /** "if SHE is there (she is, at first)"; "SHE (2: 1, 0)". */
    private static void she() {
        MorningBite x = new MorningBite();
        due("SHE at first", x.told(4), 1);
        due("SHE goes", x.set(2, 0), 1);
        due("SHE is away", x.told(4), 0);
        due("none come", pad(x, ".").basket(), 0);
        due("SHE is away already", x.set(2, 0), 0);
        due("SHE -1", x.set(2, -1), OUTSIDE);
        due("SHE 2", x.set(2, 2), OUTSIDE);
        due("SHE comes", x.set(2, 1), 0);
        due("SHE is there", x.told(4), 1);
        due("which 3", x.set(3, 0), OUTSIDE);
        due("which -1", x.set(-1, 0), OUTSIDE);
    }

    /** "a PAD of up to 60 signs"; "A sign more: how many. OUTSIDE; FULL." */
    private static void sixtySigns() {
        MorningBite x = new MorningBite();
        for (int i = 1; i <= 60; i++) {
            due("sign " + i, x.say(i % 2 == 0 ? '!' : '~'), i);
            due("signs", x.told(0), i);
        }
        due("sign 61", x.say('!'), FULL);
        due("signs still", x.told(0), 60);
        due("wipe", x.wipe(), 60);
        due("room again", x.say('!'), 1);
        due("room again, two", x.say('.'), 2);
    }

    /** "(codes 33 to 126)". */
    private static void codes() {
        MorningBite x = new MorningBite();
        due("32", x.say(32), OUTSIDE);
        due("127", x.say(127), OUTSIDE);
        due("0", x.say(0), OUTSIDE);
        due("-33", x.say(-33), OUTSIDE);
        due("none was said", x.told(0), 0);
        due("33", x.say(33), 1);
        due("126", x.say(126), 2);
        for (int code = 33; code <= 126; code++) {
            due("code " + code, new MorningBite().say(code), 1);
        }
    }

    /** "Signs go: how many there were." */
    private static void wipes() {
        MorningBite x = Scene.six();
        due("an empty PAD", x.wipe(), 0);
        for (int signs : new int[] {1, 2, 59, 60}) {
            pad(x, Scene.FULL_PAD.substring(0, signs));
            due(signs + " signs", x.wipe(), signs);
            due("no signs", x.told(0), 0);
            due("no FAULT", x.fault(), NONE);
            due("no mornings", x.judge(2), 0);
        }
        pad(x, "A").wipe();
        due("the A is forgotten", pad(x, "b").fault(), 0);
        due("nothing else goes", x.told(1) + x.told(2), 63 + 12);
    }

    private static void morning(int[] row, int halves, int due) {
        String eats = halves == 0 ? "" : halves == 1 ? "Ah" : "Ab";
        String what = row[0] + " by " + row[1] + " from " + row[2] + ", " + halves + " halves";
        MorningBite x = Scene.of(row);
        x.set(0, 2);
        due(what + ": behind", pad(x, eats + ".").behind(0, 0), due);
        x.done();
        due(what + ": done", x.told(10), due);
        due(what + ": EATEN", x.told(13), 0);
        x = Scene.of(row);
        if (halves == 0) {
            Check.holds(what + ": it lasts a morning", x.lasts(0, due) >= 1);
            Check.holds(what + ": not by less", x.lasts(0, due - 1) < 1);
            due(what + ": wormy", x.worms(0, 1, 10, -1, 0), due);
        } else {
            due(what + ": not wormy", x.worms(0, 1, 0, -1, 0), due);
            x.seen(0, due);
            due(what + ": seen", x.gave(0), due == row[0] ? 2 : 1);
        }
        int fewest = due == row[0] ? 1 : halves;
        due(what + ": the fewest halves", x.keeps(1, 1, halves, due), due == 99 ? 0 : fewest);
        due(what + ": not so young", due == 0 ? NONE : x.keeps(1, 1, halves, due - 1), NONE);
    }

    /** "that has none, PACE older, 99 at the most". */
    private static void olderByAMorning() {
        int[][] rows = {{0, 1, 0, 1}, {0, 9, 0, 9}, {50, 9, 50, 59}, {89, 9, 0, 98}, {90, 9, 0, 99}, {91, 9, 0, 99},
            {97, 1, 0, 98}, {98, 1, 0, 99}, {98, 9, 0, 99}, {99, 1, 0, 99}, {99, 9, 99, 99}};
        for (int[] r : rows) {
            morning(r, 0, r[3]);
        }
    }

    /** "that has EATEN one, as it did". */
    private static void sameByAMorning() {
        int[][] rows = {{0, 1, 0}, {0, 9, 0}, {1, 9, 1}, {50, 5, 20}, {50, 5, 50}, {99, 9, 0}, {99, 1, 99}};
        for (int[] r : rows) {
            MorningBite x = Scene.of(r);
            x.set(0, 1);
            due(r[0] + " by a half", pad(x, "Ah.").behind(0, 0), r[0]);
            due(r[0] + " by a half, shared out", x.keeps(1, 1, 1, r[0]), r[0] == 99 ? 0 : 1);
        }
    }

    /** "each ONE that has EATEN two halves LOOKS PACE younger, YOUTH at the least"; "LOOKS is never below it". */
    private static void youngerByAMorning() {
        int[][] rows = {{9, 9, 0, 0}, {10, 9, 0, 1}, {8, 9, 0, 0}, {0, 9, 0, 0}, {0, 1, 0, 0}, {1, 1, 0, 0},
            {1, 1, 1, 1}, {99, 9, 0, 90}, {99, 9, 90, 90}, {99, 9, 91, 91}, {99, 9, 89, 90}, {99, 1, 99, 99},
            {50, 1, 49, 49}, {50, 1, 50, 50}, {50, 9, 42, 42}, {50, 9, 41, 41}, {50, 9, 40, 41}};
        for (int[] r : rows) {
            morning(r, 2, r[3]);
        }
        MorningBite x = Scene.of(Scene.row(27, 9, 20));
        x.set(0, 2);
        due("by days, never below", pad(x, "Ab.Ab.Ab.").behind(0, 0), 20);
        due("then older from there", pad(x, "Ab.Ab..").behind(0, 0), 29);
    }

    /** "then EATEN is 0 of all". */
    private static void eatenIsNone() {
        MorningBite x = Scene.six();
        pad(x, "AbBbCbDhEhFh").done();
        int[] eaten = {2, 2, 2, 1, 1, 1};
        for (int one = 0; one < 6; one++) {
            due("EATEN of " + one, x.told(13 + 10 * one), eaten[one]);
            due("behind a morning, " + one, pad(x, ".").behind(one, 1), 0);
        }
        pad(x, ".").done();
        for (int one = 0; one < 6; one++) {
            due("done, " + one, x.told(13 + 10 * one), 0);
        }
        due("all may bite again", pad(x, "AbBbCbDbEbFb").judge(0), NONE);
    }

    /** "what is left in the BASKET rots: it has GROWN halves then, none if SHE is away". */
    private static void whatIsLeftRots() {
        int[] baskets = {0, 1, 12, 99};
        int[] growns = {0, 1, 40};
        for (int basket : baskets) {
            for (int grown : growns) {
                MorningBite x = new MorningBite();
                x.set(0, basket);
                x.set(1, grown);
                String what = basket + " left, GROWN " + grown;
                due(what, pad(x, ".").basket(), grown);
                due(what + ", two mornings", pad(x, "..").basket(), grown);
                due(what + ", SHE goes ahead of it", pad(x, "!.").basket(), 0);
                due(what + ", SHE goes behind it", pad(x, ".!").basket(), grown);
                due(what + ", SHE goes and is back", pad(x, "!!.").basket(), grown);
                due(what + ", SHE is back behind it", pad(x, "!.!").basket(), 0);
                due(what + ", SHE is back by the next", pad(x, "!.!.").basket(), grown);
                due(what + ", no morning", pad(x, "!").basket(), basket);
                x.set(2, 0);
                due(what + ", SHE is away", pad(x, ".").basket(), 0);
                due(what + ", SHE comes", pad(x, "!.").basket(), grown);
            }
        }
    }

    /** "THE FAULT: the place of the first sign that can not stand there": each sign at each place of an ACT. */
    private static void faultAtEachPlace() {
        String[] starts = {"", ".", "!", "Ab", "Ah", "Ax", "A>B", "F>F", "..!."};
        String[] places = {"", "C", "C>"};
        String[] whole = {"!.", "bhx", LETTERS};
        String[] half = {LETTERS, ">", ""};
        for (String start : starts) {
            for (int place = 0; place < 3; place++) {
                for (int code = 33; code <= 126; code++) {
                    String text = start + places[place];
                    int due = text.length();
                    if (whole[place].indexOf(code) >= 0) {
                        due = NONE;
                    } else if (half[place].indexOf(code) >= 0) {
                        due = text.length() + 1;
                    }
                    due("FAULT of " + text + (char) code, pad(new MorningBite(), text + (char) code).fault(), due);
                }
            }
        }
    }

    /** The first one is told, not a later one; what comes behind it is no matter. */
    private static void firstFault() {
        String[] texts = {"~", "AA", "A>>", "Abb", "A>B>", ".~", "Ab.Bq"};
        int[] dues = {0, 1, 2, 2, 3, 1, 4};
        for (int i = 0; i < texts.length; i++) {
            for (String more : new String[] {"", "~", "~~", "Ab", ".", "A", "A>"}) {
                due("FAULT of " + texts[i] + more, pad(new MorningBite(), texts[i] + more).fault(), dues[i]);
            }
        }
        MorningBite x = new MorningBite();
        due("a sign that is said", x.say('A'), 1);
        due("changes what fault() tells", x.fault(), 1);
        x.say('>');
        due("changes it again", x.fault(), 2);
        x.say('B');
        due("and again", x.fault(), NONE);
        x.say('B');
        due("more must come again", x.fault(), 4);
        x.say('!');
        due("now it can not stand", x.fault(), 4);
        x.say('.');
        due("it stays where it is", x.fault(), 4);
    }

    /** "or the number of signs, if more must come". */
    private static void moreMustCome() {
        for (String start : new String[] {"", ".", "Ab", "A>B", "!!!"}) {
            for (char letter : LETTERS.toCharArray()) {
                int signs = start.length();
                due(start + letter, pad(new MorningBite(), start + letter).fault(), signs + 1);
                due(start + letter + ">", pad(new MorningBite(), start + letter + ">").fault(), signs + 2);
            }
        }
    }

    /** A FAULT in the last sign of a full PAD, or behind it. */
    private static void fullPadFault() {
        String dots = Scene.FULL_PAD.substring(0, 58);
        due("the last sign can not stand", pad(new MorningBite(), dots + ".~").fault(), 59);
        due("the last sign can not stand in its ACT", pad(new MorningBite(), dots + "Aq").fault(), 59);
        due("more must come behind a letter", pad(new MorningBite(), dots + ".A").fault(), 60);
        due("more must come behind >", pad(new MorningBite(), dots + "A>").fault(), 60);
        due("a whole ACT", pad(new MorningBite(), dots + "Ab").fault(), NONE);
        due("sixty mornings", pad(new MorningBite(), Scene.FULL_PAD).fault(), NONE);
    }

    /** "(an empty PAD has no FAULT: no ACTS)". */
    private static void emptyPad() {
        for (MorningBite x : new MorningBite[] {new MorningBite(), Scene.six(), pad(Scene.six(), "")}) {
            due("no FAULT", x.fault(), NONE);
            due("no ACT that can not be", x.judge(0), NONE);
            due("no reason", x.judge(1), NONE);
            due("no mornings", x.judge(2), 0);
            due("no ACTS done", x.done(), 0);
        }
    }

    private static void why(String what, MorningBite x, String text, int act, int why) {
        pad(x, text);
        due(what + " " + text + ": the ACT", x.judge(0), act);
        due(what + " " + text + ": why", x.judge(1), why);
    }

    /** "1 there is no such ONE (one of both)". */
    private static void reasonOne() {
        MorningBite x = Scene.of(Scene.row(50, 5, 5), null, null, null, null, Scene.row(50, 5, 5));
        x.set(0, 12);
        for (String act : new String[] {"Bb", "Bh", "Bx", "B>A", "A>B", "B>B", "B>C", "E>F", "F>E"}) {
            why("not there", x, act, 0, 1);
        }
        for (String act : new String[] {"Ab", "Fh", "Ax", "Fx"}) {
            why("there", x, act, NONE, NONE);
        }
        why("gone", x, "AxAh", 1, 1);
        why("gone, given to", x, "FhAxF>A", 2, 1);
        why("gone, gives", x, "AhAxA>F", 2, 1);
        for (char letter : LETTERS.toCharArray()) {
            why("nobody is there", new MorningBite(), letter + "x", 0, 1);
        }
        why("nobody, a morning", new MorningBite(), ".!.", NONE, NONE);
    }

    /** "2 both are one". */
    private static void reasonTwo() {
        for (char letter : LETTERS.toCharArray()) {
            MorningBite x = Scene.six();
            why("EATEN none", x, letter + ">" + letter, 0, 2);
            why("EATEN one", x, letter + "h" + letter + ">" + letter, 1, 2);
            why("EATEN two", x, letter + "b" + letter + ">" + letter, 1, 2);
        }
    }

    /** "3 it would have EATEN more than two halves (>: the other one would)". */
    private static void reasonThree() {
        MorningBite x = Scene.six();
        why("two and a half", x, "AbAh", 1, 3);
        why("two and a whole", x, "AbAb", 1, 3);
        why("one and a whole", x, "AhAb", 1, 3);
        why("one and a half", x, "AhAh", NONE, NONE);
        why("three halves", x, "AhAhAh", 2, 3);
        why("none and a whole", x, "Ab", NONE, NONE);
        why("the other has two", x, "AhBbA>B", 2, 3);
        why("the other has one", x, "AhBhA>B", NONE, NONE);
        why("the other has none", x, "AhA>B", NONE, NONE);
        why("the giver has two", x, "AbA>B", NONE, NONE);
        why("one was given to it", x, "AbA>BBb", 2, 3);
        why("one was given away", x, "AbA>BAh", NONE, NONE);
        why("a new day", x, "Ab.Ab", NONE, NONE);
    }

    /** "4 the BASKET has too few". */
    private static void reasonFour() {
        int[][] rows = {{0, 4, 4}, {1, 4, NONE}, {2, NONE, NONE}, {3, NONE, NONE}, {99, NONE, NONE}};
        for (int[] r : rows) {
            MorningBite x = Scene.six();
            x.set(0, r[0]);
            why("BASKET " + r[0], x, "Ab", r[1] == 4 ? 0 : NONE, r[1]);
            why("BASKET " + r[0], x, "Ah", r[2] == 4 ? 0 : NONE, r[2]);
            why("BASKET " + r[0], x, "Ax!.", NONE, NONE);
        }
        MorningBite x = Scene.six();
        why("the twelfth half", x, "AbBbCbDbEbFb", NONE, NONE);
        x.set(0, 11);
        why("no twelfth half", x, "AbBbCbDbEbFb", 5, 4);
        why("the eleventh half", x, "AbBbCbDbEbFh", NONE, NONE);
        why("giving takes none", x, "AbBbCbDbEbFhA>F", NONE, NONE);
    }

    /** "5 it has EATEN none (>)". */
    private static void reasonFive() {
        MorningBite x = Scene.six();
        why("none", x, "A>B", 0, 5);
        why("one", x, "AhA>B", NONE, NONE);
        why("both given", x, "AbA>BA>C", NONE, NONE);
        why("a third", x, "AbA>BA>CA>D", 3, 5);
        why("behind a morning", x, "Ab.A>B", 2, 5);
        why("a given one is given on", x, "AhA>BB>CC>A", NONE, NONE);
    }

    /** "An ACT can not be for the least of these reasons": where two or more fit. */
    private static void leastReason() {
        MorningBite x = Scene.of(Scene.row(50, 5, 5), null, Scene.row(50, 5, 5));
        x.set(0, 2);
        why("1 and 2 (and 5)", x, "B>B", 0, 1);
        why("1 and 3", x, "AbB>A", 1, 1);
        why("1 and 4", x, "AbBb", 1, 1);
        why("1 and 4, a half", x, "AbBh", 1, 1);
        why("1 and 5", x, "A>B", 0, 1);
        why("2 and 3", x, "AbA>A", 1, 2);
        why("2 and 5", x, "A>A", 0, 2);
        why("3 and 4, a whole", x, "AbAb", 1, 3);
        why("3 and 4, a half", x, "AbAh", 1, 3);
        why("3 and 4, one and a whole", x, "AhChAb", 2, 3);
        why("3 and 5", x, "AbC>A", 1, 3);
        why("4 alone", x, "AbCh", 1, 4);
        why("5 alone", x, "C>A", 0, 5);
    }

    /** "b (it bites a whole APPLE: two halves), h (a half)". */
    private static void bites() {
        for (int one = 0; one < 6; one++) {
            MorningBite x = Scene.six();
            char letter = LETTERS.charAt(one);
            due("a whole: EATEN", pad(x, letter + "b").behind(one, 1), 2);
            due("a whole: BASKET", x.basket(), 10);
            due("a half: EATEN", pad(x, letter + "h").behind(one, 1), 1);
            due("a half: BASKET", x.basket(), 11);
            due("a whole does not make it younger by day", pad(x, letter + "b").behind(one, 0), 30 + 10 * one);
            due("two halves are a whole", pad(x, letter + "h" + letter + "h.").behind(one, 0), 29 + 9 * one);
        }
        MorningBite x = Scene.six();
        x.set(0, 99);
        due("from a full BASKET", pad(x, "Ab").basket(), 97);
        x.set(0, 2);
        due("the last whole", pad(x, "Ab").basket(), 0);
        x.set(0, 1);
        due("the last half", pad(x, "Ah").basket(), 0);
    }

    /** "x (it goes, for good)". */
    private static void goesForGood() {
        MorningBite x = Scene.six();
        pad(x, "AbAx..");
        due("it is not there behind that", x.behind(0, 0), UNKNOWN);
        due("its halves are gone", pad(x, "AbAx").basket(), 10);
        due("all go", pad(x, "AxBxCxDxExFx").judge(0), NONE);
        due("then none can go", pad(x, "AxBxCxDxExFxFx").judge(0), 6);
        pad(x, "AxBxCxDxExFx").done();
        due("nobody is there", x.told(1), 0);
        due("the BASKET stays", x.told(2), 12);
    }

    /** "> and a letter (.. its EATEN is 1 less, that one's 1 more)". */
    private static void gives() {
        int[][] rows = {{1, 0, 0, 1}, {1, 1, 0, 2}, {2, 0, 1, 1}, {2, 1, 1, 2}};
        String[] eats = {"", "h", "b"};
        for (int[] r : rows) {
            MorningBite x = Scene.six();
            String text = (r[0] == 0 ? "" : "A" + eats[r[0]]) + (r[1] == 0 ? "" : "F" + eats[r[1]]) + "A>F";
            due(text + ": A", pad(x, text).behind(0, 1), r[2]);
            due(text + ": F", x.behind(5, 1), r[3]);
            due(text + ": BASKET", x.basket(), 12 - r[0] - r[1]);
            due(text + ": B", x.behind(1, 1), 0);
            due(text + ": done", x.done(), (r[0] > 0 ? 1 : 0) + (r[1] > 0 ? 1 : 0) + 1);
            due(text + ": A ate", x.told(13), r[2]);
            due(text + ": F ate", x.told(63), r[3]);
        }
    }

    /** "! (SHE is lured away, or is back)". */
    private static void lured() {
        MorningBite x = Scene.six();
        for (int times = 1; times <= 4; times++) {
            pad(x, "!").done();
            due("lured " + times + " times", x.told(4), times % 2 == 0 ? 1 : 0);
        }
        pad(x, "!!!").done();
        due("thrice on one PAD", x.told(4), 0);
        due("those who are there stay", x.told(1), 63);
        due("the BASKET stays by day", x.told(2), 12);
    }
}
