/** Promises 26 to 28, and the 512 calls, sentence by sentence where a boundary is named; each quotes its sentence. */
final class EdgeImageTest {
    private static final int OUTSIDE = -2, STATE = -3, FULL = -4;

    public static void main(String[] args) {
        twoImages();
        notKept();
        allButThePad();
        imageOfNobody();
        imageOfTheMost();
        keptAnew();
        restoredTwice();
        toldOfAll();
        toldOfEachOne();
        toldAtTheEnds();
        calls();
        callsThatAsk();
        Check.end();
    }

    private static void due(String what, long got, long want) {
        Check.due(what, got, want);
    }

    /** "kept in an IMAGE (0, 1): 1. OUTSIDE." */
    private static void twoImages() {
        MorningBite x = Scene.of(Scene.row(10, 1, 1));
        due("image(0)", x.image(0), 1);
        x.one(0, 20, 2, 2);
        due("image(1)", x.image(1), 1);
        x.one(0, 30, 3, 3);
        due("image(-1)", x.image(-1), OUTSIDE);
        due("image(2)", x.image(2), OUTSIDE);
        due("restore(-1)", x.restore(-1), OUTSIDE);
        due("restore(2)", x.restore(2), OUTSIDE);
        due("as it is", x.told(10), 30);
        due("restore(0)", x.restore(0), 1);
        due("the first", x.told(10), 10);
        due("restore(1)", x.restore(1), 1);
        due("the second", x.told(10), 20);
        due("restore(0) again", x.restore(0), 1);
        due("the first again", x.told(10), 10);
    }

    /** "STATE: it was not." */
    private static void notKept() {
        MorningBite x = Scene.six();
        due("restore(0)", x.restore(0), STATE);
        due("restore(1)", x.restore(1), STATE);
        x.image(1);
        due("restore(0), 1 was kept", x.restore(0), STATE);
        due("restore(1)", x.restore(1), 1);
        due("restore(0), 1 was restored", x.restore(0), STATE);
        x.image(0);
        due("restore(0), too", x.restore(0), 1);
        due("OUTSIDE ahead of STATE", new MorningBite().restore(2), OUTSIDE);
        due("a refused image keeps nothing", new MorningBite().image(2), OUTSIDE);
    }

    /** "All but the PAD is kept"; "It is as it was when it was kept". */
    private static void allButThePad() {
        MorningBite x = Scene.rich("Ab!");
        x.image(0);
        x.say('.');
        x.leave(0);
        x.one(1, 1, 1, 1);
        x.one(3, 3, 3, 3);
        x.set(0, 99);
        x.set(1, 40);
        x.set(2, 1);
        x.forget();
        x.seen(3, 3);
        due("restore", x.restore(0), 1);
        due("the PAD is as it is", x.told(0), 4);
        x.say('.');
        due("the PAD goes on", x.judge(0), 0);
        due("A ate one: no whole", x.judge(1), 3);
        int[] due = {5, 63 - 8, 9, 7, 0, 2};
        for (int what = 0; what < due.length; what++) {
            due("told(" + what + ")", x.told(what), due[what]);
        }
        int[][] people = {{30, 1, 20, 1}, {40, 2, 20, 2}, {50, 3, 20, 0}, null, {70, 5, 66, 0}, {80, 6, 20, 0}};
        for (int one = 0; one < 6; one++) {
            for (int what = 0; what < 4; what++) {
                due("told of " + one, x.told(10 + 10 * one + what), people[one] == null ? OUTSIDE : people[one][what]);
            }
        }
        due("the sights", x.gave(1), 2 + 4 + 16);
        x.wipe();
        x.restore(0);
        due("an empty PAD stays empty", x.told(0), 0);
    }

    /** An image of a new object. */
    private static void imageOfNobody() {
        MorningBite x = new MorningBite();
        x.image(0);
        for (int one = 0; one < 6; one++) {
            x.one(one, 50, 5, 5);
        }
        x.seen(0, 45);
        x.set(0, 5);
        due("restore", x.restore(0), 1);
        due("nobody", x.told(1), 0);
        due("no sights", x.told(5), 0);
        due("no halves", x.told(2), 0);
        due("nobody fits", x.gave(0), 1);
    }

    /** An image of all six with eight sights and all halves. */
    private static void imageOfTheMost() {
        MorningBite x = new MorningBite();
        for (int one = 0; one < 6; one++) {
            x.one(one, 99, 9, one == 5 ? 99 : 0);
        }
        for (int i = 0; i < 8; i++) {
            x.seen(i % 6, i % 6 == 5 ? 99 : 90);
        }
        x.set(0, 99);
        x.set(1, 40);
        x.image(1);
        x.forget();
        for (int one = 0; one < 6; one++) {
            x.leave(one);
        }
        due("restore", x.restore(1), 1);
        due("all six", x.told(1), 63);
        due("eight sights", x.told(5), 8);
        due("no ninth", x.seen(0, 0), FULL);
        due("F or nobody", x.gave(0), 2);
        due("F", x.gave(1), 32);
        due("halves", x.told(2), 99);
        due("GROWN", x.told(3), 40);
    }

    /** The later image counts; it is apart from what comes behind it. */
    private static void keptAnew() {
        MorningBite x = Scene.of(Scene.row(10, 1, 1));
        x.seen(0, 9);
        x.image(0);
        x.one(0, 20, 2, 2);
        x.seen(0, 18);
        x.image(0);
        x.one(0, 30, 3, 3);
        x.forget();
        x.restore(0);
        due("the later one", x.told(10), 20);
        due("its sights", x.told(5), 2);
        Scene.pad(x, "..").done();
        x.forget();
        due("on", x.told(10), 24);
        x.restore(0);
        due("apart", x.told(10), 20);
        due("its sights are apart", x.told(5), 2);
        due("EATEN is apart", x.told(13), 0);
    }

    /** An image stays kept; one can be kept of what was restored. */
    private static void restoredTwice() {
        MorningBite x = Scene.six();
        x.image(0);
        for (int times = 0; times < 20; times++) {
            x.leave(times % 6);
            x.set(0, times);
            due("restore, time " + times, x.restore(0), 1);
            due("all six", x.told(1), 63);
            due("twelve", x.told(2), 12);
        }
        x.image(1);
        x.leave(0);
        x.image(0);
        x.restore(1);
        due("kept of what was restored", x.told(1), 63);
        x.restore(0);
        due("the first anew", x.told(1), 62);
    }

    /** "0 signs, 1 ONES (bits), 2 BASKET, 3 GROWN, 4 SHE, 5 SIGHTS": the least and the most of each. */
    private static void toldOfAll() {
        MorningBite x = new MorningBite();
        int[] least = {0, 0, 0, 12, 1, 0};
        for (int what = 0; what < 6; what++) {
            due("at first, " + what, x.told(what), least[what]);
        }
        for (int one = 0; one < 6; one++) {
            x.one(one, 99, 9, 99);
        }
        Scene.pad(x, Scene.FULL_PAD);
        x.set(0, 99);
        x.set(1, 40);
        x.set(2, 0);
        for (int i = 0; i < 8; i++) {
            x.seen(0, 0);
        }
        int[] most = {60, 63, 99, 40, 0, 8};
        for (int what = 0; what < 6; what++) {
            due("at the most, " + what, x.told(what), most[what]);
        }
        x.set(1, 0);
        due("GROWN 0", x.told(3), 0);
    }

    /** "10 times (1 and a ONE that is there) and 0 LOOKS, 1 PACE, 2 YOUTH, 3 EATEN". */
    private static void toldOfEachOne() {
        for (int one = 0; one < 6; one++) {
            MorningBite x = new MorningBite();
            x.one(one, 40 + one, 1 + one, 20 + one);
            x.set(0, 2);
            Scene.pad(x, "ABCDEF".charAt(one) + (one % 2 == 0 ? "b" : "h")).done();
            int[] due = {40 + one, 1 + one, 20 + one, one % 2 == 0 ? 2 : 1};
            for (int what = 10; what < 80; what++) {
                boolean its = what / 10 == 1 + one && what % 10 < 4;
                due("only " + one + " is there: told(" + what + ")", x.told(what), its ? due[what % 10] : OUTSIDE);
            }
            x.leave(one);
            for (int what = 0; what < 4; what++) {
                due("it left: told " + what, x.told(10 + 10 * one + what), OUTSIDE);
            }
        }
    }

    /** "OUTSIDE." */
    private static void toldAtTheEnds() {
        MorningBite x = Scene.six();
        int[] wrong = {-1, -2, -10, -11, -13, -20, 6, 7, 8, 9, 14, 15, 19, 64, 69, 70, 71, 100, 110, 1010};
        for (int what : wrong) {
            due("told(" + what + ")", x.told(what), OUTSIDE);
        }
        due("told(5)", x.told(5), 0);
        due("told(10)", x.told(10), 30);
        due("told(13)", x.told(13), 0);
        due("told(60)", x.told(60), 80);
        due("told(63)", x.told(63), 0);
    }

    /** "An object is used for at most 512 calls": the last of them answers as the first ones. */
    private static void calls() {
        MorningBite x = new MorningBite();
        x.one(0, 50, 5, 5);
        int calls = 1;
        for (int i = 0; i < 127; i++) {
            due("say", x.say('.'), 1);
            due("done", x.done(), 1);
            due("LOOKS", x.told(10), 55);
            due("one", x.one(0, 50, 5, 5), 1);
            calls += 4;
        }
        due("calls so far", calls, 509);
        due("call 510", x.seen(0, 50), 1);
        due("call 511", x.gave(1), 1);
        due("call 512", x.told(5), 1);
        MorningBite y = new MorningBite();
        for (int call = 1; call <= 512; call++) {
            due("say, call " + call, y.say('!'), call <= 60 ? call : FULL);
        }
    }

    /** The dearest ones 512 times on one object. */
    private static void callsThatAsk() {
        MorningBite x = Scene.of(Scene.row(50, 9, 0), Scene.row(48, 7, 0), Scene.row(47, 5, 0));
        for (int call = 4; call <= 512; call++) {
            due("plan, call " + call, x.plan(7, 6, 5, 66, 5, 0), 1);
        }
        MorningBite y = new MorningBite();
        for (int one = 0; one < 6; one++) {
            y.one(one, 2 + 19 * one, 1, 0);
        }
        for (int call = 7; call <= 512; call++) {
            due("envy, call " + call, y.envy(6, 0), 141);
        }
    }
}
