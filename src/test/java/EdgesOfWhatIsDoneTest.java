/** The bounds that the document names for what is done: "Terms" and promises 11 to 14. */
public final class EdgesOfWhatIsDoneTest {
    public static void main(String[] args) {
        promise11Refusals();
        promise11OrderOfRefusals();
        promise11Full();
        promise11Counts();
        termsPlain();
        termsFresh();
        termsBlind();
        termsMixed();
        termsSteady();
        termsFourThen();
        promise12Refusals();
        promise12AnotherKind();
        promise13Refusals();
        promise13OrderOfRefusals();
        promise13SixAtMost();
        promise13NobodyIsShownYet();
        promise14Tear();
        Due.end();
    }

    /** "UNKNOWN: witness; OUTSIDE: thing (0 to 5), colour (0 to 3)" */
    private static void promise11Refusals() {
        EdgesOfWitnessesTest.knows("11 show(n, 0, 0)", (x, number) -> x.show(number, 0, 0), 1, 0);
        Refusal.bounds("11 show(0, thing, 0)", Refusal.text("w;"), (x, thing) -> x.show(0, thing, 0),
                new int[] {0, 1}, new int[] {5, 1}, Refusal.OUTSIDE);
        Refusal.bounds("11 show(0, 0, colour)", Refusal.text("w;"), (x, colour) -> x.show(0, 0, colour),
                new int[] {0, 1}, new int[] {3, 1}, Refusal.OUTSIDE);
        // To a BLIND one nothing would come, yet what is no SIGHT is refused.
        Refusal.bounds("11 show() to a blind one", Refusal.text("b;"), (x, colour) -> x.show(0, 0, colour),
                new int[] {0, 0}, new int[] {3, 0}, Refusal.OUTSIDE);
        shown("11 the least sight", "w;", 0, 0, 1, 0);
        shown("11 the greatest sight", "w;", 5, 3, 1, 23);
    }

    private static void promise11OrderOfRefusals() {
        EdgesOfWitnessesTest.witnessFirst("11 show(5, 6, 0)", x -> x.show(5, 6, 0), x -> x.show(0, 6, 0));
        EdgesOfWitnessesTest.witnessFirst("11 show(-1, 0, 4)", x -> x.show(-1, 0, 4), x -> x.show(0, 0, 4));
        EdgesOfWitnessesTest.witnessFirst("11 show(5, -1, -1)", x -> x.show(5, -1, -1), x -> x.show(4, -1, -1));
        Refusal.is("11 show(0, 6, 3)", Refusal.busy(), x -> x.show(0, 6, 3), Refusal.OUTSIDE);
        Refusal.is("11 show(0, 1, -1)", Refusal.busy(), x -> x.show(0, 1, -1), Refusal.OUTSIDE);
    }

    private static Refusal.Way shownTimes(int times) {
        return x -> {
            Refusal.text("fa0,b,w;a6").lead(x);
            for (int time = 0; time < times; time++) {
                x.show(time % 2, 0, 0);
            }
        };
    }

    /**
     * "FULL: 9999 times was SHOWN something". No object comes so far within 512 calls; behind these the
     * document leaves all answers free, and this class keeps to the promise there, too.
     */
    private static void promise11Full() {
        WitnessWall x = new WitnessWall();
        shownTimes(9998).lead(x);
        Due.is("11 shown 9998 times", x.count(5), 9998);
        Due.is("11 the 9999th time", x.show(2, 1, 1), 1);
        Due.is("11 shown 9999 times", x.count(5), 9999);
        Due.is("11 the 10000th time", x.show(2, 2, 2), Refusal.FULL);
        Due.is("11 the last that was taken is there", x.tells(2, 1), 1);
        Due.is("11 what was refused is not", x.tells(2, 2), Refusal.NONE);
        Due.is("11 image() at the bound", x.image(), 9999);
        Refusal.is("11 full", shownTimes(9999), y -> y.show(2, 0, 0), Refusal.FULL);
        Refusal.is("11 full, to a blind one", shownTimes(9999), y -> y.show(1, 0, 0), Refusal.FULL);
        Refusal.is("11 full, nobody", shownTimes(9999), y -> y.show(3, 0, 0), Refusal.UNKNOWN);
        Refusal.is("11 full, no thing", shownTimes(9999), y -> y.show(0, 6, 0), Refusal.OUTSIDE);
        Refusal.is("11 full, no colour", shownTimes(9999), y -> y.show(0, 0, 4), Refusal.OUTSIDE);
    }

    /** How often one was SHOWN something: whether he TAKES it or not. */
    private static void promise11Counts() {
        WitnessWall x = Due.wall("b,s;");
        Due.is("11 none yet", x.count(5), 0);
        x.show(0, 0, 0);
        Due.is("11 to a blind one", x.count(5), 1);
        x.show(1, 0, 0);
        x.show(1, 0, 1);
        Due.is("11 taken and not taken", x.count(5), 3);
        x.show(2, 0, 0);
        Due.is("11 a refused one does not count", x.count(5), 3);
    }

    /** Of the first WITNESS: whether he TAKES it, and his SIGHTS then, the latest last. */
    private static void shown(String told, String text, int thing, int colour, int taken, int... head) {
        WitnessWall x = Due.wall(text);
        Due.is(told + ": taken by " + text, x.show(0, thing, colour), taken);
        Due.is(told + ": how many of " + text, x.witness(0, 1), head.length);
        for (int place = 0; place < 3; place++) {
            int want = place < head.length ? head[place] : Refusal.NONE;
            Due.is(told + ": sight " + place + " of " + text, x.witness(0, 2 + place), want);
        }
    }

    /** "a plain one TAKES it: it is the latest one then (if he had it, it is no more where it was)" */
    private static void termsPlain() {
        shown("empty", "w;", 1, 1, 1, 5);
        shown("he had it alone", "wb1;", 1, 1, 1, 5);
        shown("he had it as the oldest", "wb1c1d1;", 1, 1, 1, 9, 13, 5);
        shown("he had it as the second", "wc1b1d1;", 1, 1, 1, 9, 13, 5);
        shown("he had it as the latest", "wc1d1b1;", 1, 1, 1, 9, 13, 5);
        shown("the oldest of two", "wb1c1;", 1, 1, 1, 9, 5);
        shown("another colour stays", "wb0;", 1, 1, 1, 4, 5);
        shown("two other colours stay", "wb0b2;", 1, 1, 1, 4, 6, 5);
    }

    /** "a FRESH one TAKES it, all others are gone" */
    private static void termsFresh() {
        shown("empty", "f;", 1, 1, 1, 5);
        shown("one is gone", "fa0;", 1, 1, 1, 5);
        shown("three are gone", "fa0b0c0;", 1, 1, 1, 5);
        shown("he had it alone", "fb1;", 1, 1, 1, 5);
        shown("he had it among others", "fa0b1c0;", 1, 1, 1, 5);
    }

    /** "a BLIND one does not" */
    private static void termsBlind() {
        shown("empty", "b;", 1, 1, 0);
        shown("he has another", "ba0;", 1, 1, 0, 0);
        shown("he had it", "bb1a0;", 1, 1, 0, 5, 0);
        shown("three", "ba0b0c0;", 1, 1, 0, 0, 4, 8);
    }

    /** "a MIXED one TAKES it, all others of that THING are gone" */
    private static void termsMixed() {
        shown("empty", "m;", 1, 1, 1, 5);
        shown("no other of it", "ma0c0;", 1, 1, 1, 0, 8, 5);
        shown("one other of it", "mb0a0;", 1, 1, 1, 0, 5);
        shown("the things next to it stay", "ma3b3c0;", 1, 1, 1, 3, 8, 5);
        shown("two others of it", "mb0b3a0;", 1, 1, 1, 0, 5);
        shown("three others of it", "mb0b3b2;", 1, 1, 1, 5);
        shown("he had it", "mb1a0;", 1, 1, 1, 0, 5);
        shown("he had it and another of it", "mb1b2a0;", 1, 1, 1, 0, 5);
        shown("the first thing", "ma3b0f3;", 0, 0, 1, 4, 23, 0);
        shown("the last thing", "ma0e3f0;", 5, 3, 1, 0, 19, 23);
    }

    /** "a STEADY one TAKES it as a plain one does, if he has none of that THING, else not" */
    private static void termsSteady() {
        shown("empty", "s;", 1, 1, 1, 5);
        shown("none of it", "sa3c0;", 1, 1, 1, 3, 8, 5);
        shown("one other of it", "sb0a0;", 1, 1, 0, 4, 0);
        shown("he had it", "sb1a0;", 1, 1, 0, 5, 0);
        shown("as the latest", "sa0b0;", 1, 1, 0, 0, 4);
        shown("three, one of it", "sa0b0c0;", 1, 1, 0, 0, 4, 8);
        shown("three of it", "sb0b2b3;", 1, 1, 0, 4, 6, 7);
    }

    /** "If he has four then, the oldest is gone." */
    private static void termsFourThen() {
        for (String kind : new String[] {"w", "m", "s"}) {
            shown("two then", kind + "a0;", 3, 3, 1, 0, 15);
            shown("three then", kind + "a0b0;", 3, 3, 1, 0, 4, 15);
            shown("four then", kind + "a0b0c0;", 3, 3, 1, 4, 8, 15);
        }
        shown("four of one thing", "wa0a1a2;", 0, 3, 1, 1, 2, 3);
        shown("three, as he had it", "wa0b0c0;", 0, 0, 1, 4, 8, 0);
        shown("three, as the other of it is gone", "ma0b0c0;", 2, 3, 1, 0, 4, 11);
        WitnessWall x = Due.wall("wa0b0c0;");
        for (int time = 0; time < 6; time++) {
            x.show(0, time, 1);
            Due.is("never more than three", x.witness(0, 1), 3);
        }
        Due.is("the last three: first", x.witness(0, 2), 13);
        Due.is("the last three: third", x.witness(0, 4), 21);
    }

    /** "UNKNOWN; OUTSIDE: kind (0 to 4)" */
    private static void promise12Refusals() {
        EdgesOfWitnessesTest.knows("12 be(n, 4)", (x, number) -> x.be(number, 4), 0, 2);
        Refusal.bounds("12 be(0, kind)", Refusal.text("f;"), (x, kind) -> x.be(0, kind),
                new int[] {0, 1}, new int[] {4, 1}, Refusal.OUTSIDE);
        EdgesOfWitnessesTest.witnessFirst("12 be(5, 5)", x -> x.be(5, 5), x -> x.be(0, 5));
        EdgesOfWitnessesTest.witnessFirst("12 be(-1, -1)", x -> x.be(-1, -1), x -> x.be(4, -1));
    }

    /** "A WITNESS is of another KIND (he has what he has): of which he was." */
    private static void promise12AnotherKind() {
        for (int was = 0; was < 5; was++) {
            for (int kind = 0; kind < 5; kind++) {
                WitnessWall x = Due.wall("b," + "wfbms".charAt(was) + "a0a1b2,b;");
                Due.is("12 of which he was: " + was, x.be(1, kind), was);
                Due.is("12 of which he is: " + kind, x.witness(1, 0), kind);
                Due.is("12 he has three", x.witness(1, 1), 3);
                Due.is("12 the oldest stays", x.witness(1, 2), 0);
                Due.is("12 the latest stays", x.witness(1, 4), 6);
                Due.is("12 the one ahead of him", x.witness(0, 0), 2);
                Due.is("12 the one behind him", x.witness(2, 0), 2);
                Due.is("12 nothing was shown", x.count(5), 0);
            }
        }
    }

    /** "OUTSIDE: day (1 to 6); UNKNOWN: witness; OUTSIDE: thing, colour" */
    private static void promise13Refusals() {
        EdgesOfWitnessesTest.knows("13 slip(1, n, 0, 0)", (x, number) -> x.slip(1, number, 0, 0), 1, 1);
        EdgesOfWitnessesTest.knows("13 slip(6, n, 5, 3)", (x, number) -> x.slip(6, number, 5, 3), 1, 1);
        Refusal.bounds("13 slip(day, 0, 0, 0)", Refusal.text("w;"), (x, day) -> x.slip(day, 0, 0, 0),
                new int[] {1, 1}, new int[] {6, 1}, Refusal.OUTSIDE);
        Refusal.bounds("13 slip(1, 0, thing, 0)", Refusal.text("w;"), (x, thing) -> x.slip(1, 0, thing, 0),
                new int[] {0, 1}, new int[] {5, 1}, Refusal.OUTSIDE);
        Refusal.bounds("13 slip(1, 0, 0, colour)", Refusal.text("w;"), (x, colour) -> x.slip(1, 0, 0, colour),
                new int[] {0, 1}, new int[] {3, 1}, Refusal.OUTSIDE);
    }

    private static void refused(String told, Refusal.Way way, int[] slip, int want) {
        String by = ": slip(" + slip[0] + ", " + slip[1] + ", " + slip[2] + ", " + slip[3] + ")";
        Refusal.is("13 " + told + by, way, x -> x.slip(slip[0], slip[1], slip[2], slip[3]), want);
    }

    private static void promise13OrderOfRefusals() {
        for (int day : new int[] {0, 7}) {
            refused("no wall, no day", x -> { }, new int[] {day, 0, 0, 0}, Refusal.OUTSIDE);
            refused("no day, nobody", Refusal.busy(), new int[] {day, 5, 0, 0}, Refusal.OUTSIDE);
            refused("no day, nobody, no thing", Refusal.busy(), new int[] {day, -1, 6, 4}, Refusal.OUTSIDE);
            refused("no day", Refusal.busy(), new int[] {day, 4, 5, 3}, Refusal.OUTSIDE);
        }
        refused("no wall", x -> { }, new int[] {1, 0, 0, 0}, Refusal.UNKNOWN);
        refused("no wall, no thing", x -> { }, new int[] {6, 0, 6, 0}, Refusal.UNKNOWN);
        refused("nobody, no thing", Refusal.busy(), new int[] {1, 5, 6, 0}, Refusal.UNKNOWN);
        refused("nobody, no colour", Refusal.busy(), new int[] {6, -1, 0, -1}, Refusal.UNKNOWN);
        refused("no thing", Refusal.busy(), new int[] {1, 0, -1, 0}, Refusal.OUTSIDE);
        refused("no colour", Refusal.busy(), new int[] {6, 4, 5, 4}, Refusal.OUTSIDE);
        refused("full", sixSlips(), new int[] {1, 0, 0, 0}, Refusal.FULL);
        refused("full, another", sixSlips(), new int[] {6, 1, 5, 3}, Refusal.FULL);
        refused("full, no day", sixSlips(), new int[] {0, 0, 0, 0}, Refusal.OUTSIDE);
        refused("full, nobody", sixSlips(), new int[] {1, 2, 0, 0}, Refusal.UNKNOWN);
        refused("full, no thing", sixSlips(), new int[] {1, 0, 6, 0}, Refusal.OUTSIDE);
        refused("full, no colour", sixSlips(), new int[] {1, 0, 0, 4}, Refusal.OUTSIDE);
    }

    private static Refusal.Way sixSlips() {
        return x -> {
            Refusal.text("f,b;a6,b6,c6,d6").lead(x);
            for (int day = 1; day <= 6; day++) {
                x.slip(day, 0, day % 4, day % 3);
            }
        };
    }

    /** "six at most"; "FULL: there are six" */
    private static void promise13SixAtMost() {
        WitnessWall x = Due.wall("w,f;a6");
        for (int many = 1; many <= 6; many++) {
            Due.is("13 slip " + many, x.slip(7 - many, many % 2, many % 6, many % 4), many);
            Due.is("13 count(2) of " + many, x.count(2), many);
        }
        Due.is("13 slip 7", x.slip(1, 0, 0, 0), Refusal.FULL);
        Due.is("13 six stay", x.count(2), 6);
        x.tear();
        Due.is("13 there is room again", x.slip(1, 0, 0, 0), 1);
        // Six of the same are six.
        for (int many = 2; many <= 6; many++) {
            Due.is("13 the same, " + many, x.slip(1, 0, 0, 0), many);
        }
        Due.is("13 the same, 7", x.slip(1, 0, 0, 0), Refusal.FULL);
    }

    private static void promise13NobodyIsShownYet() {
        WitnessWall x = Due.wall("f;a6");
        x.slip(1, 0, 0, 0);
        Due.is("13 nothing was shown", x.count(5), 0);
        Due.is("13 he has nothing", x.witness(0, 1), 0);
        Due.is("13 but in a term he would", x.term(0), 1);
        Due.is("13 nor behind the term", x.witness(0, 1), 0);
    }

    /** "There are no SLIPS any more: how many there were." */
    private static void promise14Tear() {
        Due.is("14 without a wall", new WitnessWall().tear(), 0);
        for (int slips = 0; slips <= 6; slips++) {
            WitnessWall x = Due.wall("w;a6");
            for (int many = 0; many < slips; many++) {
                x.slip(1, 0, 0, 0);
            }
            Due.is("14 tear() of " + slips, x.tear(), slips);
            Due.is("14 none are left of " + slips, x.count(2), 0);
            Due.is("14 none come in of " + slips, x.term(0), 0);
            Due.is("14 tear() again of " + slips, x.tear(), 0);
            Due.is("14 the first anew behind " + slips, x.slip(1, 0, 1, 0), 1);
            Due.is("14 only that one comes in behind " + slips, x.term(0), 0);
        }
    }
}
