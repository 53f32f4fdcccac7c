/** The bounds that the document names for what witnesses tell: "Terms" and promises 6 to 10. */
public final class EdgesOfWitnessesTest {
    private static final String FIVE = "wa0b1,fa0,ma2b2,sc1,bc1d3;a2,b1,c6,d3";

    public static void main(String[] args) {
        promise6WhichWitness();
        promise6What();
        promise6UnknownAheadOfOutside();
        promise6Sights();
        promise6SortsAndAsk();
        promise6Clashes();
        promise7Refusals();
        promise7Casts();
        promise8Refusals();
        promise8Tells();
        promise9Refusals();
        promise9Said();
        promise10Refusals();
        promise10Having();
        Due.end();
    }

    /** Of a call by a WITNESS: nobody is known without a WALL, one with the least, five with the greatest. */
    static void knows(String told, Refusal.CallBy call, int ofFirst, int ofFifth) {
        for (int number : new int[] {0, -1, 1, 4, 5, Integer.MIN_VALUE, Integer.MAX_VALUE}) {
            Refusal.is(told + " without a wall, of " + number, x -> { }, x -> call.of(x, number), Refusal.UNKNOWN);
        }
        WitnessWall least = Due.wall("w;");
        Due.isTrue(told + " of one witness", call.of(least, 0) >= Refusal.NONE);
        Refusal.is(told + " of one witness, of 1", Refusal.text("w;"), x -> call.of(x, 1), Refusal.UNKNOWN);
        Refusal.bounds(told, Refusal.text(FIVE), call,
                new int[] {0, ofFirst}, new int[] {4, ofFifth}, Refusal.UNKNOWN);
        Refusal.is(told + " of a busy wall, of -1", Refusal.busy(), x -> call.of(x, -1), Refusal.UNKNOWN);
        Refusal.is(told + " of a busy wall, of 5", Refusal.busy(), x -> call.of(x, 5), Refusal.UNKNOWN);
        // Those of a greater WALL are not known behind a smaller one.
        Refusal.Way smaller = x -> {
            Refusal.text(FIVE).lead(x);
            Refusal.text("w,w;").lead(x);
        };
        Refusal.is(told + " of a smaller wall, of 2", smaller, x -> call.of(x, 2), Refusal.UNKNOWN);
    }

    /** Both are wrong, and neither: the WITNESS is looked at first. */
    static void witnessFirst(String told, Refusal.Call bothWrong, Refusal.Call laterWrong) {
        Refusal.is(told + " both wrong", Refusal.busy(), bothWrong, Refusal.UNKNOWN);
        Refusal.is(told + " without a wall, both wrong", x -> { }, bothWrong, Refusal.UNKNOWN);
        Refusal.is(told + " without a wall, the later wrong", x -> { }, laterWrong, Refusal.UNKNOWN);
        Refusal.is(told + " the later wrong", Refusal.busy(), laterWrong, Refusal.OUTSIDE);
    }

    /** "UNKNOWN" */
    private static void promise6WhichWitness() {
        knows("6 witness(n, 0)", (x, number) -> x.witness(number, 0), 0, 2);
        knows("6 witness(n, 1)", (x, number) -> x.witness(number, 1), 2, 2);
        knows("6 witness(n, 5)", (x, number) -> x.witness(number, 5), 31, 31);
        knows("6 witness(n, 7)", (x, number) -> x.witness(number, 7), 2, 0);
    }

    /** "what = 0 .. 7"; "OUTSIDE" */
    private static void promise6What() {
        Refusal.bounds("6 witness(0, what)", Refusal.text(FIVE), (x, what) -> x.witness(0, what),
                new int[] {0, 0}, new int[] {7, 2}, Refusal.OUTSIDE);
        Refusal.bounds("6 witness(4, what)", Refusal.text(FIVE), (x, what) -> x.witness(4, what),
                new int[] {0, 2}, new int[] {7, 0}, Refusal.OUTSIDE);
    }

    private static void promise6UnknownAheadOfOutside() {
        witnessFirst("6 witness(5, 8)", x -> x.witness(5, 8), x -> x.witness(0, 8));
        witnessFirst("6 witness(-1, -1)", x -> x.witness(-1, -1), x -> x.witness(0, -1));
    }

    private static void sights(WitnessWall x, String told, int many, int first, int second, int third) {
        Due.is("6 how many: " + told, x.witness(0, 1), many);
        Due.is("6 first: " + told, x.witness(0, 2), first);
        Due.is("6 second: " + told, x.witness(0, 3), second);
        Due.is("6 third: " + told, x.witness(0, 4), third);
    }

    /** "1 how many SIGHTS he has, 2 to 4 the first (oldest), second, third of these .. (NONE)" */
    private static void promise6Sights() {
        sights(Due.wall("w;"), "none", 0, Refusal.NONE, Refusal.NONE, Refusal.NONE);
        sights(Due.wall("wa0;"), "one, the least", 1, 0, Refusal.NONE, Refusal.NONE);
        sights(Due.wall("wf3a0;"), "two", 2, 23, 0, Refusal.NONE);
        sights(Due.wall("wf3a0c2;"), "three", 3, 23, 0, 10);
        WitnessWall fresh = Due.wall("ff3a0c2;");
        fresh.show(0, 1, 1);
        sights(fresh, "three that went", 1, 5, Refusal.NONE, Refusal.NONE);
        WitnessWall another = Due.wall("wf3a0c2;");
        Refusal.text("wb0;").lead(another);
        sights(another, "another wall", 1, 4, Refusal.NONE, Refusal.NONE);
    }

    /** "5 SORTS, as bits, 6 ASK (NONE)": all five, one, none. */
    private static void promise6SortsAndAsk() {
        WitnessWall x = Due.wall("w,w;");
        Due.is("6 all SORTS", x.witness(0, 5), 31);
        Due.is("6 ASK of all", x.witness(0, 6), 0);
        x.see(0, 3, true);
        Due.is("6 one SORT", x.witness(0, 5), 1);
        Due.is("6 ASK of one", x.witness(0, 6), 0);
        x.see(0, 3, false);
        Due.is("6 no SORT", x.witness(0, 5), 0);
        Due.is("6 ASK of none", x.witness(0, 6), Refusal.NONE);
        Due.is("6 all SORTS of the other", x.witness(1, 5), 31);
        Due.is("6 ASK of the other", x.witness(1, 6), 0);
        x.forget();
        Due.is("6 all SORTS again", x.witness(0, 5), 31);
    }

    /** "7 in how many CLASHES he is": none, one, as many as can be. */
    private static void promise6Clashes() {
        Due.is("6 alone", Due.wall("wa0;").witness(0, 7), 0);
        Due.is("6 not with himself", Due.wall("wa0a1;").witness(0, 7), 0);
        Due.is("6 the same colour", Due.wall("wa0,wa0;").witness(0, 7), 0);
        Due.is("6 another thing", Due.wall("wa0,wb1;").witness(0, 7), 0);
        Due.is("6 one who tells nothing", Due.wall("wa0,w;").witness(0, 7), 0);
        Due.is("6 one clash", Due.wall("wa0,wa1;").witness(0, 7), 1);
        Due.is("6 the other of the two", Due.wall("wa0,wa1;").witness(1, 7), 1);
        Due.is("6 each thing", Due.wall("wa0b0c0,wa1b1c1;").witness(1, 7), 3);
        Due.is("6 only the latest is told", Due.wall("wa0a1,wa2a1;").witness(0, 7), 0);
        WitnessWall x = Due.wall("wa0b0c0,wa1b1c1,wa1b1c1,wa1b1c1,wa1b1c1;");
        Due.is("6 as many as can be", x.witness(0, 7), 12);
        Due.is("6 of the others each", x.witness(4, 7), 3);
    }

    /** "UNKNOWN; OUTSIDE" */
    private static void promise7Refusals() {
        knows("7 as(n, 0)", (x, number) -> x.as(number, 0), 0, 4);
        knows("7 as(n, 4)", (x, number) -> x.as(number, 4), Refusal.NONE, Refusal.NONE);
        Refusal.bounds("7 as(3, kind)", Refusal.text(FIVE), (x, kind) -> x.as(3, kind),
                new int[] {0, 3}, new int[] {4, 3}, Refusal.OUTSIDE);
        Refusal.bounds("7 as(0, kind)", Refusal.text(FIVE), (x, kind) -> x.as(0, kind),
                new int[] {0, 0}, new int[] {4, Refusal.NONE}, Refusal.OUTSIDE);
        witnessFirst("7 as(5, 5)", x -> x.as(5, 5), x -> x.as(0, 5));
        witnessFirst("7 as(-1, -1)", x -> x.as(-1, -1), x -> x.as(4, -1));
    }

    /** "All are WITNESSES; a STEADY one is MIXED, too." "NONE: he is none such (the cast fails)." */
    private static void promise7Casts() {
        String[] such = {"w", "wf", "wb", "wm", "wms"};
        for (int kind = 0; kind < 5; kind++) {
            WitnessWall told = Due.wall("b," + "wfbms".charAt(kind) + ";");
            WitnessWall made = Due.wall("b,w;");
            made.be(1, kind);
            for (int as = 0; as < 5; as++) {
                int want = such[kind].indexOf("wfbms".charAt(as)) >= 0 ? 1 : Refusal.NONE;
                Due.is("7 kind " + kind + " as " + as, told.as(1, as), want);
                Due.is("7 come to be " + kind + " as " + as, made.as(1, as), want);
            }
            Due.is("7 the cast changes nothing", told.witness(1, 0), kind);
        }
        Due.is("7 the first is told by 0, not by NONE", Due.wall("s;").as(0, 3), 0);
    }

    /** "UNKNOWN: witness; OUTSIDE: thing (0 to 5)" */
    private static void promise8Refusals() {
        knows("8 tells(n, 0)", (x, number) -> x.tells(number, 0), 0, Refusal.NONE);
        knows("8 tells(n, 3)", (x, number) -> x.tells(number, 3), Refusal.NONE, 3);
        Refusal.bounds("8 tells(0, thing)", Refusal.text("wa1f3;"), (x, thing) -> x.tells(0, thing),
                new int[] {0, 1}, new int[] {5, 3}, Refusal.OUTSIDE);
        witnessFirst("8 tells(5, 6)", x -> x.tells(5, 6), x -> x.tells(0, 6));
        witnessFirst("8 tells(-1, -1)", x -> x.tells(-1, -1), x -> x.tells(4, -1));
    }

    /** "the COLOUR of the latest SIGHT he has of it; none, if he has none" */
    private static void promise8Tells() {
        Due.is("8 no sight", Due.wall("w;").tells(0, 0), Refusal.NONE);
        Due.is("8 none of the least thing", Due.wall("wb0c0f3;").tells(0, 0), Refusal.NONE);
        Due.is("8 none of the greatest thing", Due.wall("wa0b0e3;").tells(0, 5), Refusal.NONE);
        Due.is("8 the least colour is not none", Due.wall("wa0;").tells(0, 0), 0);
        Due.is("8 the greatest colour", Due.wall("wf3;").tells(0, 5), 3);
        Due.is("8 the latest of two", Due.wall("wa3a0;").tells(0, 0), 0);
        Due.is("8 the latest of three", Due.wall("wa0a3a1;").tells(0, 0), 1);
        Due.is("8 another thing behind it", Due.wall("wa0a3b1;").tells(0, 0), 3);
        WitnessWall x = Due.wall("wa1b0c0;");
        x.show(0, 3, 0);
        Due.is("8 of what was wiped out", x.tells(0, 0), Refusal.NONE);
        x.show(0, 0, 2);
        Due.is("8 of what came again", x.tells(0, 0), 2);
    }

    /** "OUTSIDE: thing (0 to 5); STATE: no WALL" */
    private static void promise9Refusals() {
        Refusal.bounds("9 said(thing)", Refusal.text("wa1f3;"), (x, thing) -> x.said(thing),
                new int[] {0, 1}, new int[] {5, 3}, Refusal.OUTSIDE);
        Refusal.needsWall("9 said(0)", x -> x.said(0), Refusal.NONE);
        Refusal.needsWall("9 said(5)", x -> x.said(5), Refusal.NONE);
        for (int thing : new int[] {-1, 6}) {
            Refusal.is("9 no wall: said(" + thing + ")", x -> { }, x -> x.said(thing), Refusal.OUTSIDE);
            Refusal.is("9 busy: said(" + thing + ")", Refusal.busy(), x -> x.said(thing), Refusal.OUTSIDE);
        }
    }

    /** "the COLOUR that more WITNESSES TELL than any other one; none, if there is no such" */
    private static void promise9Said() {
        Due.is("9 nobody tells", Due.wall("wb0,wb0;").said(0), Refusal.NONE);
        Due.is("9 one tells", Due.wall("wa0,wb0;").said(0), 0);
        Due.is("9 one tells the greatest colour", Due.wall("w,w,w,w,wa3;").said(0), 3);
        Due.is("9 one and one", Due.wall("wa0,wa1;").said(0), Refusal.NONE);
        Due.is("9 two and one", Due.wall("wa3,wa0,wa3;").said(0), 3);
        Due.is("9 two and two", Due.wall("wa3,wa0,wa3,wa0;").said(0), Refusal.NONE);
        Due.is("9 two, two and one", Due.wall("wa3,wa0,wa3,wa0,wa1;").said(0), Refusal.NONE);
        Due.is("9 one, two and two", Due.wall("wa0,wa1,wa1,wa2,wa2;").said(0), Refusal.NONE);
        Due.is("9 two, one, one and one", Due.wall("wa0,wa1,wa2,wa3,wa3;").said(0), 3);
        Due.is("9 one of each", Due.wall("wa0,wa1,wa2,wa3;").said(0), Refusal.NONE);
        Due.is("9 three and two", Due.wall("wa0,wa0,wa2,wa2,wa2;").said(0), 2);
        Due.is("9 all five", Due.wall("wa2,fa2,ba2,ma2,sa2;").said(0), 2);
        Due.is("9 each by his latest one alone", Due.wall("wa0a1,wa0a2,wa0;").said(0), Refusal.NONE);
    }

    /** "OUTSIDE: thing (0 to 5), colour (0 to 3); STATE: no WALL" */
    private static void promise10Refusals() {
        Refusal.bounds("10 having(thing, 3)", Refusal.text("wa3f3,wf3;"), (x, thing) -> x.having(thing, 3),
                new int[] {0, 1}, new int[] {5, 2}, Refusal.OUTSIDE);
        Refusal.bounds("10 having(5, colour)", Refusal.text("wf0,wf3,wf3;"), (x, colour) -> x.having(5, colour),
                new int[] {0, 1}, new int[] {3, 2}, Refusal.OUTSIDE);
        Refusal.needsWall("10 having(0, 0)", x -> x.having(0, 0), 0);
        Refusal.needsWall("10 having(5, 3)", x -> x.having(5, 3), 0);
        int[][] wrong = {{-1, 0}, {6, 0}, {0, -1}, {0, 4}, {-1, 4}, {6, -1}, {6, 4}};
        for (int[] by : wrong) {
            String told = ": having(" + by[0] + ", " + by[1] + ")";
            Refusal.is("10 no wall" + told, x -> { }, x -> x.having(by[0], by[1]), Refusal.OUTSIDE);
            Refusal.is("10 busy" + told, Refusal.busy(), x -> x.having(by[0], by[1]), Refusal.OUTSIDE);
        }
    }

    /** "How many WITNESSES have a SIGHT": nobody, one, all five. */
    private static void promise10Having() {
        Due.is("10 nobody", Due.wall("w,w,w,w,w;").having(0, 0), 0);
        Due.is("10 the same thing", Due.wall("wa1a2a3;").having(0, 0), 0);
        Due.is("10 the next sight", Due.wall("wb0;").having(0, 3), 0);
        Due.is("10 one", Due.wall("w,w,w,w,wa0;").having(0, 0), 1);
        Due.is("10 all five", Due.wall("wf3,ff3,bf3,mf3,sf3;").having(5, 3), 5);
        Due.is("10 though he tells another one", Due.wall("wa0a1a2;").having(0, 0), 1);
        WitnessWall x = Due.wall("wa0b0c0;");
        x.show(0, 0, 0);
        Due.is("10 who had it has it once", x.having(0, 0), 1);
        x.show(0, 3, 0);
        Due.is("10 what was wiped out", x.having(1, 0), 0);
    }
}
