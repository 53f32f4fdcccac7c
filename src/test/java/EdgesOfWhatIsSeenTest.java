import java.math.BigInteger;

/** The bounds that the document names for what is seen and drawn: "Terms" and promises 20 to 22. */
public final class EdgesOfWhatIsSeenTest {
    private static final int[] SEEDS = {0, 1, 65535, 65536, 1 << 30, Integer.MAX_VALUE - 1, Integer.MAX_VALUE};

    public static void main(String[] args) {
        promise20Refusals();
        promise20OrderOfRefusals();
        promise20SixAtMost();
        termsSorts();
        termsAsk();
        promise21Forget();
        promise22Refusals();
        promise22OrderOfRefusals();
        termsDraws();
        termsTimes();
        termsAsTheyWouldBe();
        Due.end();
    }

    /** "UNKNOWN: witness; OUTSIDE: what (0 to 3)" */
    private static void promise20Refusals() {
        EdgesOfWitnessesTest.knows("20 see(n, 0, true)", (x, number) -> x.see(number, 0, true), 1, 1);
        EdgesOfWitnessesTest.knows("20 see(n, 3, false)", (x, number) -> x.see(number, 3, false), 1, 1);
        for (boolean could : new boolean[] {true, false}) {
            Refusal.bounds("20 see(0, what, " + could + ")", Refusal.text("w;"), (x, what) -> x.see(0, what, could),
                    new int[] {0, 1}, new int[] {3, 1}, Refusal.OUTSIDE);
        }
    }

    private static Refusal.Way seen(int many) {
        return x -> {
            Refusal.text("w,f;").lead(x);
            for (int one = 0; one < many; one++) {
                x.see(one % 2, 2 - one / 2, one < 4);
            }
        };
    }

    /** "UNKNOWN: witness; OUTSIDE: what (0 to 3); FULL" */
    private static void promise20OrderOfRefusals() {
        EdgesOfWitnessesTest.witnessFirst("20 see(5, 4, true)", x -> x.see(5, 4, true), x -> x.see(0, 4, true));
        EdgesOfWitnessesTest.witnessFirst("20 see(-1, -1, false)", x -> x.see(-1, -1, false), x -> x.see(0, -1, false));
        for (int what = 0; what <= 3; what++) {
            int tried = what;
            Refusal.is("20 full, true: " + what, seen(6), x -> x.see(0, tried, true), Refusal.FULL);
            Refusal.is("20 full, false: " + what, seen(6), x -> x.see(1, tried, false), Refusal.FULL);
        }
        Refusal.is("20 full, nobody", seen(6), x -> x.see(2, 0, true), Refusal.UNKNOWN);
        Refusal.is("20 full, nobody and no such", seen(6), x -> x.see(-1, 4, true), Refusal.UNKNOWN);
        Refusal.is("20 full, no such", seen(6), x -> x.see(0, 4, true), Refusal.OUTSIDE);
        Refusal.is("20 one less than full, no such", seen(5), x -> x.see(0, 4, true), Refusal.OUTSIDE);
    }

    /** "SEEN (6 at most)"; "how much is" */
    private static void promise20SixAtMost() {
        WitnessWall x = Due.wall("w,f,b;");
        for (int many = 1; many <= 6; many++) {
            Due.is("20 how much is, of three: " + many, x.see(many % 3, many % 4, true), many);
            Due.is("20 count(6) of " + many, x.count(6), many);
        }
        Due.is("20 the seventh", x.see(0, 0, true), Refusal.FULL);
        Due.is("20 six stay", x.count(6), 6);
        x.forget();
        for (int many = 1; many <= 6; many++) {
            Due.is("20 the same of one: " + many, x.see(0, 0, true), many);
        }
        Due.is("20 the seventh of another one", x.see(1, 0, true), Refusal.FULL);
    }

    /** "SORTS (KINDS 0 to 4) he can be of, so that all that is SEEN of him is so: as bits." */
    private static void termsSorts() {
        // Plain 1, FRESH 2, BLIND 4, MIXED 8, STEADY 16.
        int[] could = {1 + 8 + 16, 1 + 2 + 8, 1 + 2 + 8 + 16, 1};
        for (int what = 0; what <= 3; what++) {
            for (String kind : new String[] {"w", "f", "b", "m", "s"}) {
                WitnessWall x = Due.wall(kind + "," + kind + ";");
                x.see(0, what, true);
                x.see(1, what, false);
                Due.is("20 it could: " + what, x.witness(0, 5), could[what]);
                Due.is("20 it could not: " + what, x.witness(1, 5), 31 - could[what]);
                x.see(0, what, false);
                Due.is("20 both: " + what, x.witness(0, 5), 0);
                x.see(1, what, false);
                Due.is("20 twice the same: " + what, x.witness(1, 5), 31 - could[what]);
            }
        }
        WitnessWall x = Due.wall("b;");
        x.show(0, 0, 0);
        x.be(0, 1);
        Due.is("20 what is shown or come to be is not SEEN", x.witness(0, 5), 31);
    }

    private static void ask(String told, int want, int... seen) {
        WitnessWall x = Due.wall("w;");
        for (int one : seen) {
            x.see(0, Math.abs(one) - 1, one > 0);
        }
        Due.is("6 ASK: " + told, x.witness(0, 6), want);
    }

    /** "so that fewest of these are left at worst: of like ones the least; none, if there are none" */
    private static void termsAsk() {
        // What is SEEN is told by 1 to 4 if it could happen, by -1 to -4 if it could not.
        ask("all five, 0 and 1 alike", 0);
        ask("plain, MIXED, STEADY: 1 leaves two, 3 leaves two", 1, 1);
        ask("FRESH, BLIND: 1 leaves one", 1, -1);
        ask("plain, FRESH, MIXED: 0 leaves two", 0, 2);
        ask("BLIND, STEADY: 0 leaves one", 0, -2);
        ask("plain, FRESH, MIXED, STEADY: 0 leaves three, 1 too", 0, 3);
        ask("BLIND alone: all leave him", 0, -3);
        ask("plain alone: all leave him", 0, 4);
        ask("FRESH, BLIND, MIXED, STEADY: 0 leaves two", 0, -4);
        ask("plain, MIXED: only 3 leaves one", 3, 1, 2);
        ask("MIXED, STEADY: only 1 leaves one", 1, 1, -4);
        ask("FRESH, MIXED: 0 leaves one", 0, 2, -4);
        ask("FRESH alone", 0, -1, 2);
        ask("none are left", Refusal.NONE, 1, -1);
        ask("none are left of one", Refusal.NONE, -3, 4);
        ask("none are left by six", Refusal.NONE, 1, 2, 3, 4, -1, -2);
    }

    /** "Nothing is SEEN any more: how much was." */
    private static void promise21Forget() {
        Due.is("21 without a wall", new WitnessWall().forget(), 0);
        for (int many = 0; many <= 6; many++) {
            WitnessWall x = new WitnessWall();
            seen(many).lead(x);
            Due.is("21 forget() of " + many, x.forget(), many);
            Due.is("21 nothing is left of " + many, x.count(6), 0);
            Due.is("21 forget() again of " + many, x.forget(), 0);
            Due.is("21 all SORTS of the first", x.witness(0, 5), 31);
            Due.is("21 all SORTS of the second", x.witness(1, 5), 31);
            Due.is("21 the first anew behind " + many, x.see(0, 3, true), 1);
            Due.is("21 that alone is SEEN behind " + many, x.witness(0, 5), 1);
        }
    }

    /** "OUTSIDE: times (1 to 60), seed (0 at least), what; STATE: no WALL" */
    private static void promise22Refusals() {
        Refusal.bounds("22 drawn(times, 7, 0)", Refusal.text("w;"), (x, times) -> x.drawn(times, 7, 0),
                new int[] {1, 1}, new int[] {60, 60}, Refusal.OUTSIDE);
        Refusal.bounds("22 drawn(1, 0, what)", Refusal.text("w;"), (x, what) -> x.drawn(1, 0, what),
                new int[] {0, 1}, new int[] {2, 654583775}, Refusal.OUTSIDE);
        Refusal.below("22 drawn(1, seed, 2)", Refusal.text("w;"), (x, seed) -> x.drawn(1, seed, 2), 0, Refusal.OUTSIDE);
        Due.is("22 the least seed", Due.wall("w;").drawn(1, 0, 2), 654583775);
        Due.is("22 the greatest seed", Due.wall("w;").drawn(1, Integer.MAX_VALUE, 2), 646343466);
        Refusal.needsWall("22 drawn(1, 0, 0)", x -> x.drawn(1, 0, 0), 1);
        Refusal.needsWall("22 drawn(60, 0, 1)", x -> x.drawn(60, 0, 1), 0);
        Refusal.needsWall("22 drawn(1, 0, 2)", x -> x.drawn(1, 0, 2), 654583775);
    }

    private static void promise22OrderOfRefusals() {
        int[][] wrong = {{0, 0, 0}, {61, 0, 0}, {1, -1, 0}, {1, 0, -1}, {1, 0, 3}, {60, Integer.MIN_VALUE, 2},
            {0, -1, 3}, {61, -1, 0}, {-1, 0, 0}};
        for (int[] by : wrong) {
            String told = "22 drawn(" + by[0] + ", " + by[1] + ", " + by[2] + ")";
            Refusal.is(told + " without a wall", x -> { }, x -> x.drawn(by[0], by[1], by[2]), Refusal.OUTSIDE);
            Refusal.is(told + " with a wall", Refusal.busy(), x -> x.drawn(by[0], by[1], by[2]), Refusal.OUTSIDE);
        }
    }

    /** "1103515245 times it and 12345, its rest by 2 to the 31", told by numbers that know no wrap-around. */
    private static BigInteger seedAfter(BigInteger seed) {
        return seed.multiply(BigInteger.valueOf(1103515245L)).add(BigInteger.valueOf(12345L))
                .mod(BigInteger.TWO.pow(31));
    }

    /** "then that by 65536 (rounded down), its rest" */
    private static int drawOf(int many, BigInteger seed) {
        return seed.divide(BigInteger.valueOf(65536L)).mod(BigInteger.valueOf(many)).intValueExact();
    }

    /** A DRAW of one to five WITNESSES, of 6, of 4, from the least SEED to the greatest. */
    private static void termsDraws() {
        String[] texts = {"w;", "fa0,w;", "w,wa1,ba2;", "ma0,sb0,fc0,w;", "w,f,b,m,s;"};
        for (String text : texts) {
            for (int first : SEEDS) {
                WitnessWall x = Due.wall(text);
                WitnessWall shown = Due.wall(text);
                BigInteger seed = BigInteger.valueOf(first);
                int taken = 0;
                for (int times = 1; times <= 60; times++) {
                    seed = seedAfter(seed);
                    int witness = drawOf(shown.count(0), seed);
                    seed = seedAfter(seed);
                    int thing = drawOf(6, seed);
                    seed = seedAfter(seed);
                    taken += shown.show(witness, thing, drawOf(4, seed));
                    String told = text + " by " + first + ", times " + times;
                    Due.is("22 TAKEN: " + told, x.drawn(times, first, 0), taken);
                    Due.is("22 CLASHES: " + told, x.drawn(times, first, 1), shown.count(4));
                    Due.is("22 the SEED then: " + told, x.drawn(times, first, 2), seed.intValueExact());
                }
            }
        }
    }

    /** "how many were TAKEN": none, and all; "how many CLASHES there are in the end": none. */
    private static void termsTimes() {
        Due.is("22 none of one", Due.wall("b;").drawn(1, 5, 0), 0);
        Due.is("22 none of sixty", Due.wall("b;").drawn(60, 5, 0), 0);
        Due.is("22 one of one", Due.wall("f;").drawn(1, 5, 0), 1);
        Due.is("22 all of sixty", Due.wall("w,f,m;").drawn(60, 5, 0), 60);
        Due.is("22 one alone does not clash", Due.wall("w;").drawn(60, 5, 1), 0);
        Due.is("22 blind ones clash as before", Due.wall("ba0,ba1;").drawn(60, 5, 1), 1);
        // By SEED 0 the first THING drawn is a: 1406932606 by 65536 is 21468, its rest by 6 is 0.
        Due.is("22 a steady one who has it", Due.wall("sa3;").drawn(1, 0, 0), 0);
        Due.is("22 a steady one who has it not", Due.wall("sf3;").drawn(1, 0, 0), 1);
    }

    /** "DRAWN by a SEED, as they would be" */
    private static void termsAsTheyWouldBe() {
        WitnessWall x = new WitnessWall();
        Refusal.busy().lead(x);
        long then = x.digest();
        int first = x.drawn(60, 9, 0);
        Due.is("22 nothing is changed", x.digest(), then);
        Due.is("22 nothing was shown", x.count(5), 2);
        Due.is("22 the same again", x.drawn(60, 9, 0), first);
        x.term(1);
        Due.is("22 the same behind a term", x.drawn(60, 9, 0), first);
    }
}
