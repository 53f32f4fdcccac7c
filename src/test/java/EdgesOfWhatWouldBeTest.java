/** The bounds that the document names for what would be: "Terms" and promises 15 to 19. */
public final class EdgesOfWhatWouldBeTest {
    public static void main(String[] args) {
        promise15Refusals();
        termsDueByThatDayOrLater();
        termsAheadOfItsSlips();
        termsSlipsAsTold();
        termsOneCaseADay();
        termsEachCaseOnce();
        termsNoOthersAreHeard();
        termsLeastOrder();
        termsAsItWouldBe();
        promise16Refusals();
        termsKeep();
        promise17Refusals();
        termsPeace();
        promise18Refusals();
        termsWorlds();
        promise19Refusals();
        promise19NoSuchWorlds();
        termsLowestTerms();
        Due.end();
    }

    /** "OUTSIDE" comes ahead of "STATE: no WALL", and is told with a WALL as well. */
    private static void outsideFirst(String told, Refusal.Call call) {
        Refusal.is(told + " without a wall", x -> { }, call, Refusal.OUTSIDE);
        Refusal.is(told + " with a wall", Refusal.busy(), call, Refusal.OUTSIDE);
    }

    /** "what = 0 MOST, 1 ORDER. OUTSIDE; STATE: no WALL." */
    private static void promise15Refusals() {
        Refusal.bounds("15 term(what)", Refusal.text("wa0;a1"), (x, what) -> x.term(what),
                new int[] {0, 1}, new int[] {1, 100000}, Refusal.OUTSIDE);
        Refusal.needsWall("15 term(0)", x -> x.term(0), 0);
        Refusal.needsWall("15 term(1)", x -> x.term(1), 0);
        outsideFirst("15 term(-1)", x -> x.term(-1));
        outsideFirst("15 term(2)", x -> x.term(2));
    }

    private static void term(String told, WitnessWall x, int most, int order) {
        Due.is("15 MOST: " + told, x.term(0), most);
        Due.is("15 ORDER: " + told, x.term(1), order);
    }

    private static int digitOf(int day, int digit) {
        int order = digit;
        for (int later = day; later < 6; later++) {
            order *= 10;
        }
        return order;
    }

    /** "one CASE can be HEARD, that is DUE by that DAY or later" */
    private static void termsDueByThatDayOrLater() {
        for (int due = 1; due <= 6; due++) {
            term("due " + due + ", said all the time", Due.wall("wa0;a" + due), 1, digitOf(due, 1));
        }
        // Said from one DAY on: just in time on that very DAY, one DAY too late, and with a DAY to spare.
        for (int from = 2; from <= 6; from++) {
            WitnessWall inTime = Due.wall("w;a" + from);
            inTime.slip(from - 1, 0, 0, 0);
            term("said from day " + from + ", due then", inTime, 1, digitOf(from, 1));
            WitnessWall late = Due.wall("w;a" + (from - 1));
            late.slip(from - 1, 0, 0, 0);
            term("said from day " + from + ", due a day before", late, 0, 0);
        }
    }

    /** "on each DAY, ahead of its SLIPS" */
    private static void termsAheadOfItsSlips() {
        // Said no more behind one DAY: that DAY is the last on which the CASE is WON.
        for (int day = 1; day <= 6; day++) {
            WitnessWall x = Due.wall("wa0,f;a6");
            x.slip(day, 1, 0, 1);
            term("said up to day " + day, x, 1, digitOf(day, 1));
        }
        WitnessWall first = Due.wall("w;a1");
        first.slip(1, 0, 0, 0);
        term("day 1 ahead of its slips", first, 0, 0);
        WitnessWall last = Due.wall("w;a6");
        last.slip(6, 0, 0, 0);
        term("day 6 ahead of its slips", last, 0, 0);
    }

    /** "the SLIPS of a DAY in the order they were told", those of an earlier DAY first */
    private static void termsSlipsAsTold() {
        WitnessWall x = Due.wall("f;a6,b6");
        x.slip(5, 0, 0, 0);
        x.slip(5, 0, 1, 0);
        term("the second wipes out the first", x, 1, 2);
        WitnessWall turned = Due.wall("f;a6,b6");
        turned.slip(5, 0, 1, 0);
        turned.slip(5, 0, 0, 0);
        term("told the other way", turned, 1, 1);
        WitnessWall days = Due.wall("f;a6,b6");
        days.slip(5, 0, 1, 0);
        days.slip(4, 0, 0, 0);
        term("an earlier day told later", days, 2, 12);
        WitnessWall six = Due.wall("f;a6");
        for (int colour = 0; colour < 5; colour++) {
            six.slip(1, 0, 1, colour % 4);
        }
        term("five of another thing", six, 0, 0);
        six.slip(1, 0, 0, 0);
        term("the sixth", six, 1, 1);
    }

    /** "one CASE can be HEARD" on each DAY */
    private static void termsOneCaseADay() {
        term("no case", Due.wall("wa0;"), 0, 0);
        term("one on day 1", Due.wall("wa0;a1"), 1, 100000);
        term("two on day 1", Due.wall("wa0;a1,a1"), 1, 100000);
        term("four on day 1", Due.wall("wa0;a1,a1,a1,a1"), 1, 100000);
        term("four by day 2", Due.wall("wa0;a2,a2,a2,a2"), 2, 120000);
        term("four by day 3", Due.wall("wa0;a3,a3,a3,a3"), 3, 123000);
        term("four by day 4", Due.wall("wa0;a4,a4,a4,a4"), 4, 123400);
        term("four by day 6", Due.wall("wa0;a6,a6,a6,a6"), 4, 1234);
        WitnessWall x = Due.wall("w;a6,a6,a6,a6");
        x.slip(2, 0, 0, 0);
        term("four from day 3 on", x, 4, 1234);
        x.slip(3, 0, 0, 1);
        term("though another colour is said", x, 4, 1234);
        WitnessWall late = Due.wall("w;a6,a6,a6,a6");
        late.slip(3, 0, 0, 0);
        term("four from day 4 on", late, 3, 123);
        WitnessWall later = Due.wall("w;a6,a6,a6,a6");
        later.slip(5, 0, 0, 0);
        term("four on day 6", later, 1, 1);
    }

    /** "each CASE once" */
    private static void termsEachCaseOnce() {
        term("one, six days", Due.wall("wa0;a6"), 1, 1);
        term("two alike are two", Due.wall("wa0;a6,a6"), 2, 12);
    }

    /** "it is WON, if something is SAID of its THING then"; "so that MOST are WON and no others are HEARD" */
    private static void termsNoOthersAreHeard() {
        term("nothing is said", Due.wall("w;a1,b2,c3,d6"), 0, 0);
        term("the least colour is something", Due.wall("wf0;f6"), 1, 1);
        term("the first is not said", Due.wall("wa0;b6,a6"), 1, 2);
        term("the last alone is said", Due.wall("wa0;b1,b2,b3,a4"), 1, 400);
        term("as many as many", Due.wall("wa0,wa1;a6"), 0, 0);
        term("one more", Due.wall("wa0,wa1,wa1;a6"), 1, 1);
    }

    /** "of all such the least number" */
    private static void termsLeastOrder() {
        term("of two for a day the first", Due.wall("wa0b0;a1,b1"), 1, 100000);
        term("as late as can be", Due.wall("wa0b0;a5,b6"), 2, 12);
        term("the lesser one ahead", Due.wall("wa0b0;a6,b6"), 2, 12);
        term("not if it is due ahead", Due.wall("wa0b0;a6,b5"), 2, 21);
        term("both on the first days", Due.wall("wa0b0;a2,b1"), 2, 210000);
        term("the least first digit counts most", Due.wall("wa0b0c0;a6,b1,b1,c6"), 3, 200014);
    }

    /** "(as it would be)" */
    private static void termsAsItWouldBe() {
        WitnessWall x = new WitnessWall();
        Refusal.busy().lead(x);
        long then = x.digest();
        x.term(0);
        x.term(1);
        Due.is("15 nothing is changed", x.digest(), then);
        Due.is("15 nothing was shown", x.count(5), 2);
    }

    /** "what = 0 how many, 1 which, as bits. OUTSIDE; STATE: no WALL." */
    private static void promise16Refusals() {
        Refusal.bounds("16 keep(what)", Refusal.text("w,wa0;"), (x, what) -> x.keep(what),
                new int[] {0, 1}, new int[] {1, 2}, Refusal.OUTSIDE);
        Refusal.needsWall("16 keep(0)", x -> x.keep(0), 0);
        Refusal.needsWall("16 keep(1)", x -> x.keep(1), 0);
        outsideFirst("16 keep(-1)", x -> x.keep(-1));
        outsideFirst("16 keep(2)", x -> x.keep(2));
    }

    private static void keep(String told, String text, int many, int which) {
        WitnessWall x = Due.wall(text);
        Due.is("16 how many: " + told, x.keep(0), many);
        Due.is("16 which: " + told, x.keep(1), which);
        Due.is("16 nobody is gone: " + told, x.count(0), text.split(",").length);
    }

    /** "the fewest WITNESSES .. of each THING the same was SAID as now .. of as many the least" */
    private static void termsKeep() {
        keep("nothing is said by one", "w;", 0, 0);
        keep("nothing is said by five", "w,w,w,w,w;", 0, 0);
        keep("one of one", "wa0;", 1, 1);
        keep("the fifth alone", "w,w,w,w,wa0;", 1, 16);
        keep("four of five", "wa0,wb0,wc0,wd0,w;", 4, 15);
        keep("the other four", "w,wa0,wb0,wc0,wd0;", 4, 30);
        keep("all five", "wa0,wb0,wc0,wd0,we0;", 5, 31);
        keep("of five alike the least", "wf3,wf3,wf3,wf3,wf3;", 1, 1);
        keep("none is said of a tie", "wa0,wa1;", 0, 0);
        keep("none stays none", "wa0b0,wa1;", 2, 3);
        keep("fewer go ahead of lesser bits", "wa0,wb0,wa0b0;", 1, 4);
        keep("who says what is not said is of no use", "wa1,wa0,wa0;", 1, 2);
        keep("of two pairs the least", "wa0,wb0,wa0,wb0;", 2, 3);
    }

    /** "what = 0 how many, 1 which, as bits. OUTSIDE; STATE: no WALL." */
    private static void promise17Refusals() {
        Refusal.bounds("17 peace(what)", Refusal.text("wa0,wa1,wa0;"), (x, what) -> x.peace(what),
                new int[] {0, 1}, new int[] {1, 2}, Refusal.OUTSIDE);
        Refusal.needsWall("17 peace(0)", x -> x.peace(0), 0);
        Refusal.needsWall("17 peace(1)", x -> x.peace(1), 0);
        outsideFirst("17 peace(-1)", x -> x.peace(-1));
        outsideFirst("17 peace(2)", x -> x.peace(2));
    }

    private static void peace(String told, String text, int many, int which) {
        WitnessWall x = Due.wall(text);
        Due.is("17 how many: " + told, x.peace(0), many);
        Due.is("17 which: " + told, x.peace(1), which);
        Due.is("17 nobody is gone: " + told, x.count(0), text.split(",").length);
    }

    /** "the fewest WITNESSES, without whom there would be no CLASH .. of as many the least" */
    private static void termsPeace() {
        peace("one alone", "wa0;", 0, 0);
        peace("five who say nothing", "w,w,w,w,w;", 0, 0);
        peace("five who say the same", "wa0,wa0,wa0,wa0,wa0;", 0, 0);
        peace("nobody clashes with himself", "wa0a1a2;", 0, 0);
        peace("of two the least", "wa0,wa1;", 1, 1);
        peace("the fifth", "wa0,wa0,wa0,wa0,wa1;", 1, 16);
        peace("three of five", "wa0,wa1,wa2,wa3,wa0;", 3, 14);
        peace("four of five", "wa0b0,wa1b1,wa2b2,wa3b3,wa0b1;", 4, 15);
        peace("fewer go ahead of lesser bits", "wa0,wb0,wa1b1;", 1, 4);
        peace("of two pairs the least", "wa0,wb0,wa1,wb1;", 2, 3);
    }

    /** "OUTSIDE: wrong (0 to 5); STATE: no WALL" */
    private static void promise18Refusals() {
        Refusal.bounds("18 worlds(wrong)", Refusal.text("wa0;"), (x, wrong) -> x.worlds(wrong),
                new int[] {0, 1024}, new int[] {5, 4096}, Refusal.OUTSIDE);
        Refusal.needsWall("18 worlds(0)", x -> x.worlds(0), 4096);
        Refusal.needsWall("18 worlds(5)", x -> x.worlds(5), 4096);
        outsideFirst("18 worlds(-1)", x -> x.worlds(-1));
        outsideFirst("18 worlds(6)", x -> x.worlds(6));
    }

    private static void worlds(String told, String text, int... want) {
        WitnessWall x = Due.wall(text);
        for (int wrong = 0; wrong <= 5; wrong++) {
            Due.is("18 worlds(" + wrong + "): " + told, x.worlds(wrong), want[wrong]);
        }
    }

    /** "how many there are in which no more than so many WITNESSES are WRONG" */
    private static void termsWorlds() {
        worlds("who has nothing is never wrong", "w,w,w,w,w;", 4096, 4096, 4096, 4096, 4096, 4096);
        worlds("all things are told", "wa0b0c0,wd3e3f3;", 1, 127, 4096, 4096, 4096, 4096);
        worlds("the same by five", "wa0,wa0,wa0,wa0,wa0;", 1024, 1024, 1024, 1024, 1024, 4096);
        worlds("one is wrong at least", "wa0,wa1;", 0, 2048, 4096, 4096, 4096, 4096);
        worlds("he has what he does not tell", "wa0a1;", 0, 4096, 4096, 4096, 4096, 4096);
        worlds("four are wrong", "wa0a1,wa0a1,wa0a1,wa0a1,w;", 0, 0, 0, 0, 4096, 4096);
        worlds("all five are wrong", "wa0a1,wa0a1,wa0a1,wa0a1,wa0a1;", 0, 0, 0, 0, 0, 4096);
    }

    /** "OUTSIDE: thing (0 to 5), colour (0 to 3), wrong (0 to 5), what; STATE: no WALL" */
    private static void promise19Refusals() {
        Refusal.Way way = Refusal.text("wa0f3,wa0a1;");
        Refusal.bounds("19 odds(thing, 0, 1, 1)", way, (x, thing) -> x.odds(thing, 0, 1, 1),
                new int[] {0, 1}, new int[] {5, 1}, Refusal.OUTSIDE);
        Refusal.bounds("19 odds(0, colour, 1, 0)", way, (x, colour) -> x.odds(0, colour, 1, 0),
                new int[] {0, 1}, new int[] {3, 0}, Refusal.OUTSIDE);
        Refusal.bounds("19 odds(5, 3, wrong, 1)", way, (x, wrong) -> x.odds(5, 3, wrong, 1),
                new int[] {0, 1}, new int[] {5, 4}, Refusal.OUTSIDE);
        Refusal.bounds("19 odds(5, 3, 5, what)", way, (x, what) -> x.odds(5, 3, 5, what),
                new int[] {0, 1}, new int[] {1, 4}, Refusal.OUTSIDE);
        Refusal.needsWall("19 odds(0, 0, 0, 0)", x -> x.odds(0, 0, 0, 0), 1);
        Refusal.needsWall("19 odds(5, 3, 5, 1)", x -> x.odds(5, 3, 5, 1), 4);
        int[][] wrong = {{-1, 0, 0, 0}, {6, 0, 0, 0}, {0, -1, 0, 0}, {0, 4, 0, 0}, {0, 0, -1, 0}, {0, 0, 6, 0},
            {0, 0, 0, -1}, {0, 0, 0, 2}, {6, 4, 6, 2}};
        for (int[] by : wrong) {
            String told = "19 odds(" + by[0] + ", " + by[1] + ", " + by[2] + ", " + by[3] + ")";
            outsideFirst(told, x -> x.odds(by[0], by[1], by[2], by[3]));
        }
    }

    private static void odds(String told, String text, int[] by, int above, int below) {
        WitnessWall x = Due.wall(text);
        Due.is("19 above: " + told, x.odds(by[0], by[1], by[2], 0), above);
        Due.is("19 below: " + told, x.odds(by[0], by[1], by[2], 1), below);
    }

    /** "(0 of 1, if there are no such WORLDS)" */
    private static void promise19NoSuchWorlds() {
        for (int thing = 0; thing < 6; thing++) {
            for (int colour = 0; colour < 4; colour++) {
                odds("no worlds", "wa0,wa1;", new int[] {thing, colour, 0}, 0, 1);
            }
        }
        odds("worlds at last, the thing", "wa0,wa1;", new int[] {0, 0, 1}, 1, 2);
        odds("worlds at last, another thing", "wa0,wa1;", new int[] {1, 0, 1}, 1, 4);
        odds("no worlds of five", "wa0a1,wa0a1,wa0a1,wa0a1,wa0a1;", new int[] {5, 3, 4}, 0, 1);
        odds("worlds of five", "wa0a1,wa0a1,wa0a1,wa0a1,wa0a1;", new int[] {5, 3, 5}, 1, 4);
    }

    /** "in how many of these the THING had that COLOUR, of how many, in lowest terms" */
    private static void termsLowestTerms() {
        odds("in all of them", "wa0;", new int[] {0, 0, 0}, 1, 1);
        odds("in none of them", "wa0;", new int[] {0, 1, 0}, 0, 1);
        odds("anyhow", "wa0;", new int[] {0, 0, 1}, 1, 4);
        odds("the last thing and colour", "w;", new int[] {5, 3, 0}, 1, 4);
        // Of 127 WORLDS in 64 the first is right and in 64 the second, in one both.
        odds("127 can't be lessened", "wa0b0c0,wd3e3f3;", new int[] {0, 0, 1}, 79, 127);
        odds("nor with another above", "wa0b0c0,wd3e3f3;", new int[] {0, 1, 1}, 16, 127);
        odds("one world alone", "wa0b0c0,wd3e3f3;", new int[] {5, 3, 0}, 1, 1);
        odds("and not so in it", "wa0b0c0,wd3e3f3;", new int[] {5, 0, 0}, 0, 1);
        odds("256 of 448", "wa0b0,wb0c0;", new int[] {0, 0, 1}, 4, 7);
    }
}
