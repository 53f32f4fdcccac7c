/** The bounds that the document names for THE PAGE and THE WALL: "Terms" and promises 1 to 5. */
public final class EdgesOfTheWallTest {
    private static final String LONGEST = "wa0b0c0,fa0b0c0,ba0b0c0,ma0b0c0,sa0b0c0;a1,b2,e5,f6";

    public static void main(String[] args) {
        promise1NoWallAtFirst();
        promise1ObjectsAreTheirOwn();
        promise2Code();
        promise2Full();
        promise2OutsideAheadOfFull();
        promise3BlankFromEmptyToFull();
        promise3NoLetterComesBack();
        promise4NoFault();
        promise4FirstOfSeveralFaults();
        termsKindLetters();
        termsNoneToThreeSights();
        termsThingAndColour();
        promise4SightToldTwice();
        termsOneToFiveWitnesses();
        termsUpToFourCases();
        termsDueDays();
        promise5NoneIsRead();
        promise5LeastAndLongest();
        promise5OneMoreIsNone();
        promise5RefusedChangesNothing();
        promise5PageIsEmptyThen();
        promise5AllThatWasIsGone();
        termsOfATextAllAreAsTold();
        Due.end();
    }

    /** "No WALL." "At first there is none; then there are no SLIPS." */
    private static void promise1NoWallAtFirst() {
        WitnessWall x = new WitnessWall();
        Due.is("1 no witness", x.count(0), 0);
        Due.is("1 no case", x.count(1), 0);
        Due.is("1 no slip", x.count(2), 0);
        Due.is("1 no slip to tear", x.tear(), 0);
        Due.is("1 no wall was read", x.count(8), 0);
        Due.is("1 the page is empty", x.blank(), 0);
        Refusal.needsWall("1 said(0)", y -> y.said(0), Refusal.NONE);
        WitnessWall read = Due.wall("w;");
        Due.is("1 with a wall: a witness", read.count(0), 1);
        Due.is("1 with a wall: no slip", read.count(2), 0);
        Due.is("1 with a wall: none to tear", read.tear(), 0);
    }

    private static void promise1ObjectsAreTheirOwn() {
        WitnessWall other = new WitnessWall();
        Refusal.busy().lead(other);
        long then = other.digest();
        WitnessWall x = new WitnessWall();
        Due.is("1 a second object: no wall", x.said(0), Refusal.STATE);
        Due.is("1 a second object: no letter", x.count(7), 0);
        Due.is("1 a second object: no image", x.restore(), Refusal.STATE);
        Refusal.text("b;").lead(x);
        x.show(0, 0, 0);
        Due.is("1 the first goes on as it was", other.digest(), then);
    }

    /** "OUTSIDE: code (32 to 126)" */
    private static void promise2Code() {
        for (Refusal.Way way : new Refusal.Way[] {x -> { }, Refusal.text("w;")}) {
            Refusal.bounds("2 letter()", way, (x, code) -> x.letter(code),
                    new int[] {32, 1}, new int[] {126, 1}, Refusal.OUTSIDE);
        }
        for (int far : new int[] {0, 10, 65536 + 'w', 256 + 'w', -'w'}) {
            Refusal.is("2 letter(" + far + ")", Refusal.busy(), x -> x.letter(far), Refusal.OUTSIDE);
        }
    }

    /** A page of so many letters: a WALL's, and blanks behind it. */
    private static Refusal.Way page(int letters) {
        return x -> {
            for (int place = 0; place < letters; place++) {
                x.letter(place < LONGEST.length() ? LONGEST.charAt(place) : ' ');
            }
        };
    }

    /** "FULL: above 54" */
    private static void promise2Full() {
        WitnessWall x = new WitnessWall();
        page(52).lead(x);
        Due.is("2 the 53rd letter", x.letter('a'), 53);
        Due.is("2 the 54th letter", x.letter('a'), 54);
        Due.is("2 the 55th letter", x.letter('a'), Refusal.FULL);
        Due.is("2 still full", x.letter('b'), Refusal.FULL);
        Due.is("2 54 letters stay", x.count(7), 54);
        Due.is("2 one place is free again behind blank()", x.blank(), 54);
        Due.is("2 the first letter anew", x.letter('a'), 1);
        for (int code : new int[] {32, 'w', ';', 126}) {
            Refusal.is("2 full: letter(" + code + ")", page(54), y -> y.letter(code), Refusal.FULL);
        }
    }

    private static void promise2OutsideAheadOfFull() {
        for (int code : new int[] {31, 127}) {
            Refusal.is("2 one less than full: letter(" + code + ")", page(53), x -> x.letter(code), Refusal.OUTSIDE);
            Refusal.is("2 full: letter(" + code + ")", page(54), x -> x.letter(code), Refusal.OUTSIDE);
        }
    }

    /** "THE PAGE is empty: how many letters it had." */
    private static void promise3BlankFromEmptyToFull() {
        for (int letters : new int[] {0, 1, 2, 53, 54}) {
            WitnessWall x = new WitnessWall();
            page(letters).lead(x);
            Due.is("3 blank() of " + letters, x.blank(), letters);
            Due.is("3 the page is empty behind " + letters, x.count(7), 0);
            Due.is("3 blank() of an empty page behind " + letters, x.blank(), 0);
            Due.is("3 no fault is left behind " + letters, x.fault(), 0);
        }
        WitnessWall x = Due.wall("wa0;a1");
        x.letter('x');
        Due.is("3 with a wall", x.blank(), 1);
        Due.is("3 the wall stays", x.said(0), 0);
    }

    /** "THE PAGE is empty": what stood there is not read behind a shorter text, by blank() or by wall(). */
    private static void promise3NoLetterComesBack() {
        for (boolean read : new boolean[] {false, true}) {
            for (String text : new String[] {"", "w", "w;", "w;a", "w;a1", "w;a1,", "w;a1,b"}) {
                WitnessWall x = new WitnessWall();
                Due.write(x, "w;a1,b2");
                Due.is("3 the longer one", read ? x.wall() : x.blank(), read ? 1 : 7);
                Due.write(x, text);
                Due.is("3 fault() of '" + text + "'", x.fault(), text.length());
                boolean whole = text.equals("w;") || text.equals("w;a1");
                Due.is("3 wall() of '" + text + "'", x.wall(), whole ? 1 : Refusal.STATE);
                Due.is("3 letters of '" + text + "'", x.blank(), whole ? 0 : text.length());
            }
        }
    }

    private static int faultOf(String text) {
        WitnessWall x = new WitnessWall();
        Due.write(x, text);
        long then = x.digest();
        int told = x.fault();
        Due.is("4 fault() changes nothing of '" + text + "'", x.digest(), then);
        return told;
    }

    /** "how many letters it has, if there is none" */
    private static void promise4NoFault() {
        for (int letters = 0; letters <= LONGEST.length(); letters++) {
            String text = LONGEST.substring(0, letters);
            Due.is("4 no fault in '" + text + "'", faultOf(text), letters);
        }
        Due.is("4 no wall has a letter behind the longest", faultOf(LONGEST + "a"), 51);
        Due.is("4 not even a comma", faultOf(LONGEST + ","), 51);
        Due.is("4 nor three", faultOf(LONGEST + ",a1"), 51);
    }

    /** "the first letter of THE PAGE that no WALL has there" */
    private static void promise4FirstOfSeveralFaults() {
        Due.is("4 at once", faultOf("xxx"), 0);
        Due.is("4 the first of two", faultOf("wx;x"), 1);
        Due.is("4 what is right again behind it", faultOf("wa9b1;a1"), 2);
        Due.is("4 at the last letter", faultOf("wa0;a9"), 5);
        Due.is("4 one ahead of it", faultOf("wa0;g1"), 4);
    }

    /** Which letters, of all that there are, a WALL may have behind a text. */
    private static void follow(String text, String fine) {
        for (int code = 32; code <= 126; code++) {
            boolean isFine = fine.indexOf(code) >= 0;
            String longer = text + (char) code;
            Due.is("4 fault() of '" + longer + "'", faultOf(longer), text.length() + (isFine ? 1 : 0));
        }
    }

    /** "KINDS are told by the letter" */
    private static void termsKindLetters() {
        follow("", "wfbms");
        follow("w,", "wfbms");
        follow("wa0b0c0,", "wfbms");
        String letters = "wfbms";
        for (int kind = 0; kind < 5; kind++) {
            Due.is("kind of " + letters.charAt(kind), Due.wall(letters.charAt(kind) + ";").witness(0, 0), kind);
        }
    }

    /** "none to three SIGHTS" */
    private static void termsNoneToThreeSights() {
        for (String kind : new String[] {"w", "f", "b", "m", "s"}) {
            follow(kind, "abcdef,;");
            follow(kind + "a0", "abcdef,;");
            follow(kind + "a0b1", "abcdef,;");
            follow(kind + "a0b1c2", ",;");
        }
        for (int many = 0; many <= 3; many++) {
            String text = "w" + "a0b1c2".substring(0, 2 * many) + ";";
            Due.is("sights of " + text, Due.wall(text).witness(0, 1), many);
        }
        noWall("wa0b1c2d3;", 7);
    }

    /** "a THING ("a" to "f", 0 to 5) and a COLOUR (0 to 3)" */
    private static void termsThingAndColour() {
        for (String thing : new String[] {"a", "b", "c", "d", "e", "f"}) {
            follow("w" + thing, "0123");
        }
        Due.is("the least sight", Due.wall("wa0;").witness(0, 2), 0);
        Due.is("the greatest sight", Due.wall("wf3;").witness(0, 2), 23);
    }

    /** "(a SIGHT told twice: the digit of the second one)" and "SIGHTS, unlike" */
    private static void promise4SightToldTwice() {
        follow("wa0a", "123");
        follow("wa3a", "012");
        follow("wa0a1a", "23");
        follow("wa0b1a", "123");
        follow("wa0b1b", "023");
        follow("wa0b1c", "0123");
        follow("wf3f0f", "12");
        follow("wa0,wa", "0123");
        follow("wa0,wa0a", "123");
        Due.is("4 told twice", faultOf("wa0a0;"), 4);
        Due.is("4 told twice with one between", faultOf("wa0b0a0;"), 6);
        Due.is("4 the third told twice", faultOf("wa0b0b0;"), 6);
        noWall("wa0a0;", 4);
        Due.is("4 like ones of two witnesses", Due.wall("wa0,wa0;").having(0, 0), 2);
        Due.is("4 three colours of a thing", Due.wall("wa0a1a2;").witness(0, 1), 3);
    }

    /** "one to five WITNESSES (numbered from 0) with "," between" */
    private static void termsOneToFiveWitnesses() {
        noWall(";", 0);
        noWall(",w;", 0);
        noWall("w,;", 2);
        noWall("w,,w;", 2);
        follow("w,w,w,w", "abcdef,;");
        follow("w,w,w,w,w", "abcdef;");
        follow("w,w,w,w,wa0", "abcdef;");
        follow("w,w,w,w,wa0b0c0", ";");
        String text = "w";
        for (int many = 1; many <= 5; many++) {
            WitnessWall x = new WitnessWall();
            Due.write(x, text + ";");
            Due.is("wall() of " + many, x.wall(), many);
            Due.is("count(0) of " + many, x.count(0), many);
            text += ",w";
        }
        noWall("w,w,w,w,w,w;", 9);
    }

    /** "no CASE, or up to four (numbered from 0) with "," between" */
    private static void termsUpToFourCases() {
        follow("w;", "abcdef");
        follow("w;a1", ",");
        follow("w;a1,", "abcdef");
        follow("w;a1,a1,a1", ",");
        follow("w;a1,a1,a1,", "abcdef");
        follow("w;a1,a1,a1,a1", "");
        String cases = "";
        for (int many = 0; many <= 4; many++) {
            Due.is("count(1) of " + cases, Due.wall("w;" + cases).count(1), many);
            cases += many == 0 ? "a1" : ",a1";
        }
        noWall("w;a1,a1,a1,a1,a1", 13);
    }

    /** "by which DAY it is DUE (1 to 6)" */
    private static void termsDueDays() {
        follow("w;a", "123456");
        follow("w;f", "123456");
        follow("w;a1,f", "123456");
        noWall("w;a0", 3);
        Due.is("due on day 1", Due.wall("wa0;a1").term(1), 100000);
        Due.is("due on day 6", Due.wall("wa0;a6").term(1), 1);
        noWall("w;a7", 3);
    }

    private static void noWall(String text, int fault) {
        Due.is("fault() of '" + text + "'", faultOf(text), fault);
        Refusal.is("wall() of '" + text + "'", x -> Due.write(x, text), x -> x.wall(), Refusal.STATE);
    }

    /** "STATE: it is none" */
    private static void promise5NoneIsRead() {
        for (String begun : new String[] {"", "w", "wa", "wa0", "wa0b0c0", "w,", "w,f", "w;a", "w;a1,", "w;a1,b"}) {
            noWall(begun, begun.length());
        }
        for (int letters = 0; letters < LONGEST.length(); letters++) {
            String begun = LONGEST.substring(0, letters);
            WitnessWall x = new WitnessWall();
            Due.write(x, begun);
            boolean whole = begun.matches(".*;(|.*[1-6])");
            Due.is("5 wall() of '" + begun + "'", x.wall(), whole ? 5 : Refusal.STATE);
        }
    }

    private static void promise5LeastAndLongest() {
        WitnessWall x = new WitnessWall();
        Due.write(x, "w;");
        Due.is("5 the least wall", x.wall(), 1);
        Due.write(x, LONGEST);
        Due.is("5 the longest is of 51 letters", x.count(7), 51);
        Due.is("5 the longest wall", x.wall(), 5);
        Due.is("5 its witnesses", x.count(0), 5);
        Due.is("5 its cases", x.count(1), 4);
        Due.is("5 the last sight of the last", x.witness(4, 4), 8);
    }

    private static void promise5OneMoreIsNone() {
        noWall("w; ", 2);
        noWall(" w;", 0);
        noWall("w;;", 2);
        noWall("w;a1;", 4);
        noWall(LONGEST + " ", 51);
        noWall(LONGEST + "   ", 51);
    }

    private static void promise5RefusedChangesNothing() {
        Refusal.is("5 wall() of what is begun", Refusal.busy(), x -> x.wall(), Refusal.STATE);
        Refusal.Way empty = x -> {
            Refusal.busy().lead(x);
            x.blank();
        };
        Refusal.is("5 wall() of an empty page", empty, x -> x.wall(), Refusal.STATE);
        Refusal.Way full = x -> {
            Refusal.busy().lead(x);
            x.blank();
            page(54).lead(x);
        };
        Refusal.is("5 wall() of a full page", full, x -> x.wall(), Refusal.STATE);
    }

    /** "THE PAGE is empty then" */
    private static void promise5PageIsEmptyThen() {
        WitnessWall x = Due.wall("w;");
        Due.is("5 no letters", x.count(7), 0);
        Due.is("5 none to blank", x.blank(), 0);
        Due.is("5 fault() of none", x.fault(), 0);
        Due.is("5 it can't be read twice", x.wall(), Refusal.STATE);
        Due.is("5 read once", x.count(8), 1);
        Due.is("5 the first letter of the next", x.letter('w'), 1);
    }

    /** "(another one is gone, with all that was)" */
    private static void promise5AllThatWasIsGone() {
        WitnessWall x = new WitnessWall();
        Refusal.busy().lead(x);
        x.blank();
        Due.write(x, "wa0b1,fa0,ma2b2,sc1,bc1d3;a2,b1,c6,d3");
        Due.is("5 the same text again", x.wall(), 5);
        WitnessWall fresh = Due.wall("wa0b1,fa0,ma2b2,sc1,bc1d3;a2,b1,c6,d3");
        Due.is("5 an image is gone", x.restore(), Refusal.STATE);
        Due.is("5 walls read", x.count(8), 2);
        // Of all that digest() tells, only the last number, how many walls were read, is another one.
        Due.is("5 the rest is as it is in a new object", x.digest() - 2, fresh.digest() - 1);
        Due.write(x, "b;");
        Due.is("5 a smaller wall", x.wall(), 1);
        Due.is("5 only its witness", x.witness(1, 0), Refusal.UNKNOWN);
        Due.is("5 no case", x.count(1), 0);
        Due.is("5 no sight", x.count(3), 0);
    }

    /** "(Of a text all are as they are told, of whatever KIND.)" */
    private static void termsOfATextAllAreAsTold() {
        for (String kind : new String[] {"w", "f", "b", "m", "s"}) {
            WitnessWall x = Due.wall(kind + "a0a3a1;");
            Due.is("as told: how many of " + kind, x.witness(0, 1), 3);
            Due.is("as told: the oldest of " + kind, x.witness(0, 2), 0);
            Due.is("as told: the second of " + kind, x.witness(0, 3), 3);
            Due.is("as told: the third of " + kind, x.witness(0, 4), 1);
            Due.is("as told: none was shown to " + kind, x.count(5), 0);
        }
    }
}
