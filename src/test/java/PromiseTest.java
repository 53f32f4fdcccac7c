/** Each promise of the document by itself: ordinary inputs, the edges it names, wrong inputs. */
public final class PromiseTest {
    private static final int NONE = -1;
    private static final int UNKNOWN = -101;
    private static final int OUTSIDE = -102;
    private static final int STATE = -103;
    private static final int FULL = -104;
    private static final int LEAST = Integer.MIN_VALUE;
    private static final int GREATEST = Integer.MAX_VALUE;

    public static void main(String[] args) {
        promise1NewObject();
        promise2Letter();
        promise3Blank();
        promise4Fault();
        promise5Wall();
        promise6Witness();
        promise7As();
        promise8Tells();
        promise9Said();
        promise10Having();
        promise11Show();
        promise12Be();
        promise13Slip();
        promise14Tear();
        promise15Term();
        promise16Keep();
        promise17Peace();
        promise18Worlds();
        promise19Odds();
        promise20See();
        promise21Forget();
        promise22Drawn();
        promise23Image();
        promise24Restore();
        promise25Count();
        promise26Digest();
        Due.end();
    }

    private static void promise1NewObject() {
        WitnessWall x = new WitnessWall();
        for (int what = 0; what <= 8; what++) {
            Due.is("1 new: count(" + what + ")", x.count(what), 0);
        }
        Due.is("1 new: said(0)", x.said(0), STATE);
        Due.is("1 new: having(0, 0)", x.having(0, 0), STATE);
        Due.is("1 new: term(0)", x.term(0), STATE);
        Due.is("1 new: keep(0)", x.keep(0), STATE);
        Due.is("1 new: peace(1)", x.peace(1), STATE);
        Due.is("1 new: worlds(0)", x.worlds(0), STATE);
        Due.is("1 new: odds(0, 0, 0, 0)", x.odds(0, 0, 0, 0), STATE);
        Due.is("1 new: drawn(1, 0, 0)", x.drawn(1, 0, 0), STATE);
        Due.is("1 new: image()", x.image(), STATE);
        Due.is("1 new: restore()", x.restore(), STATE);
        Due.is("1 new: wall()", x.wall(), STATE);
        Due.is("1 new: witness(0, 0)", x.witness(0, 0), UNKNOWN);
        Due.is("1 new: as(0, 0)", x.as(0, 0), UNKNOWN);
        Due.is("1 new: tells(0, 0)", x.tells(0, 0), UNKNOWN);
        Due.is("1 new: show(0, 0, 0)", x.show(0, 0, 0), UNKNOWN);
        Due.is("1 new: be(0, 0)", x.be(0, 0), UNKNOWN);
        Due.is("1 new: slip(1, 0, 0, 0)", x.slip(1, 0, 0, 0), UNKNOWN);
        Due.is("1 new: see(0, 0, true)", x.see(0, 0, true), UNKNOWN);
        Due.is("1 new: blank()", x.blank(), 0);
        Due.is("1 new: fault()", x.fault(), 0);
        Due.is("1 new: tear()", x.tear(), 0);
        Due.is("1 new: forget()", x.forget(), 0);
        long h = 1361L;
        for (int zero = 0; zero <= 8; zero++) {
            h *= 31L;
        }
        Due.is("1 new: digest()", x.digest(), h);
    }

    private static void promise2Letter() {
        WitnessWall x = new WitnessWall();
        Due.is("2 letter(31)", x.letter(31), OUTSIDE);
        Due.is("2 letter(127)", x.letter(127), OUTSIDE);
        Due.is("2 letter(least)", x.letter(LEAST), OUTSIDE);
        Due.is("2 letter(greatest)", x.letter(GREATEST), OUTSIDE);
        Due.is("2 refused: count(7)", x.count(7), 0);
        Due.is("2 letter(32)", x.letter(32), 1);
        Due.is("2 letter(126)", x.letter(126), 2);
        for (int many = 3; many <= 54; many++) {
            Due.is("2 letter " + many, x.letter('a'), many);
        }
        Due.is("2 letter above 54", x.letter('a'), FULL);
        Due.is("2 OUTSIDE comes first", x.letter(127), OUTSIDE);
        Due.is("2 full: count(7)", x.count(7), 54);
    }

    private static void promise3Blank() {
        WitnessWall x = new WitnessWall();
        Due.write(x, "wa0");
        Due.is("3 blank()", x.blank(), 3);
        Due.is("3 blank() again", x.blank(), 0);
        Due.is("3 letter behind it", x.letter('w'), 1);
        Due.is("3 fault", x.fault(), 1);
    }

    private static void faultOf(String text, int want) {
        WitnessWall x = new WitnessWall();
        Due.write(x, text);
        Due.is("4 fault() of '" + text + "'", x.fault(), want);
        Due.is("4 fault() changes nothing", x.count(7), text.length());
    }

    private static void promise4Fault() {
        faultOf("", 0);
        for (String kind : new String[] {"w", "f", "b", "m", "s"}) {
            faultOf(kind, 1);
            faultOf(kind + ";", 2);
        }
        for (String none : new String[] {"a", "c", "x", "W", "0", ",", ";", " ", "v", "t"}) {
            faultOf(none, 0);
        }
        faultOf("wa0b1c2;", 8);
        faultOf("wa0b1c2d", 7);
        faultOf("wf3", 3);
        faultOf("wg", 1);
        faultOf("w`", 1);
        faultOf("wA", 1);
        faultOf("w0", 1);
        faultOf("wa", 2);
        faultOf("wa4", 2);
        faultOf("wa/", 2);
        faultOf("wab", 2);
        faultOf("wa,", 2);
        faultOf("wa;", 2);
        faultOf("wa0a0", 4);
        faultOf("wa0b0a0;", 6);
        faultOf("wa0b0b0;", 6);
        faultOf("fa0a1a2;", 8);
        faultOf("wa0,wa0;", 8);
        faultOf("w,", 2);
        faultOf("w,,", 2);
        faultOf("w,;", 2);
        faultOf("w,f,b,m,s", 9);
        faultOf("w,f,b,m,s,", 9);
        faultOf("w,f,b,m,sa0b0c0;", 16);
        faultOf("w;a", 3);
        faultOf("w;,", 2);
        faultOf("w;;", 2);
        faultOf("w;g", 2);
        faultOf("w;w", 2);
        faultOf("w;a0", 3);
        faultOf("w;a7", 3);
        faultOf("w;a1", 4);
        faultOf("w;a6", 4);
        faultOf("w;f6b", 4);
        faultOf("w;f6;", 4);
        faultOf("w;a1,", 5);
        faultOf("w;a1,,", 5);
        faultOf("w;a1,a1,a1,a1", 13);
        faultOf("w;a1,a1,a1,a1,", 13);
        faultOf("wa0b0c0,wa0b0c0,wa0b0c0,wa0b0c0,wa0b0c0;a1,b2,c3,d4", 51);
        faultOf("wa0b0c0,wa0b0c0,wa0b0c0,wa0b0c0,wa0b0c0;a1,b2,c3,d4,e5", 51);
    }

    private static void promise5Wall() {
        WitnessWall x = new WitnessWall();
        for (String none : new String[] {"w", "wa", "wa0", "w,", "w;a", "w;a1,", "w;a7", "wa0a0;", "x;"}) {
            x.blank();
            Due.write(x, none);
            Due.is("5 wall() of '" + none + "'", x.wall(), STATE);
            Due.is("5 the page stays: " + none, x.count(7), none.length());
            Due.is("5 no wall was read: " + none, x.count(8), 0);
        }
        x.blank();
        Due.write(x, "wa0b1,f,ma2b2c3;a2,f6");
        Due.is("5 wall()", x.wall(), 3);
        Due.is("5 the page is empty", x.count(7), 0);
        Due.is("5 kind", x.witness(2, 0), 3);
        Due.is("5 sights", x.witness(2, 4), 11);
        Due.is("5 none", x.witness(1, 1), 0);
        Due.is("5 cases", x.count(1), 2);
        x.show(0, 0, 0);
        x.slip(1, 0, 0, 0);
        x.see(0, 0, true);
        x.image();
        Due.write(x, "w;x");
        Due.is("5 wall() refused", x.wall(), STATE);
        Due.is("5 refused: witnesses", x.count(0), 3);
        Due.is("5 refused: slips", x.count(2), 1);
        Due.is("5 refused: the image is kept", x.restore(), 1);
        x.blank();
        Due.write(x, "b,fa0b0c0;");
        Due.is("5 another wall()", x.wall(), 2);
        Due.is("5 no cases", x.count(1), 0);
        Due.is("5 no slips", x.count(2), 0);
        Due.is("5 none shown", x.count(5), 0);
        Due.is("5 nothing seen", x.count(6), 0);
        Due.is("5 sorts", x.witness(0, 5), 31);
        Due.is("5 walls read", x.count(8), 2);
        Due.is("5 nobody there", x.witness(2, 0), UNKNOWN);
        Due.is("5 a FRESH one as told", x.witness(1, 1), 3);
        Due.is("5 a BLIND one", x.witness(0, 1), 0);
        Due.is("5 as many as can be", Due.wall("w,f,b,m,s;a1,b2,c3,d4").count(0), 5);
    }

    private static void promise6Witness() {
        WitnessWall x = Due.wall("wa0b1,fa1,ma2b2f3,b,sa0;a2");
        int[][] want = {
            {0, 2, 0, 5, NONE, 31, 0, 3},
            {1, 1, 1, NONE, NONE, 31, 0, 3},
            {3, 3, 2, 6, 23, 31, 0, 4},
            {2, 0, NONE, NONE, NONE, 31, 0, 0},
            {4, 1, 0, NONE, NONE, 31, 0, 2}};
        for (int one = 0; one < 5; one++) {
            for (int what = 0; what <= 7; what++) {
                Due.is("6 witness(" + one + ", " + what + ")", x.witness(one, what), want[one][what]);
            }
        }
        Due.is("6 witness(-1, 0)", x.witness(-1, 0), UNKNOWN);
        Due.is("6 witness(5, 0)", x.witness(5, 0), UNKNOWN);
        Due.is("6 witness(greatest, 0)", x.witness(GREATEST, 0), UNKNOWN);
        Due.is("6 witness(0, -1)", x.witness(0, -1), OUTSIDE);
        Due.is("6 witness(0, 8)", x.witness(0, 8), OUTSIDE);
        Due.is("6 witness(0, least)", x.witness(0, LEAST), OUTSIDE);
        Due.is("6 UNKNOWN comes first", x.witness(5, 8), UNKNOWN);
        sortsAndAsk();
    }

    private static void sortsAndAsk() {
        int[] could = {25, 11, 27, 1};
        for (int what = 0; what <= 3; what++) {
            WitnessWall x = Due.wall("w,b;");
            x.see(0, what, true);
            x.see(1, what, false);
            Due.is("6 sorts, it could: " + what, x.witness(0, 5), could[what]);
            Due.is("6 sorts, it could not: " + what, x.witness(1, 5), 31 - could[what]);
        }
        Due.is("6 ask of 0, 3, 4", ask(0, true), 1);
        Due.is("6 ask of 1, 2", ask(0, false), 1);
        Due.is("6 ask of 0, 1, 3", ask(1, true), 0);
        Due.is("6 ask of 2, 4", ask(1, false), 0);
        Due.is("6 ask of 0, 1, 3, 4", ask(2, true), 0);
        Due.is("6 ask of 2 alone", ask(2, false), 0);
        Due.is("6 ask of 0 alone", ask(3, true), 0);
        Due.is("6 ask of 1, 2, 3, 4", ask(3, false), 0);
        WitnessWall x = Due.wall("w;");
        x.see(0, 0, true);
        x.see(0, 1, true);
        Due.is("6 sorts 0 and 3", x.witness(0, 5), 9);
        Due.is("6 ask of 0 and 3", x.witness(0, 6), 3);
        x.see(0, 2, false);
        Due.is("6 no sort is left", x.witness(0, 5), 0);
        Due.is("6 ask of none", x.witness(0, 6), NONE);
    }

    private static int ask(int what, boolean could) {
        WitnessWall x = Due.wall("w;");
        x.see(0, what, could);
        return x.witness(0, 6);
    }

    private static void promise7As() {
        WitnessWall x = Due.wall("w,f,b,m,s;");
        int[] such = {1, 3, 5, 9, 25};
        for (int one = 0; one < 5; one++) {
            for (int kind = 0; kind < 5; kind++) {
                Due.is("7 as(" + one + ", " + kind + ")", x.as(one, kind), (such[one] >> kind & 1) == 1 ? one : NONE);
            }
        }
        Due.is("7 as(5, 0)", x.as(5, 0), UNKNOWN);
        Due.is("7 as(-1, 0)", x.as(-1, 0), UNKNOWN);
        Due.is("7 as(0, 5)", x.as(0, 5), OUTSIDE);
        Due.is("7 as(0, -1)", x.as(0, -1), OUTSIDE);
        Due.is("7 UNKNOWN comes first", x.as(5, 5), UNKNOWN);
        x.be(0, 4);
        Due.is("7 as() of what he has come to be", x.as(0, 3), 0);
    }

    private static void promise8Tells() {
        WitnessWall x = Due.wall("wa0a3f1,b;");
        Due.is("8 the latest", x.tells(0, 0), 3);
        Due.is("8 the last thing", x.tells(0, 5), 1);
        Due.is("8 none of it", x.tells(0, 1), NONE);
        Due.is("8 none at all", x.tells(1, 0), NONE);
        x.show(0, 0, 0);
        Due.is("8 a new one", x.tells(0, 0), 0);
        Due.is("8 tells(2, 0)", x.tells(2, 0), UNKNOWN);
        Due.is("8 tells(-1, 0)", x.tells(-1, 0), UNKNOWN);
        Due.is("8 tells(0, 6)", x.tells(0, 6), OUTSIDE);
        Due.is("8 tells(0, -1)", x.tells(0, -1), OUTSIDE);
        Due.is("8 UNKNOWN comes first", x.tells(2, 6), UNKNOWN);
    }

    private static void promise9Said() {
        WitnessWall x = Due.wall("wa0b1c3,wa0b2c3,wa1b1c2,wa1b2c2,wa3c2d1;");
        Due.is("9 two and two", x.said(0), NONE);
        Due.is("9 two and two again", x.said(1), NONE);
        Due.is("9 three and two", x.said(2), 2);
        Due.is("9 one alone", x.said(3), 1);
        Due.is("9 nobody", x.said(4), NONE);
        Due.is("9 only the latest counts", Due.wall("wa0a1,wa1,fa0;").said(0), 1);
        Due.is("9 said(6)", x.said(6), OUTSIDE);
        Due.is("9 said(-1)", x.said(-1), OUTSIDE);
        Due.is("9 OUTSIDE comes first", new WitnessWall().said(6), OUTSIDE);
        Due.is("9 no wall", new WitnessWall().said(5), STATE);
    }

    private static void promise10Having() {
        WitnessWall x = Due.wall("wa0a1,wa0,ba1f3;");
        Due.is("10 older ones too", x.having(0, 0), 2);
        Due.is("10 of each kind", x.having(0, 1), 2);
        Due.is("10 the last", x.having(5, 3), 1);
        Due.write(x, "w,fa0;");
        x.wall();
        Due.is("10 of another wall's nobody", x.having(0, 1), 0);
        Due.write(x, "wa0a1,wa0,ba1f3;");
        x.wall();
        Due.is("10 nobody", x.having(0, 2), 0);
        Due.is("10 having(6, 0)", x.having(6, 0), OUTSIDE);
        Due.is("10 having(-1, 0)", x.having(-1, 0), OUTSIDE);
        Due.is("10 having(0, 4)", x.having(0, 4), OUTSIDE);
        Due.is("10 having(0, -1)", x.having(0, -1), OUTSIDE);
        Due.is("10 OUTSIDE comes first", new WitnessWall().having(0, 4), OUTSIDE);
        Due.is("10 no wall", new WitnessWall().having(0, 0), STATE);
    }

    /** What the first witness has, each sight by 4 times the thing and the colour, a 24 for none. */
    private static int head(WitnessWall x) {
        int told = 0;
        for (int what = 2; what <= 4; what++) {
            int sight = x.witness(0, what);
            told = told * 100 + (sight == NONE ? 24 : sight);
        }
        return told;
    }

    private static void shown(String text, int thing, int colour, int taken, int headThen) {
        WitnessWall x = Due.wall(text);
        Due.is("11 show() to " + text, x.show(0, thing, colour), taken);
        Due.is("11 head of " + text, head(x), headThen);
        Due.is("11 count(5) of " + text, x.count(5), 1);
    }

    private static void promise11Show() {
        shown("w;", 0, 0, 1, 2424);
        shown("wa0b0;", 2, 1, 1, 409);
        shown("wa0b0c0;", 3, 0, 1, 40812);
        shown("wa0b0c0;", 0, 0, 1, 40800);
        shown("wa0b0c0;", 1, 0, 1, 804);
        shown("wa0b0c0;", 2, 0, 1, 408);
        shown("wa0b0c0;", 0, 1, 1, 40801);
        shown("wa0b0;", 0, 0, 1, 40024);
        shown("f;", 5, 3, 1, 232424);
        shown("fa0b0c0;", 1, 0, 1, 42424);
        shown("fa0b0c0;", 3, 0, 1, 122424);
        shown("b;", 0, 0, 0, 242424);
        shown("ba0b0;", 0, 0, 0, 424);
        shown("m;", 1, 2, 1, 62424);
        shown("ma0b0c0;", 0, 3, 1, 40803);
        shown("ma0b0c0;", 3, 1, 1, 40813);
        shown("ma0a1a2;", 0, 3, 1, 32424);
        shown("ma0b0a2;", 0, 0, 1, 40024);
        shown("ma3b0;", 0, 0, 1, 40024);
        shown("mb0a0c3;", 0, 3, 1, 41103);
        shown("s;", 1, 2, 1, 62424);
        shown("sa0b0c0;", 0, 0, 0, 408);
        shown("sa0b0c0;", 1, 3, 0, 408);
        shown("sa0b0c0;", 3, 1, 1, 40813);
        shown("sa0b0;", 3, 1, 1, 413);
        WitnessWall x = Due.wall("w,f;");
        Due.is("11 show(2, 0, 0)", x.show(2, 0, 0), UNKNOWN);
        Due.is("11 show(-1, 0, 0)", x.show(-1, 0, 0), UNKNOWN);
        Due.is("11 show(0, 6, 0)", x.show(0, 6, 0), OUTSIDE);
        Due.is("11 show(0, -1, 0)", x.show(0, -1, 0), OUTSIDE);
        Due.is("11 show(0, 0, 4)", x.show(0, 0, 4), OUTSIDE);
        Due.is("11 show(0, 0, -1)", x.show(0, 0, -1), OUTSIDE);
        Due.is("11 UNKNOWN comes first", x.show(2, 6, 4), UNKNOWN);
        Due.is("11 refused: head", head(x), 242424);
        Due.is("11 refused: count(5)", x.count(5), 0);
        // Beyond 512 calls answers are free; this class keeps to the promise there, too.
        for (int time = 1; time <= 9999; time++) {
            x.show(1, 0, 0);
        }
        Due.is("11 shown 9999 times", x.count(5), 9999);
        Due.is("11 once more", x.show(0, 0, 0), FULL);
        Due.is("11 OUTSIDE comes ahead of FULL", x.show(0, 0, 4), OUTSIDE);
        Due.is("11 full: head", head(x), 242424);
        Due.is("11 full: count(5)", x.count(5), 9999);
    }

    private static void promise12Be() {
        WitnessWall x = Due.wall("wa0b0c0,b;");
        Due.is("12 be(0, 1)", x.be(0, 1), 0);
        Due.is("12 he has what he has", x.witness(0, 1), 3);
        Due.is("12 be(0, 4)", x.be(0, 4), 1);
        Due.is("12 be(0, 4) again", x.be(0, 4), 4);
        Due.is("12 kind", x.witness(0, 0), 4);
        Due.is("12 he is steady now", x.show(0, 0, 1), 0);
        Due.is("12 be(1, 0)", x.be(1, 0), 2);
        Due.is("12 he takes it now", x.show(1, 0, 1), 1);
        Due.is("12 be(2, 0)", x.be(2, 0), UNKNOWN);
        Due.is("12 be(-1, 0)", x.be(-1, 0), UNKNOWN);
        Due.is("12 be(0, 5)", x.be(0, 5), OUTSIDE);
        Due.is("12 be(0, -1)", x.be(0, -1), OUTSIDE);
        Due.is("12 UNKNOWN comes first", x.be(2, 5), UNKNOWN);
        Due.is("12 refused: kind", x.witness(0, 0), 4);
    }

    private static void promise13Slip() {
        WitnessWall x = Due.wall("wa0,b;a6");
        Due.is("13 slip(0, 0, 0, 0)", x.slip(0, 0, 0, 0), OUTSIDE);
        Due.is("13 slip(7, 0, 0, 0)", x.slip(7, 0, 0, 0), OUTSIDE);
        Due.is("13 OUTSIDE of the day comes first", x.slip(7, 2, 0, 0), OUTSIDE);
        Due.is("13 slip(1, 2, 0, 0)", x.slip(1, 2, 0, 0), UNKNOWN);
        Due.is("13 slip(1, -1, 0, 0)", x.slip(1, -1, 0, 0), UNKNOWN);
        Due.is("13 UNKNOWN comes ahead of the thing", x.slip(1, 2, 6, 4), UNKNOWN);
        Due.is("13 slip(1, 0, 6, 0)", x.slip(1, 0, 6, 0), OUTSIDE);
        Due.is("13 slip(1, 0, -1, 0)", x.slip(1, 0, -1, 0), OUTSIDE);
        Due.is("13 slip(1, 0, 0, 4)", x.slip(1, 0, 0, 4), OUTSIDE);
        Due.is("13 slip(1, 0, 0, -1)", x.slip(1, 0, 0, -1), OUTSIDE);
        Due.is("13 refused: count(2)", x.count(2), 0);
        for (int many = 1; many <= 6; many++) {
            Due.is("13 slip " + many, x.slip(many, many % 2, 5, 3), many);
        }
        Due.is("13 the seventh", x.slip(1, 0, 0, 0), FULL);
        Due.is("13 OUTSIDE comes ahead of FULL", x.slip(1, 0, 0, 4), OUTSIDE);
        Due.is("13 UNKNOWN comes ahead of FULL", x.slip(1, 2, 0, 0), UNKNOWN);
        Due.is("13 count(2)", x.count(2), 6);
        Due.is("13 nobody is shown it yet", x.count(5), 0);
        Due.is("13 no head has it yet", x.having(5, 3), 0);
    }

    private static void promise14Tear() {
        WitnessWall x = Due.wall("w;a6");
        x.slip(1, 0, 0, 0);
        x.slip(1, 0, 0, 1);
        Due.is("14 with slips", x.term(0), 1);
        Due.is("14 tear()", x.tear(), 2);
        Due.is("14 without slips", x.term(0), 0);
        Due.is("14 tear() again", x.tear(), 0);
        Due.is("14 a slip anew", x.slip(1, 0, 0, 0), 1);
    }

    private static void termOf(String what, WitnessWall x, int most, int order) {
        Due.is("15 MOST " + what, x.term(0), most);
        Due.is("15 ORDER " + what, x.term(1), order);
    }

    private static void promise15Term() {
        termOf("no case", Due.wall("wa0;"), 0, 0);
        termOf("nothing said", Due.wall("wb0;a6"), 0, 0);
        termOf("on the first day", Due.wall("wa0;a1"), 1, 100000);
        termOf("on the last day", Due.wall("wa0;a6"), 1, 1);
        termOf("one day for two", Due.wall("wa0b0;b1,a1"), 1, 100000);
        termOf("the second alone is said", Due.wall("wa0;b1,a1"), 1, 200000);
        termOf("due later", Due.wall("wa0b0c0;a2,b2,c2"), 2, 120000);
        termOf("each once", Due.wall("wa0;a6,a6"), 2, 12);
        termOf("four", Due.wall("wa0b0c0;a3,b3,c6,a6"), 4, 12034);

        WitnessWall x = Due.wall("wa0,f;a6,b6");
        x.slip(2, 1, 0, 1);
        termOf("a clash from day 3 on", x, 1, 10000);
        x.slip(1, 1, 1, 1);
        termOf("said on day 2 alone", x, 2, 120000);
        Due.is("15 as it would be: count(5)", x.count(5), 0);
        Due.is("15 as it would be: head", x.witness(1, 1), 0);
        Due.is("15 as it would be: count(2)", x.count(2), 2);

        WitnessWall told = Due.wall("f;a6,b6");
        told.slip(1, 0, 0, 0);
        told.slip(1, 0, 1, 0);
        termOf("slips of a day in the order told", told, 1, 2);
        WitnessWall turned = Due.wall("f;a6,b6");
        turned.slip(1, 0, 1, 0);
        turned.slip(1, 0, 0, 0);
        termOf("slips of a day the other way", turned, 1, 1);
        WitnessWall last = Due.wall("w;a6");
        last.slip(6, 0, 0, 0);
        termOf("a slip at the end of day 6", last, 0, 0);
        last.slip(5, 0, 0, 0);
        termOf("a slip at the end of day 5", last, 1, 1);

        Due.is("15 term(2)", x.term(2), OUTSIDE);
        Due.is("15 term(-1)", x.term(-1), OUTSIDE);
        Due.is("15 OUTSIDE comes first", new WitnessWall().term(2), OUTSIDE);
        Due.is("15 no wall", new WitnessWall().term(1), STATE);
    }

    private static void keepOf(String text, int many, int which) {
        WitnessWall x = Due.wall(text);
        Due.is("16 keep(0) of " + text, x.keep(0), many);
        Due.is("16 keep(1) of " + text, x.keep(1), which);
    }

    private static void promise16Keep() {
        keepOf("w,w;", 0, 0);
        keepOf("wa0;", 1, 1);
        keepOf("wa0,wb0;", 2, 3);
        keepOf("wa0,wb0,wa0b0;", 1, 4);
        keepOf("wa0,wa1;", 0, 0);
        keepOf("wa0b0,wa1;", 2, 3);
        keepOf("wa0b0,wa1,wb0;", 1, 4);
        keepOf("wa0,wa1,wa1;", 1, 2);
        keepOf("wa0b1,wa0c1,wb1c1,f,f;", 2, 3);
        keepOf("wa0b1c1,wa0d1e1,wa1f1b2,wa1,wa0;", 3, 7);
        keepOf("wa0b1c1,wa1d1e1,wa1f1,wa0,wa0;", 5, 31);
        keepOf("wa0b1c1,wa1d1,wa0,wa0;", 3, 7);
        WitnessWall x = Due.wall("wa0;");
        Due.is("16 keep(2)", x.keep(2), OUTSIDE);
        Due.is("16 keep(-1)", x.keep(-1), OUTSIDE);
        Due.is("16 OUTSIDE comes first", new WitnessWall().keep(2), OUTSIDE);
        Due.is("16 no wall", new WitnessWall().keep(1), STATE);
    }

    private static void peaceOf(String text, int many, int which) {
        WitnessWall x = Due.wall(text);
        Due.is("17 peace(0) of " + text, x.peace(0), many);
        Due.is("17 peace(1) of " + text, x.peace(1), which);
    }

    private static void promise17Peace() {
        peaceOf("w;", 0, 0);
        peaceOf("wa0,wa0b1;", 0, 0);
        peaceOf("wa0,wa1;", 1, 1);
        peaceOf("wa0,wa1,wa0;", 1, 2);
        peaceOf("wa0,wb0,wa1b1;", 1, 4);
        peaceOf("wa0,wa1,wa2,wa3,wb0;", 3, 7);
        peaceOf("wa0,wa1,wb0,wb1,w;", 2, 5);
        peaceOf("wa0a1,wa1;", 0, 0);
        WitnessWall x = Due.wall("wa0;");
        Due.is("17 peace(2)", x.peace(2), OUTSIDE);
        Due.is("17 peace(-1)", x.peace(-1), OUTSIDE);
        Due.is("17 OUTSIDE comes first", new WitnessWall().peace(-1), OUTSIDE);
        Due.is("17 no wall", new WitnessWall().peace(0), STATE);
    }

    private static void worldsOf(String text, int[] want) {
        WitnessWall x = Due.wall(text);
        for (int wrong = 0; wrong <= 5; wrong++) {
            Due.is("18 worlds(" + wrong + ") of " + text, x.worlds(wrong), want[wrong]);
        }
    }

    private static void promise18Worlds() {
        worldsOf("w;", new int[] {4096, 4096, 4096, 4096, 4096, 4096});
        worldsOf("wa0;", new int[] {1024, 4096, 4096, 4096, 4096, 4096});
        worldsOf("wa0b0c0;", new int[] {64, 4096, 4096, 4096, 4096, 4096});
        worldsOf("wa0,wa1;", new int[] {0, 2048, 4096, 4096, 4096, 4096});
        worldsOf("ba0a1;", new int[] {0, 4096, 4096, 4096, 4096, 4096});
        worldsOf("wa0b0,wb0c0;", new int[] {64, 448, 4096, 4096, 4096, 4096});
        worldsOf("wa0,wa1,wa2,wa3,wa0a1;", new int[] {0, 0, 0, 0, 4096, 4096});
        worldsOf("wa0,wa0,wa0,wa0,wa1;", new int[] {0, 1024, 1024, 1024, 2048, 4096});
        WitnessWall x = Due.wall("wa0;");
        Due.is("18 worlds(6)", x.worlds(6), OUTSIDE);
        Due.is("18 worlds(-1)", x.worlds(-1), OUTSIDE);
        Due.is("18 OUTSIDE comes first", new WitnessWall().worlds(6), OUTSIDE);
        Due.is("18 no wall", new WitnessWall().worlds(5), STATE);
    }

    private static void oddsOf(WitnessWall x, int thing, int colour, int wrong, int above, int below) {
        Due.is("19 above", x.odds(thing, colour, wrong, 0), above);
        Due.is("19 below", x.odds(thing, colour, wrong, 1), below);
    }

    private static void promise19Odds() {
        WitnessWall x = Due.wall("wa0b0,wb0c0;");
        oddsOf(x, 0, 0, 0, 1, 1);
        oddsOf(x, 0, 1, 0, 0, 1);
        oddsOf(x, 0, 0, 1, 4, 7);
        oddsOf(x, 0, 3, 1, 1, 7);
        oddsOf(x, 5, 3, 1, 1, 4);
        oddsOf(x, 1, 0, 1, 1, 1);
        oddsOf(x, 0, 0, 5, 1, 4);
        oddsOf(Due.wall("wa0,wa1;"), 0, 0, 0, 0, 1);
        oddsOf(Due.wall("wa0,wa1;"), 0, 1, 1, 1, 2);
        oddsOf(Due.wall("wa0,wa1;"), 0, 2, 1, 0, 1);
        Due.is("19 odds(6, 0, 0, 0)", x.odds(6, 0, 0, 0), OUTSIDE);
        Due.is("19 odds(-1, 0, 0, 0)", x.odds(-1, 0, 0, 0), OUTSIDE);
        Due.is("19 odds(0, 4, 0, 0)", x.odds(0, 4, 0, 0), OUTSIDE);
        Due.is("19 odds(0, -1, 0, 0)", x.odds(0, -1, 0, 0), OUTSIDE);
        Due.is("19 odds(0, 0, 6, 0)", x.odds(0, 0, 6, 0), OUTSIDE);
        Due.is("19 odds(0, 0, -1, 0)", x.odds(0, 0, -1, 0), OUTSIDE);
        Due.is("19 odds(0, 0, 0, 2)", x.odds(0, 0, 0, 2), OUTSIDE);
        Due.is("19 odds(0, 0, 0, -1)", x.odds(0, 0, 0, -1), OUTSIDE);
        Due.is("19 OUTSIDE comes first", new WitnessWall().odds(0, 0, 0, 2), OUTSIDE);
        Due.is("19 no wall", new WitnessWall().odds(0, 0, 0, 1), STATE);
    }

    private static void promise20See() {
        WitnessWall x = Due.wall("w,f;");
        Due.is("20 see(2, 0, true)", x.see(2, 0, true), UNKNOWN);
        Due.is("20 see(-1, 0, true)", x.see(-1, 0, true), UNKNOWN);
        Due.is("20 see(0, 4, true)", x.see(0, 4, true), OUTSIDE);
        Due.is("20 see(0, -1, true)", x.see(0, -1, true), OUTSIDE);
        Due.is("20 UNKNOWN comes first", x.see(2, 4, true), UNKNOWN);
        Due.is("20 refused: count(6)", x.count(6), 0);
        Due.is("20 see(0, 0, true)", x.see(0, 0, true), 1);
        Due.is("20 the same again", x.see(0, 0, true), 2);
        Due.is("20 of another", x.see(1, 2, false), 3);
        Due.is("20 it is of one alone", x.witness(0, 5), 25);
        Due.is("20 and of the other", x.witness(1, 5), 4);
        Due.is("20 it is not his kind", x.witness(1, 0), 1);
        Due.is("20 the fourth", x.see(0, 1, false), 4);
        Due.is("20 the fifth", x.see(0, 3, false), 5);
        Due.is("20 the sixth", x.see(1, 3, false), 6);
        Due.is("20 the seventh", x.see(1, 0, false), FULL);
        Due.is("20 OUTSIDE comes ahead of FULL", x.see(1, 4, false), OUTSIDE);
        Due.is("20 UNKNOWN comes ahead of FULL", x.see(2, 0, false), UNKNOWN);
        Due.is("20 STEADY is left", x.witness(0, 5), 16);
        Due.is("20 count(6)", x.count(6), 6);
    }

    private static void promise21Forget() {
        WitnessWall x = Due.wall("w,f;");
        x.see(0, 0, true);
        x.see(1, 3, true);
        Due.is("21 forget()", x.forget(), 2);
        Due.is("21 sorts", x.witness(0, 5), 31);
        Due.is("21 sorts of the other", x.witness(1, 5), 31);
        Due.is("21 forget() again", x.forget(), 0);
        Due.is("21 seen anew", x.see(0, 3, true), 1);
        Due.is("21 sorts anew", x.witness(0, 5), 1);
    }

    private static void promise22Drawn() {
        WitnessWall x = Due.wall("w,ba0,f;");
        // Seeds 0, 12345, 1406932606, 654583775: draws of 3, 6 and 4 are 0, 0 and 0.
        Due.is("22 one drawn", x.drawn(1, 0, 0), 1);
        Due.is("22 the seed then", x.drawn(1, 0, 2), 654583775);
        Due.is("22 no clash", x.drawn(1, 0, 1), 0);
        Due.is("22 a blind one alone", Due.wall("b;").drawn(60, 7, 0), 0);
        Due.is("22 a plain one alone", Due.wall("w;").drawn(60, 7, 0), 60);
        Due.is("22 the greatest seed", x.drawn(1, GREATEST, 2), 646343466);
        Due.is("22 as it would be: count(5)", x.count(5), 0);
        Due.is("22 as it would be: head", x.witness(0, 1), 0);
        Due.is("22 drawn(0, 0, 0)", x.drawn(0, 0, 0), OUTSIDE);
        Due.is("22 drawn(61, 0, 0)", x.drawn(61, 0, 0), OUTSIDE);
        Due.is("22 drawn(1, -1, 0)", x.drawn(1, -1, 0), OUTSIDE);
        Due.is("22 drawn(1, 0, 3)", x.drawn(1, 0, 3), OUTSIDE);
        Due.is("22 drawn(1, 0, -1)", x.drawn(1, 0, -1), OUTSIDE);
        Due.is("22 OUTSIDE comes first", new WitnessWall().drawn(0, 0, 0), OUTSIDE);
        Due.is("22 no wall", new WitnessWall().drawn(1, 0, 0), STATE);
        drawnIsAsShown();
    }

    /** What is drawn is what show() does, one by one. */
    private static void drawnIsAsShown() {
        String text = "wa0,f,b,ma1,s;";
        WitnessWall x = Due.wall(text);
        WitnessWall shown = Due.wall(text);
        long seed = 99;
        int taken = 0;
        for (int time = 1; time <= 60; time++) {
            int[] draws = new int[3];
            for (int one = 0; one < 3; one++) {
                seed = (1103515245L * seed + 12345L) % 2147483648L;
                draws[one] = (int) (seed / 65536 % new int[] {5, 6, 4}[one]);
            }
            taken += shown.show(draws[0], draws[1], draws[2]);
            Due.is("22 taken of " + time, x.drawn(time, 99, 0), taken);
            Due.is("22 clashes of " + time, x.drawn(time, 99, 1), shown.count(4));
            Due.is("22 seed of " + time, x.drawn(time, 99, 2), seed);
        }
    }

    private static void promise23Image() {
        Due.is("23 no wall", new WitnessWall().image(), STATE);
        WitnessWall x = Due.wall("w,b;");
        Due.is("23 image()", x.image(), 0);
        x.show(0, 0, 0);
        x.show(1, 0, 0);
        Due.is("23 the latest", x.image(), 2);
        x.show(0, 1, 1);
        x.restore();
        Due.is("23 it is the latest one", x.count(5), 2);
        Due.is("23 with its sights", x.witness(0, 1), 1);
    }

    private static void promise24Restore() {
        WitnessWall x = Due.wall("wa0,b;a6");
        Due.is("24 none was kept", x.restore(), STATE);
        x.show(0, 1, 1);
        x.slip(2, 0, 0, 1);
        x.see(1, 2, false);
        Due.is("24 image()", x.image(), 1);
        long then = x.digest();
        x.be(0, 1);
        x.be(1, 3);
        x.show(0, 2, 2);
        x.show(1, 2, 2);
        x.tear();
        x.slip(1, 1, 3, 3);
        x.slip(1, 1, 3, 3);
        x.forget();
        x.see(0, 3, true);
        x.see(0, 2, true);
        Due.is("24 restore()", x.restore(), 1);
        Due.is("24 kind", x.witness(0, 0), 0);
        Due.is("24 the other's kind", x.witness(1, 0), 2);
        Due.is("24 sights", x.witness(0, 3), 5);
        Due.is("24 slips", x.count(2), 1);
        Due.is("24 seen", x.count(6), 1);
        Due.is("24 sorts", x.witness(1, 5), 4);
        Due.is("24 sorts of the other", x.witness(0, 5), 31);
        slipsComeBack();
        Due.is("24 all of it", x.digest(), then);
        x.show(0, 2, 2);
        x.letter('w');
        x.letter(';');
        Due.is("24 restore() again", x.restore(), 1);
        Due.is("24 THE PAGE is not kept", x.count(7), 2);
        x.wall();
        Due.is("24 another wall since", x.restore(), STATE);
        Due.is("24 refused: witnesses", x.count(0), 1);
        Due.is("24 a new image", x.image(), 0);
        Due.is("24 restore() of it", x.restore(), 0);
        Due.is("24 the count of walls is not kept", x.count(8), 2);
    }

    private static void slipsComeBack() {
        WitnessWall x = Due.wall("b,f;a6,b6");
        x.slip(3, 1, 0, 0);
        x.slip(2, 1, 1, 0);
        x.image();
        Due.is("24 ORDER with two slips", x.term(1), 2001);
        x.tear();
        for (int many = 0; many < 6; many++) {
            x.slip(1, 0, 2, 2);
        }
        Due.is("24 ORDER with others", x.term(1), 0);
        x.restore();
        Due.is("24 ORDER with the two again", x.term(1), 2001);
    }

    private static void promise25Count() {
        WitnessWall x = Due.wall("wa0a1,fa0,ma2b2;a2,b1,c6");
        x.slip(1, 0, 0, 0);
        x.show(0, 5, 3);
        x.show(1, 5, 2);
        x.see(0, 0, true);
        Due.write(x, "wa0b");
        int[] want = {3, 3, 1, 6, 2, 2, 1, 4, 1};
        for (int what = 0; what <= 8; what++) {
            Due.is("25 count(" + what + ")", x.count(what), want[what]);
        }
        Due.is("25 count(9)", x.count(9), OUTSIDE);
        Due.is("25 count(-1)", x.count(-1), OUTSIDE);
        Due.is("25 count(least)", x.count(LEAST), OUTSIDE);
        Due.is("25 no wall", new WitnessWall().count(9), OUTSIDE);
        Due.is("25 like sights once", Due.wall("wa0b0,wb0a0,fa0;").count(3), 2);
        Due.is("25 each two, each thing", Due.wall("wa0b0,wa1b1,wa2;").count(4), 4);
    }

    private static void promise26Digest() {
        WitnessWall x = Due.wall("wa0b1,fa0,ma2b2;a2,b1,c6");
        x.show(0, 2, 3);
        x.slip(2, 1, 0, 3);
        x.see(2, 0, false);
        Due.write(x, "w~ ");
        long h = 1361L;
        for (int one = 0; one < 3; one++) {
            for (int what = 0; what <= 7; what++) {
                h = 31L * h + x.witness(one, what);
            }
        }
        for (int thing = 0; thing < 6; thing++) {
            h = 31L * h + x.said(thing);
        }
        int[] told = {x.term(0), x.term(1), x.keep(0), x.keep(1), x.peace(0), x.peace(1), x.worlds(1), 'w', '~', ' '};
        for (int number : told) {
            h = 31L * h + number;
        }
        for (int what = 0; what <= 8; what++) {
            h = 31L * h + x.count(what);
        }
        Due.is("26 digest()", x.digest(), h);
        Due.is("26 digest() changes nothing", x.digest(), h);
        WitnessWall bare = new WitnessWall();
        bare.letter('w');
        Due.is("26 no wall, a letter", bare.digest(), ((1361L * 31L + 'w') * 852891037441L + 1L) * 31L);
    }
}
