import java.util.ArrayList;
import java.util.List;

/**
 * A refused call, and that it changes nothing: what all calls that only ask answer is the same behind it as
 * ahead of it, and an object that was refused the call goes on as its twin does, which never heard of it.
 */
final class Refusal {
    static final int NONE = -1;
    static final int UNKNOWN = -101;
    static final int OUTSIDE = -102;
    static final int STATE = -103;
    static final int FULL = -104;

    /** How an object is brought to where the call comes. */
    interface Way {
        void lead(WitnessWall x);
    }

    interface Call {
        int of(WitnessWall x);
    }

    /** A call of which one number is left open. */
    interface CallBy {
        int of(WitnessWall x, int number);
    }

    private Refusal() {
    }

    static Way text(String wall) {
        return x -> {
            Due.write(x, wall);
            x.wall();
        };
    }

    /** A WALL where each thing that could be changed is there, and shows. */
    static Way busy() {
        return x -> {
            text("wa0b1,fa0,ma2b2,sc1,bc1d3;a2,b1,c6,d3").lead(x);
            x.show(0, 2, 3);
            x.slip(1, 3, 3, 1);
            x.slip(2, 1, 2, 3);
            x.see(0, 1, true);
            x.see(4, 0, false);
            x.image();
            x.be(0, 3);
            x.show(1, 1, 1);
            x.slip(2, 0, 0, 2);
            x.see(1, 3, false);
            Due.write(x, "wa0,");
        };
    }

    static void is(String told, Way way, Call call, int want) {
        for (int ending = 0; ending < 4; ending++) {
            WitnessWall one = new WitnessWall();
            WitnessWall twin = new WitnessWall();
            way.lead(one);
            way.lead(twin);
            List<Long> before = answers(one);
            Due.is(told, call.of(one), want);
            Due.isTrue(told + " changes nothing", answers(one).equals(before));
            Due.isTrue(told + " is of no effect later, ending " + ending, goOn(one, ending).equals(goOn(twin, ending)));
        }
    }

    /** The least and the greatest number that is taken, with their answers, and those next to them and far off. */
    static void bounds(String told, Way way, CallBy call, int[] least, int[] greatest, int refusal) {
        for (int[] taken : new int[][] {least, greatest}) {
            WitnessWall x = new WitnessWall();
            way.lead(x);
            Due.is(told + " takes " + taken[0], call.of(x, taken[0]), taken[1]);
        }
        below(told, way, call, least[0], refusal);
        above(told, way, call, greatest[0], refusal);
    }

    static void below(String told, Way way, CallBy call, int least, int refusal) {
        for (int number : new int[] {least - 1, least - 2, Integer.MIN_VALUE}) {
            is(told + " refuses " + number, way, x -> call.of(x, number), refusal);
        }
    }

    static void above(String told, Way way, CallBy call, int greatest, int refusal) {
        for (int number : new int[] {greatest + 1, greatest + 2, Integer.MAX_VALUE}) {
            is(told + " refuses " + number, way, x -> call.of(x, number), refusal);
        }
    }

    /** Of calls that need a WALL: STATE without one, though one be written on THE PAGE; taken with the least one. */
    static void needsWall(String told, Call call, int want) {
        is(told + " of a new object", x -> { }, call, STATE);
        is(told + " with a wall that is not read yet", x -> Due.write(x, "wa0;a1"), call, STATE);
        is(told + " when wall() was refused", text("wa0;a0"), call, STATE);
        WitnessWall x = Due.wall("w;");
        Due.is(told + " with the least wall", call.of(x), want);
    }

    /** What all calls answer that only ask, 163 of them. */
    private static List<Long> answers(WitnessWall x) {
        List<Long> told = new ArrayList<>();
        for (int one = 0; one < 5; one++) {
            for (int what = 0; what <= 7; what++) {
                told.add((long) x.witness(one, what));
            }
            for (int kind = 0; kind < 5; kind++) {
                told.add((long) x.as(one, kind));
            }
            for (int thing = 0; thing < 6; thing++) {
                told.add((long) x.tells(one, thing));
            }
        }
        for (int thing = 0; thing < 6; thing++) {
            told.add((long) x.said(thing));
            told.add((long) x.odds(thing, 0, 1, 0));
            told.add((long) x.odds(thing, 0, 1, 1));
            told.add((long) x.worlds(thing));
            for (int colour = 0; colour < 4; colour++) {
                told.add((long) x.having(thing, colour));
            }
        }
        for (int what = 0; what <= 1; what++) {
            told.add((long) x.term(what));
            told.add((long) x.keep(what));
            told.add((long) x.peace(what));
        }
        for (int what = 0; what <= 2; what++) {
            told.add((long) x.drawn(9, 5, what));
        }
        for (int what = 0; what <= 8; what++) {
            told.add((long) x.count(what));
        }
        told.add((long) x.fault());
        told.add(x.digest());
        return told;
    }

    /** What some calls that change something answer, and what is there behind them. */
    private static List<Long> goOn(WitnessWall x, int ending) {
        List<Long> told = new ArrayList<>();
        switch (ending) {
            case 0: useImage(x, told); break;
            case 1: useUp(x, told); break;
            case 2: useHeads(x, told); break;
            default: usePage(x, told); break;
        }
        told.add(x.digest());
        return told;
    }

    private static void useImage(WitnessWall x, List<Long> told) {
        told.add((long) x.restore());
        told.add(x.digest());
        told.add((long) x.show(0, 4, 1));
        told.add((long) x.image());
        told.add((long) x.show(0, 5, 1));
        told.add((long) x.restore());
    }

    private static void useUp(WitnessWall x, List<Long> told) {
        for (int many = 0; many < 7; many++) {
            told.add((long) x.slip(1 + many % 6, 0, many % 6, many % 4));
            told.add((long) x.term(1));
            told.add((long) x.see(many % 2, many % 4, many < 3));
            told.add((long) x.witness(many % 2, 5));
        }
        told.add(x.digest());
        told.add((long) x.tear());
        told.add((long) x.forget());
        told.add((long) x.blank());
    }

    private static void useHeads(WitnessWall x, List<Long> told) {
        for (int one = 0; one < 5; one++) {
            told.add((long) x.be(one, 0));
            told.add((long) x.term(1));
            told.add((long) x.show(one, one, 3));
            told.add((long) x.term(1));
            told.add((long) x.show(one, 5, 1));
            told.add((long) x.term(1));
        }
    }

    private static void usePage(WitnessWall x, List<Long> told) {
        for (char sign : "wa0b1;a1".toCharArray()) {
            told.add((long) x.letter(sign));
            told.add((long) x.fault());
        }
        told.add((long) x.wall());
        told.add((long) x.restore());
        told.add(x.digest());
        told.add((long) x.blank());
    }
}
