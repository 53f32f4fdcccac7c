import java.util.Random;

/** Runs of calls, drawn by fixed seeds, on the class and on the model side by side. */
public final class ModelTest {
    private static final int RUNS = 260;
    private static final int CALLS = 512;
    private static final int[] ODD = {-1, -2, 6, 7, 8, 9, 60, 61, Integer.MIN_VALUE, Integer.MAX_VALUE};

    private final Random random;
    private final WitnessWall x = new WitnessWall();
    private final Model model = new Model();
    private final int things;
    private final int colours;

    private ModelTest(int seed) {
        random = new Random(seed);
        // Few things and colours bring clashes, ties and SIGHTS told twice.
        things = 1 + random.nextInt(6);
        colours = 1 + random.nextInt(4);
    }

    public static void main(String[] args) {
        for (int run = 0; run < RUNS && Due.wrongSoFar() < 20; run++) {
            new ModelTest(run).play(run);
        }
        Due.end();
    }

    private void play(int run) {
        int calls = 0;
        while (calls < CALLS - 60 && Due.wrongSoFar() < 20) {
            boolean text = random.nextInt(calls < 5 ? 2 : 25) == 0;
            calls += text ? writeWall(run) : callOne(run);
        }
        Due.is(run + ": digest()", x.digest(), model.digest());
    }

    /** A number that is mostly fine, now and then at or beyond an edge. */
    private int number(int least, int greatest) {
        int chance = random.nextInt(40);
        if (chance == 0) {
            return ODD[random.nextInt(ODD.length)];
        }
        if (chance == 1) {
            return random.nextBoolean() ? least - 1 : greatest + 1;
        }
        return least + random.nextInt(greatest - least + 1);
    }

    private int thing() {
        return number(0, random.nextInt(6) == 0 ? 5 : things - 1);
    }

    private int colour() {
        return number(0, random.nextInt(6) == 0 ? 3 : colours - 1);
    }

    private String sight() {
        return "" + (char) ('a' + random.nextInt(things)) + random.nextInt(colours);
    }

    private String textOfWall() {
        StringBuilder text = new StringBuilder();
        int witnesses = 1 + random.nextInt(random.nextInt(8) == 0 ? 6 : 5);
        for (int one = 0; one < witnesses; one++) {
            text.append(one > 0 ? "," : "").append("wfbms".charAt(random.nextInt(5)));
            int sights = random.nextInt(random.nextInt(20) == 0 ? 5 : 4);
            for (int many = 0; many < sights; many++) {
                String told = sight();
                boolean twice = text.substring(text.lastIndexOf(",") + 1).contains(told);
                text.append(twice && random.nextInt(15) > 0 ? "" : told);
            }
        }
        text.append(';');
        int cases = random.nextInt(random.nextInt(8) == 0 ? 6 : 5);
        for (int one = 0; one < cases; one++) {
            text.append(one > 0 ? "," : "").append((char) ('a' + random.nextInt(things))).append(1 + random.nextInt(6));
        }
        return text.toString();
    }

    private int writeWall(int run) {
        StringBuilder text = new StringBuilder(textOfWall());
        if (random.nextInt(6) == 0) {
            text.setCharAt(random.nextInt(text.length()), "wfbmsabcdef0123456789,;xg ~".charAt(random.nextInt(27)));
        }
        if (random.nextInt(8) == 0) {
            text.setLength(random.nextInt(text.length() + 1));
        }
        if (random.nextInt(3) > 0) {
            Due.is(run + ": blank()", x.blank(), model.blank());
        }
        for (int place = 0; place < text.length(); place++) {
            int code = text.charAt(place);
            Due.is(run + ": letter(" + code + ")", x.letter(code), model.letter(code));
        }
        Due.is(run + ": fault() of " + text, x.fault(), model.fault());
        Due.is(run + ": wall() of " + text, x.wall(), model.wall());
        return text.length() + 3;
    }

    private int callOne(int run) {
        int call = random.nextInt(26);
        if (call < 9) {
            doOne(run, call);
        } else {
            askOne(run, call);
        }
        return 1;
    }

    private void doOne(int run, int call) {
        int a = number(0, 4);
        int t = thing();
        int c = colour();
        String of = "(" + a + ", " + t + ", " + c + ")";
        switch (call) {
            case 0: case 1: case 2:
                Due.is(run + ": show" + of, x.show(a, t, c), model.show(a, t, c));
                break;
            case 3: case 4:
                int day = number(1, 6);
                Due.is(run + ": slip " + day + of, x.slip(day, a, t, c), model.slip(day, a, t, c));
                break;
            case 5:
                int kind = number(0, 4);
                Due.is(run + ": be " + kind + of, x.be(a, kind), model.be(a, kind));
                break;
            case 6:
                int what = number(0, 3);
                boolean could = random.nextBoolean();
                Due.is(run + ": see" + of, x.see(a, what, could), model.see(a, what, could));
                break;
            case 7:
                changeRarely(run);
                break;
            default:
                int code = number(32, 126);
                Due.is(run + ": letter(" + code + ")", x.letter(code), model.letter(code));
                break;
        }
    }

    private void changeRarely(int run) {
        switch (random.nextInt(5)) {
            case 0: Due.is(run + ": tear()", x.tear(), model.tear()); break;
            case 1: Due.is(run + ": forget()", x.forget(), model.forget()); break;
            case 2: Due.is(run + ": image()", x.image(), model.image()); break;
            case 3: Due.is(run + ": restore()", x.restore(), model.restore()); break;
            default: Due.is(run + ": wall()", x.wall(), model.wall()); break;
        }
    }

    private void askOne(int run, int call) {
        int a = number(0, 4);
        int t = thing();
        int c = colour();
        int two = number(0, 1);
        int wrong = number(0, 5);
        String of = " with " + a + " " + t + " " + c + " " + two + " " + wrong;
        switch (call) {
            case 9: Due.is(run + ": fault()", x.fault(), model.fault()); break;
            case 10: case 11: case 12: witnessOne(run, a); break;
            case 13: Due.is(run + ": as" + of, x.as(a, wrong), model.as(a, wrong)); break;
            case 14: Due.is(run + ": tells" + of, x.tells(a, t), model.tells(a, t)); break;
            case 15: Due.is(run + ": said" + of, x.said(t), model.said(t)); break;
            case 16: Due.is(run + ": having" + of, x.having(t, c), model.having(t, c)); break;
            case 17: case 18: Due.is(run + ": term" + of, x.term(two), model.term(two)); break;
            case 19: Due.is(run + ": keep" + of, x.keep(two), model.keep(two)); break;
            case 20: Due.is(run + ": peace" + of, x.peace(two), model.peace(two)); break;
            case 21: Due.is(run + ": worlds" + of, x.worlds(wrong), model.worlds(wrong)); break;
            case 22: Due.is(run + ": odds" + of, x.odds(t, c, wrong, two), model.odds(t, c, wrong, two)); break;
            case 23: drawnOne(run); break;
            case 24:
                int what = number(0, 8);
                Due.is(run + ": count(" + what + ")", x.count(what), model.count(what));
                break;
            default: Due.is(run + ": digest()", x.digest(), model.digest()); break;
        }
    }

    private void witnessOne(int run, int witness) {
        int what = number(0, 7);
        Due.is(run + ": witness(" + witness + ", " + what + ")", x.witness(witness, what), model.witness(witness, what));
    }

    private void drawnOne(int run) {
        int times = number(1, 60);
        int seed = random.nextInt(5) == 0 ? random.nextInt() : number(0, 100);
        int what = number(0, 2);
        Due.is(run + ": drawn(" + times + ", " + seed + ", " + what + ")",
                x.drawn(times, seed, what), model.drawn(times, seed, what));
    }
}
