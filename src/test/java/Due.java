/** What the tests share: it prints every answer that is not the one that is due, and counts them. */
final class Due {
    private static int asked = 0;
    private static int wrong = 0;

    private Due() {
    }

    static void is(String call, long got, long want) {
        asked++;
        if (got != want) {
            wrong++;
            System.out.println(call + " answered " + got + ", due is " + want);
        }
    }

    static void isTrue(String what, boolean holds) {
        is(what, holds ? 1 : 0, 1);
    }

    static int wrongSoFar() {
        return wrong;
    }

    /** Ends the program, with exit code 1 if an answer was wrong or nothing was asked. */
    static void end() {
        System.out.println(asked + " answers, " + wrong + " of them not as due");
        System.exit(wrong == 0 && asked > 0 ? 0 : 1);
    }

    static void write(WitnessWall x, String text) {
        for (int place = 0; place < text.length(); place++) {
            x.letter(text.charAt(place));
        }
    }

    static WitnessWall wall(String text) {
        WitnessWall x = new WitnessWall();
        write(x, text);
        isTrue("wall() of " + text, x.wall() > 0);
        return x;
    }
}
