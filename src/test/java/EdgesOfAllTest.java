import java.math.BigInteger;
import java.util.ArrayList;
import java.util.List;

/** The bounds that the document names for images, counts and the digest, and for how long an object is used. */
public final class EdgesOfAllTest {
    public static void main(String[] args) {
        promise23Refusal();
        promise23Latest();
        promise24NoneWasKept();
        promise24AnotherWallSince();
        promise24RefusedWallIsNone();
        promise24EmptyAndFull();
        promise24WhatItDoesNotKeep();
        promise25Refusals();
        promise25WithoutAWall();
        promise25Greatest();
        promise25WallsRead();
        promise26WithoutAWall();
        promise26WithAWall();
        promise26LettersOfThePage();
        promise26Wraps();
        lastOf512Calls();
        Due.end();
    }

    /** "STATE: no WALL" */
    private static void promise23Refusal() {
        Refusal.needsWall("23 image()", x -> x.image(), 0);
        WitnessWall x = new WitnessWall();
        x.image();
        Due.is("23 a refused image is none", x.restore(), Refusal.STATE);
        Refusal.text("w;").lead(x);
        Due.is("23 nor with a wall since", x.restore(), Refusal.STATE);
    }

    /** "An IMAGE is kept (one; the latest): how often one was SHOWN something." */
    private static void promise23Latest() {
        WitnessWall x = Due.wall("w;");
        for (int times = 0; times <= 2; times++) {
            Due.is("23 image() behind " + times, x.image(), times);
            x.show(0, times, 0);
        }
        Due.is("23 restore() of the latest", x.restore(), 2);
        Due.is("23 its sights", x.witness(0, 1), 2);
        Due.is("23 the earlier ones are gone", x.restore(), 2);
        x.show(0, 5, 0);
        Due.is("23 the same again", x.restore(), 2);
        Due.is("23 image() of what was restored", x.image(), 2);
    }

    /** "STATE: none was kept" */
    private static void promise24NoneWasKept() {
        Refusal.is("24 a new object", x -> { }, x -> x.restore(), Refusal.STATE);
        Refusal.is("24 the least wall", Refusal.text("w;"), x -> x.restore(), Refusal.STATE);
        Refusal.Way used = x -> {
            Refusal.text("wa0,f;a6").lead(x);
            x.show(0, 1, 1);
            x.slip(1, 1, 0, 1);
            x.see(0, 2, true);
            x.letter('w');
        };
        Refusal.is("24 much was done", used, x -> x.restore(), Refusal.STATE);
        WitnessWall x = Due.wall("w;");
        x.image();
        Due.is("24 one was kept", x.restore(), 0);
    }

    /** "or there is another WALL since" */
    private static void promise24AnotherWallSince() {
        for (String next : new String[] {"w;", "wa0b1,fa0,ma2b2,sc1,bc1d3;a2,b1,c6,d3"}) {
            Refusal.Way another = x -> {
                Refusal.busy().lead(x);
                x.blank();
                Refusal.text(next).lead(x);
            };
            Refusal.is("24 another wall: " + next, another, x -> x.restore(), Refusal.STATE);
            WitnessWall x = new WitnessWall();
            another.lead(x);
            x.show(0, 5, 0);
            Due.is("24 an image of the new one", x.image(), 1);
            Due.is("24 restore() of it", x.restore(), 1);
        }
    }

    private static void promise24RefusedWallIsNone() {
        WitnessWall x = new WitnessWall();
        Refusal.busy().lead(x);
        Due.is("24 wall() is refused", x.wall(), Refusal.STATE);
        Due.is("24 the image is still there", x.restore(), 1);
    }

    /** "An IMAGE keeps KINDS, SIGHTS, SLIPS, SEEN, how often one was SHOWN something." */
    private static void promise24EmptyAndFull() {
        WitnessWall x = Due.wall("w,b;a6,b6,c6,d6");
        x.image();
        long empty = x.digest();
        fill(x);
        long full = x.digest();
        Due.is("24 restore() of an empty one", x.restore(), 0);
        Due.is("24 no slips", x.count(2), 0);
        Due.is("24 nothing is seen", x.count(6), 0);
        Due.is("24 no sights", x.count(3), 0);
        Due.is("24 all is empty again", x.digest(), empty);
        fill(x);
        Due.is("24 image() of a full one", x.image(), 3);
        x.tear();
        x.forget();
        for (int many = 0; many < 6; many++) {
            x.slip(1, 0, 5, 0);
            x.see(0, 2, false);
        }
        x.show(0, 5, 3);
        x.be(0, 2);
        x.be(1, 1);
        Due.is("24 restore() of a full one", x.restore(), 3);
        Due.is("24 all is full again", x.digest(), full);
        eachSlipComesBack();
        Due.is("24 no seventh slip", x.slip(1, 0, 0, 0), Refusal.FULL);
        Due.is("24 no seventh is seen", x.see(0, 0, true), Refusal.FULL);
    }

    /** One SLIP of six matters, at each place, and others were told since the IMAGE. */
    private static void eachSlipComesBack() {
        for (int place = 0; place < 6; place++) {
            WitnessWall x = Due.wall("b,f,b;a6");
            for (int many = 0; many < 6; many++) {
                x.slip(many == place ? 4 : 6, many == place ? 1 : 0, many == place ? 0 : 5, 0);
                x.see(many == place ? 1 : 0, many == place ? 3 : 2, false);
            }
            x.image();
            x.tear();
            x.forget();
            for (int many = 0; many < 6; many++) {
                x.slip(6, 2, 3, 3);
                x.see(2, 0, true);
            }
            Due.is("24 nothing is said by the others, " + place, x.term(1), 0);
            x.restore();
            Due.is("24 the slip at " + place + " comes in again", x.term(1), 1);
            Due.is("24 what is SEEN at " + place + " is so again", x.witness(1, 5), 30);
            Due.is("24 no more of the others, " + place, x.witness(2, 5), 31);
        }
    }

    private static void fill(WitnessWall x) {
        for (int many = 0; many < 6; many++) {
            x.slip(6 - many, many % 2, many % 4, many % 3);
            x.see(many % 2, many % 4, many < 4);
        }
        x.be(1, 4);
        for (int thing = 0; thing < 3; thing++) {
            x.show(thing % 2, thing, 3);
        }
    }

    private static void promise24WhatItDoesNotKeep() {
        WitnessWall x = Due.wall("w;a1,b2");
        Due.write(x, "wa");
        x.image();
        Due.write(x, "0;");
        x.restore();
        Due.is("24 letters of THE PAGE", x.count(7), 4);
        Due.is("24 cases are of the wall", x.count(1), 2);
        Due.is("24 how often a wall was read", x.count(8), 1);
        Due.is("24 THE PAGE is a wall", x.wall(), 1);
        Due.is("24 of one sight", x.witness(0, 2), 0);
    }

    /** "How many: 0 .. 8"; "OUTSIDE" */
    private static void promise25Refusals() {
        Refusal.bounds("25 count(what), no wall", x -> { }, (x, what) -> x.count(what),
                new int[] {0, 0}, new int[] {8, 0}, Refusal.OUTSIDE);
        Refusal.bounds("25 count(what), busy", Refusal.busy(), (x, what) -> x.count(what),
                new int[] {0, 5}, new int[] {8, 1}, Refusal.OUTSIDE);
    }

    private static void counts(String told, WitnessWall x, int... want) {
        for (int what = 0; what <= 8; what++) {
            Due.is("25 count(" + what + "): " + told, x.count(what), want[what]);
        }
    }

    private static void promise25WithoutAWall() {
        WitnessWall x = new WitnessWall();
        counts("a new object", x, 0, 0, 0, 0, 0, 0, 0, 0, 0);
        Due.write(x, "wa0;a1");
        counts("a wall on the page", x, 0, 0, 0, 0, 0, 0, 0, 6, 0);
        x.wall();
        counts("it is read", x, 1, 1, 0, 1, 0, 0, 0, 0, 1);
        counts("the least wall", Due.wall("w;"), 1, 0, 0, 0, 0, 0, 0, 0, 1);
    }

    private static void promise25Greatest() {
        WitnessWall x = Due.wall("wa0b0c0,wd0e0f0,wa1b1c1,wd1e1f1,wa2b2c2;a1,b2,c3,d6");
        for (int many = 0; many < 6; many++) {
            x.slip(1, 0, 0, 0);
            x.see(0, 0, true);
        }
        for (int many = 0; many < 54; many++) {
            x.letter('w');
        }
        // a, b and c are told by three each in three colours, d, e and f by two each: 9 and 3 clashes.
        counts("full", x, 5, 4, 6, 15, 12, 0, 6, 54, 1);
        x.letter('w');
        x.slip(1, 0, 0, 0);
        x.see(0, 0, true);
        counts("full, and refused", x, 5, 4, 6, 15, 12, 0, 6, 54, 1);
        WitnessWall clash = Due.wall("wa0b0c0,wa1b1c1,wa2b2c2,wa3b3c3,wa0b0c0;");
        counts("clashes, as many as can be", clash, 5, 0, 0, 12, 27, 0, 0, 0, 1);
        counts("all have the same", Due.wall("wa0,wa0,wa0,wa0,wa0;"), 5, 0, 0, 1, 0, 0, 0, 0, 1);
        counts("one has two of a thing", Due.wall("wa0a1,wa1;"), 2, 0, 0, 2, 0, 0, 0, 0, 1);
    }

    /** "8 how often a WALL was read" */
    private static void promise25WallsRead() {
        WitnessWall x = new WitnessWall();
        for (int walls = 1; walls <= 9; walls++) {
            Due.is("25 not read yet", x.wall(), Refusal.STATE);
            Due.write(x, "w;");
            Due.is("25 on the page only", x.count(8), walls - 1);
            x.wall();
            Due.is("25 walls read", x.count(8), walls);
            x.image();
            x.restore();
            Due.is("25 no image changes it", x.count(8), walls);
        }
    }

    /** The digest by numbers that know no wrap-around, and its rest by 2 to the 64. */
    private static long digestOf(WitnessWall x, String page) {
        List<Integer> told = new ArrayList<>();
        for (int one = 0; one < x.count(0); one++) {
            for (int what = 0; what <= 7; what++) {
                told.add(x.witness(one, what));
            }
        }
        if (x.count(0) > 0) {
            for (int thing = 0; thing < 6; thing++) {
                told.add(x.said(thing));
            }
            told.addAll(List.of(x.term(0), x.term(1), x.keep(0), x.keep(1), x.peace(0), x.peace(1), x.worlds(1)));
        }
        page.chars().forEach(told::add);
        for (int what = 0; what <= 8; what++) {
            told.add(x.count(what));
        }
        BigInteger h = BigInteger.valueOf(1361L);
        for (int number : told) {
            h = h.multiply(BigInteger.valueOf(31L)).add(BigInteger.valueOf(number));
        }
        return h.longValue();
    }

    private static void promise26WithoutAWall() {
        WitnessWall x = new WitnessWall();
        Due.is("26 a new object", x.digest(), 1361L * 31 * 31 * 31 * 31 * 31 * 31 * 31 * 31 * 31);
        Due.is("26 a new object, by all its numbers", x.digest(), digestOf(x, ""));
        x.wall();
        x.show(0, 0, 0);
        Due.is("26 refused calls are not in it", x.digest(), digestOf(new WitnessWall(), ""));
    }

    private static void promise26WithAWall() {
        for (String text : new String[] {"w;", "wa0;a1", "fa0,b;", "wa0b0c0,wa1b1c1,ma2,s,b;a1,b2,c3,d6"}) {
            WitnessWall x = Due.wall(text);
            Due.is("26 of " + text, x.digest(), digestOf(x, ""));
            x.slip(1, 0, 0, 2);
            x.show(0, 5, 1);
            x.see(0, 3, true);
            x.see(0, 3, false);
            Due.is("26 used, of " + text, x.digest(), digestOf(x, ""));
        }
    }

    private static void promise26LettersOfThePage() {
        for (int letters : new int[] {0, 1, 2, 53, 54}) {
            WitnessWall bare = new WitnessWall();
            WitnessWall walled = Due.wall("wa0,fa1;a2");
            StringBuilder page = new StringBuilder();
            for (int place = 0; place < letters; place++) {
                char sign = place % 2 == 0 ? '~' : ' ';
                page.append(sign);
                bare.letter(sign);
                walled.letter(sign);
            }
            Due.is("26 without a wall, letters " + letters, bare.digest(), digestOf(bare, page.toString()));
            Due.is("26 with a wall, letters " + letters, walled.digest(), digestOf(walled, page.toString()));
            bare.blank();
            Due.is("26 no letters behind " + letters, bare.digest(), digestOf(bare, ""));
        }
    }

    /** "(as longs, wrapping)" */
    private static void promise26Wraps() {
        // 1361 times 31 nine times is below 2 to the 63; three letters more are above 2 to the 64.
        WitnessWall x = new WitnessWall();
        for (int letters = 0; letters <= 3; letters++) {
            Due.is("26 letters ahead of the counts: " + letters, x.digest(), digestOf(x, "~".repeat(letters)));
            x.letter('~');
        }
        Due.isTrue("26 it may be below 0", sawBelowZero());
    }

    private static boolean sawBelowZero() {
        WitnessWall x = new WitnessWall();
        boolean below = false;
        for (int letters = 0; letters < 54; letters++) {
            x.letter('~');
            below |= x.digest() < 0;
        }
        return below;
    }

    /** "An object is used for at most 512 calls after it has been made; what later calls answer is free." */
    private static void lastOf512Calls() {
        WitnessWall used = new WitnessWall();
        WitnessWall fresh = new WitnessWall();
        Refusal.busy().lead(used);
        Refusal.busy().lead(fresh);
        // The way of busy() is 37 letters, wall(), 10 calls, and 4 letters.
        int calls = 52;
        for (; calls < 511; calls++) {
            used.drawn(60, calls, calls % 3);
        }
        Due.is("the 512th call", used.digest(), fresh.digest());
        for (int later = 0; later < 512; later++) {
            used.show(0, later % 6, later % 4);
            used.letter('w');
        }
    }
}
