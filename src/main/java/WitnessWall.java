/**
 * Witnesses who are stored facing the wall: what they have in their heads, what they tell, and
 * what would come of it. The words in capitals are those of the document.
 *
 * <p>All rows are made by the constructor and used again: no later call makes an object.
 */
public final class WitnessWall {
    public static final int NONE = -1, UNKNOWN = -101, OUTSIDE = -102, STATE = -103, FULL = -104;

    private static final int THINGS = 6;
    private static final int COLOURS = 4;
    private static final int DAYS = 6;
    private static final int MAX_LETTERS = 54;
    private static final int MAX_WITNESSES = 5;
    private static final int MAX_SIGHTS = 3;
    private static final int MAX_CASES = 4;
    private static final int MAX_SLIPS = 6;
    private static final int MAX_SEEN = 6;
    private static final int MAX_SHOWN = 9999;
    private static final int MAX_TIMES = 60;

    /** How many groups of WITNESSES, told by bits, there are at most. */
    private static final int GROUPS = 1 << MAX_WITNESSES;

    /** How many sets of CASES, told by bits, there are at most. */
    private static final int CASE_SETS = 1 << MAX_CASES;

    private static final int PLAIN = 0;
    private static final int FRESH = 1;
    private static final int BLIND = 2;
    private static final int MIXED = 3;
    private static final int STEADY = 4;
    private static final int KINDS = 5;
    private static final int ALL_KINDS = (1 << KINDS) - 1;

    /** The letter of each KIND. */
    private static final char[] KIND_LETTERS = {'w', 'f', 'b', 'm', 's'};

    /** Of each of the four that can be SEEN: to which KINDS, as bits, it could happen. */
    private static final int[] COULD = {
        1 << PLAIN | 1 << MIXED | 1 << STEADY,
        1 << PLAIN | 1 << FRESH | 1 << MIXED,
        1 << PLAIN | 1 << FRESH | 1 << MIXED | 1 << STEADY,
        1 << PLAIN
    };

    private static final int TRIES = 4;

    private final Page page = new Page();
    private final Cases cases = new Cases();
    private final Scene now = new Scene();
    private final Scene kept = new Scene();
    private final Hall trial = new Hall();
    private final Term days = new Term();
    private final Worlds counting = new Worlds();
    private boolean isKept;
    private int wallsRead;

    public WitnessWall() {
        isKept = false;
        wallsRead = 0;
    }

    // ---- the wall

    public int letter(int code) {
        if (!isWithin(code, 32, 126)) {
            return OUTSIDE;
        }
        if (page.size >= MAX_LETTERS) {
            return FULL;
        }
        page.write(code);
        return page.size;
    }

    public int blank() {
        int had = page.size;
        page.size = 0;
        return had;
    }

    public int fault() {
        return page.read();
    }

    public int wall() {
        if (page.read() < page.size || !page.isWhole()) {
            return STATE;
        }
        now.beginWith(page.hall);
        cases.copyFrom(page.cases);
        isKept = false;
        wallsRead++;
        page.size = 0;
        return now.hall.size;
    }

    // ---- witnesses

    public int witness(int witness, int what) {
        if (!isWitness(witness)) {
            return UNKNOWN;
        }
        Witness one = now.hall.witnesses[witness];
        switch (what) {
            case 0:
                return one.kind;
            case 1:
                return one.size;
            case 2:
            case 3:
            case 4:
                return one.sightAt(what - 2);
            case 5:
                return now.seen.sortsOf(witness);
            case 6:
                return now.seen.askFor(witness);
            case 7:
                return now.hall.clashesOf(witness);
            default:
                return OUTSIDE;
        }
    }

    public int as(int witness, int kind) {
        if (!isWitness(witness)) {
            return UNKNOWN;
        }
        if (!isWithin(kind, 0, KINDS - 1)) {
            return OUTSIDE;
        }
        return now.hall.witnesses[witness].isSuch(kind) ? witness : NONE;
    }

    public int tells(int witness, int thing) {
        if (!isWitness(witness)) {
            return UNKNOWN;
        }
        if (!isThing(thing)) {
            return OUTSIDE;
        }
        return now.hall.witnesses[witness].colourOf(thing);
    }

    public int said(int thing) {
        if (!isThing(thing)) {
            return OUTSIDE;
        }
        if (!hasWall()) {
            return STATE;
        }
        return now.hall.saidAmong(now.hall.everyone(), thing);
    }

    public int having(int thing, int colour) {
        if (!isThing(thing) || !isColour(colour)) {
            return OUTSIDE;
        }
        if (!hasWall()) {
            return STATE;
        }
        return now.hall.havingSight(thing * COLOURS + colour);
    }

    // ---- what is done

    public int show(int witness, int thing, int colour) {
        if (!isWitness(witness)) {
            return UNKNOWN;
        }
        if (!isThing(thing) || !isColour(colour)) {
            return OUTSIDE;
        }
        if (now.shown >= MAX_SHOWN) {
            return FULL;
        }
        now.shown++;
        return now.hall.witnesses[witness].meets(thing * COLOURS + colour) ? 1 : 0;
    }

    public int be(int witness, int kind) {
        if (!isWitness(witness)) {
            return UNKNOWN;
        }
        if (!isWithin(kind, 0, KINDS - 1)) {
            return OUTSIDE;
        }
        Witness one = now.hall.witnesses[witness];
        int was = one.kind;
        one.kind = kind;
        return was;
    }

    public int slip(int day, int witness, int thing, int colour) {
        if (!isWithin(day, 1, DAYS)) {
            return OUTSIDE;
        }
        if (!isWitness(witness)) {
            return UNKNOWN;
        }
        if (!isThing(thing) || !isColour(colour)) {
            return OUTSIDE;
        }
        if (now.slips.size >= MAX_SLIPS) {
            return FULL;
        }
        now.slips.add(day, witness, thing * COLOURS + colour);
        return now.slips.size;
    }

    public int tear() {
        int had = now.slips.size;
        now.slips.size = 0;
        return had;
    }

    // ---- what would be

    public int term(int what) {
        if (!isWithin(what, 0, 1)) {
            return OUTSIDE;
        }
        if (!hasWall()) {
            return STATE;
        }
        trial.copyFrom(now.hall);
        days.goBy(cases, trial, now.slips);
        return what == 0 ? days.mostWon() : days.leastOrder();
    }

    public int keep(int what) {
        if (!isWithin(what, 0, 1)) {
            return OUTSIDE;
        }
        if (!hasWall()) {
            return STATE;
        }
        int group = now.hall.fewestToKeep();
        return what == 0 ? Integer.bitCount(group) : group;
    }

    public int peace(int what) {
        if (!isWithin(what, 0, 1)) {
            return OUTSIDE;
        }
        if (!hasWall()) {
            return STATE;
        }
        int group = now.hall.fewestToSendAway();
        return what == 0 ? Integer.bitCount(group) : group;
    }

    public int worlds(int wrong) {
        if (!isWithin(wrong, 0, MAX_WITNESSES)) {
            return OUTSIDE;
        }
        if (!hasWall()) {
            return STATE;
        }
        return counting.howMany(now.hall, wrong, NONE, NONE);
    }

    public int odds(int thing, int colour, int wrong, int what) {
        if (!isThing(thing) || !isColour(colour)) {
            return OUTSIDE;
        }
        if (!isWithin(wrong, 0, MAX_WITNESSES) || !isWithin(what, 0, 1)) {
            return OUTSIDE;
        }
        if (!hasWall()) {
            return STATE;
        }
        int above = counting.howMany(now.hall, wrong, thing, colour);
        int below = counting.howMany(now.hall, wrong, NONE, NONE);
        int measure = commonMeasure(above, below);
        if (measure < 1) {
            return what == 0 ? 0 : 1;
        }
        return what == 0 ? above / measure : below / measure;
    }

    // ---- what is seen

    public int see(int witness, int what, boolean could) {
        if (!isWitness(witness)) {
            return UNKNOWN;
        }
        if (!isWithin(what, 0, TRIES - 1)) {
            return OUTSIDE;
        }
        if (now.seen.size >= MAX_SEEN) {
            return FULL;
        }
        now.seen.add(witness, what, could);
        return now.seen.size;
    }

    public int forget() {
        int had = now.seen.size;
        now.seen.size = 0;
        return had;
    }

    public int drawn(int times, int seed, int what) {
        if (!isWithin(times, 1, MAX_TIMES) || seed < 0 || !isWithin(what, 0, 2)) {
            return OUTSIDE;
        }
        if (!hasWall()) {
            return STATE;
        }
        trial.copyFrom(now.hall);
        int taken = 0;
        int next = seed;
        for (int time = 0; time < times; time++) {
            next = seedAfter(next);
            int witness = drawOf(trial.size, next);
            next = seedAfter(next);
            int thing = drawOf(THINGS, next);
            next = seedAfter(next);
            int colour = drawOf(COLOURS, next);
            if (trial.witnesses[witness].meets(thing * COLOURS + colour)) {
                taken++;
            }
        }
        if (what == 0) {
            return taken;
        }
        return what == 1 ? trial.clashesAmong(trial.everyone()) : next;
    }

    // ---- what is told of all

    public int image() {
        if (!hasWall()) {
            return STATE;
        }
        kept.copyFrom(now);
        isKept = true;
        return now.shown;
    }

    public int restore() {
        if (!isKept) {
            return STATE;
        }
        now.copyFrom(kept);
        return now.shown;
    }

    public int count(int what) {
        switch (what) {
            case 0:
                return now.hall.size;
            case 1:
                return cases.size;
            case 2:
                return now.slips.size;
            case 3:
                return now.hall.unlikeSights();
            case 4:
                return now.hall.clashesAmong(now.hall.everyone());
            case 5:
                return now.shown;
            case 6:
                return now.seen.size;
            case 7:
                return page.size;
            case 8:
                return wallsRead;
            default:
                return OUTSIDE;
        }
    }

    public long digest() {
        long h = 1361L;
        for (int one = 0; one < now.hall.size; one++) {
            for (int what = 0; what <= 7; what++) {
                h = 31L * h + witness(one, what);
            }
        }
        if (hasWall()) {
            for (int thing = 0; thing < THINGS; thing++) {
                h = 31L * h + said(thing);
            }
            h = 31L * h + term(0);
            h = 31L * h + term(1);
            h = 31L * h + keep(0);
            h = 31L * h + keep(1);
            h = 31L * h + peace(0);
            h = 31L * h + peace(1);
            h = 31L * h + worlds(1);
        }
        for (int place = 0; place < page.size; place++) {
            h = 31L * h + page.letters[place];
        }
        for (int what = 0; what <= 8; what++) {
            h = 31L * h + count(what);
        }
        return h;
    }

    private boolean hasWall() {
        return now.hall.size > 0;
    }

    private boolean isWitness(int number) {
        return isWithin(number, 0, now.hall.size - 1);
    }

    private static boolean isThing(int number) {
        return isWithin(number, 0, THINGS - 1);
    }

    private static boolean isColour(int number) {
        return isWithin(number, 0, COLOURS - 1);
    }

    private static boolean isWithin(int number, int least, int greatest) {
        return number >= least && number <= greatest;
    }

    private static int seedAfter(int seed) {
        // The lower 31 bits are the rest by 2 to the 31, whatever the product wraps to.
        return (1103515245 * seed + 12345) & 0x7fffffff;
    }

    private static int drawOf(int many, int seed) {
        return many < 1 ? 0 : (seed / 65536) % many;
    }

    private static int commonMeasure(int one, int other) {
        int greater = one;
        int less = other;
        for (int step = 0; step < 64 && less != 0; step++) {
            int rest = greater % less;
            greater = less;
            less = rest;
        }
        return greater;
    }

    /** A WITNESS: his KIND and the SIGHTS he has, each told as 4 times the THING, and the COLOUR. */
    private static final class Witness {
        private final int[] sights = new int[MAX_SIGHTS];
        private int size;
        private int kind;

        void beginAs(int newKind) {
            kind = newKind;
            size = 0;
        }

        void copyFrom(Witness other) {
            kind = other.kind;
            size = other.size;
            for (int place = 0; place < MAX_SIGHTS; place++) {
                sights[place] = other.sights[place];
            }
        }

        boolean isSuch(int asked) {
            return asked == PLAIN || asked == kind || (asked == MIXED && kind == STEADY);
        }

        boolean hasSight(int sight) {
            for (int place = 0; place < size; place++) {
                if (sights[place] == sight) {
                    return true;
                }
            }
            return false;
        }

        boolean hasOtherColour(int thing, int colour) {
            for (int place = 0; place < size; place++) {
                if (sights[place] / COLOURS == thing && sights[place] % COLOURS != colour) {
                    return true;
                }
            }
            return false;
        }

        int sightAt(int place) {
            return place >= 0 && place < size ? sights[place] : NONE;
        }

        int colourOf(int thing) {
            for (int place = size - 1; place >= 0; place--) {
                if (sights[place] / COLOURS == thing) {
                    return sights[place] % COLOURS;
                }
            }
            return NONE;
        }

        /** He is SHOWN a SIGHT: whether he TAKES it. */
        boolean meets(int sight) {
            int thing = sight / COLOURS;
            switch (kind) {
                case FRESH:
                    size = 0;
                    break;
                case BLIND:
                    return false;
                case MIXED:
                    dropBetween(thing * COLOURS, thing * COLOURS + COLOURS - 1);
                    break;
                case STEADY:
                    if (colourOf(thing) != NONE) {
                        return false;
                    }
                    break;
                default:
                    dropBetween(sight, sight);
                    break;
            }
            add(sight);
            return true;
        }

        void add(int sight) {
            // His SIGHTS are unlike, so this drops the oldest alone.
            if (size >= MAX_SIGHTS) {
                dropBetween(sights[0], sights[0]);
            }
            if (size < MAX_SIGHTS) {
                sights[size] = sight;
                size++;
            }
        }

        void dropBetween(int least, int greatest) {
            int left = 0;
            for (int place = 0; place < size; place++) {
                if (sights[place] < least || sights[place] > greatest) {
                    sights[left] = sights[place];
                    left++;
                }
            }
            size = left;
        }
    }

    /** The WITNESSES side by side. A group of them is told by bits. */
    private static final class Hall {
        private final Witness[] witnesses = new Witness[MAX_WITNESSES];
        private final int[] tally = new int[COLOURS];
        private int size;

        Hall() {
            for (int one = 0; one < MAX_WITNESSES; one++) {
                witnesses[one] = new Witness();
            }
            size = 0;
        }

        void copyFrom(Hall other) {
            size = other.size;
            for (int one = 0; one < size; one++) {
                witnesses[one].copyFrom(other.witnesses[one]);
            }
        }

        void add(int kind) {
            if (size < MAX_WITNESSES) {
                witnesses[size].beginAs(kind);
                size++;
            }
        }

        int everyone() {
            return (1 << size) - 1;
        }

        int havingSight(int sight) {
            int many = 0;
            for (int one = 0; one < size; one++) {
                if (witnesses[one].hasSight(sight)) {
                    many++;
                }
            }
            return many;
        }

        int unlikeSights() {
            int many = 0;
            for (int sight = 0; sight < THINGS * COLOURS; sight++) {
                if (havingSight(sight) > 0) {
                    many++;
                }
            }
            return many;
        }

        /** What would be SAID of a THING if there were this group alone. */
        int saidAmong(int group, int thing) {
            countTellers(group, thing);
            int best = NONE;
            int most = 0;
            for (int colour = 0; colour < COLOURS; colour++) {
                if (tally[colour] > most) {
                    best = colour;
                    most = tally[colour];
                } else if (tally[colour] == most) {
                    best = NONE;
                }
            }
            return best;
        }

        void countTellers(int group, int thing) {
            for (int colour = 0; colour < COLOURS; colour++) {
                tally[colour] = 0;
            }
            for (int one = 0; one < size; one++) {
                int told = witnesses[one].colourOf(thing);
                if ((group >> one & 1) == 1 && told >= 0 && told < COLOURS) {
                    tally[told]++;
                }
            }
        }

        int clashesBetween(int one, int other) {
            int many = 0;
            for (int thing = 0; thing < THINGS; thing++) {
                int told = witnesses[one].colourOf(thing);
                int toldByOther = witnesses[other].colourOf(thing);
                if (told != NONE && toldByOther != NONE && told != toldByOther) {
                    many++;
                }
            }
            return many;
        }

        int clashesOf(int one) {
            int many = 0;
            for (int other = 0; other < size; other++) {
                many += clashesBetween(one, other);
            }
            return many;
        }

        int clashesAmong(int group) {
            int many = 0;
            for (int other = 1; other < size; other++) {
                for (int one = 0; one < other; one++) {
                    if ((group >> one & 1) == 1 && (group >> other & 1) == 1) {
                        many += clashesBetween(one, other);
                    }
                }
            }
            return many;
        }

        /** KEEP. The groups come by rising number, so the first of as many is the least. */
        int fewestToKeep() {
            int best = everyone();
            int fewest = size;
            for (int group = 0; group < everyone(); group++) {
                if (Integer.bitCount(group) < fewest && saysTheSame(group)) {
                    best = group;
                    fewest = Integer.bitCount(group);
                }
            }
            return best;
        }

        boolean saysTheSame(int group) {
            for (int thing = 0; thing < THINGS; thing++) {
                if (saidAmong(group, thing) != saidAmong(everyone(), thing)) {
                    return false;
                }
            }
            return true;
        }

        /** PEACE. The groups come by rising number, so the first of as many is the least. */
        int fewestToSendAway() {
            int best = everyone();
            int fewest = size;
            for (int group = 0; group < everyone(); group++) {
                if (Integer.bitCount(group) < fewest && clashesAmong(everyone() & ~group) == 0) {
                    best = group;
                    fewest = Integer.bitCount(group);
                }
            }
            return best;
        }

        /** Who, as bits, is WRONG by this THING alone, if it had this COLOUR. */
        int wrongBy(int thing, int colour) {
            int wrong = 0;
            for (int one = 0; one < size; one++) {
                if (witnesses[one].hasOtherColour(thing, colour)) {
                    wrong |= 1 << one;
                }
            }
            return wrong;
        }
    }

    /** The CASES of THE WALL. */
    private static final class Cases {
        private final int[] things = new int[MAX_CASES];
        private final int[] dues = new int[MAX_CASES];
        private int size;

        void add(int thing, int due) {
            if (size < MAX_CASES) {
                things[size] = thing;
                dues[size] = due;
                size++;
            }
        }

        void copyFrom(Cases other) {
            size = other.size;
            for (int one = 0; one < MAX_CASES; one++) {
                things[one] = other.things[one];
                dues[one] = other.dues[one];
            }
        }
    }

    /** The SLIPS in the order they were told. */
    private static final class Slips {
        private final int[] days = new int[MAX_SLIPS];
        private final int[] witnesses = new int[MAX_SLIPS];
        private final int[] sights = new int[MAX_SLIPS];
        private int size;

        void add(int day, int witness, int sight) {
            if (size < MAX_SLIPS) {
                days[size] = day;
                witnesses[size] = witness;
                sights[size] = sight;
                size++;
            }
        }

        void copyFrom(Slips other) {
            size = other.size;
            for (int one = 0; one < MAX_SLIPS; one++) {
                days[one] = other.days[one];
                witnesses[one] = other.witnesses[one];
                sights[one] = other.sights[one];
            }
        }

        void comeIn(int day, Hall hall) {
            for (int one = 0; one < size; one++) {
                if (days[one] == day && isWithin(witnesses[one], 0, hall.size - 1)) {
                    hall.witnesses[witnesses[one]].meets(sights[one]);
                }
            }
        }
    }

    /** What is SEEN: of whom, and which KINDS, as bits, each leaves. */
    private static final class Seen {
        private final int[] witnesses = new int[MAX_SEEN];
        private final int[] leaves = new int[MAX_SEEN];
        private int size;

        void add(int witness, int what, boolean could) {
            if (size < MAX_SEEN) {
                witnesses[size] = witness;
                leaves[size] = could ? COULD[what] : ALL_KINDS & ~COULD[what];
                size++;
            }
        }

        void copyFrom(Seen other) {
            size = other.size;
            for (int one = 0; one < MAX_SEEN; one++) {
                witnesses[one] = other.witnesses[one];
                leaves[one] = other.leaves[one];
            }
        }

        int sortsOf(int witness) {
            int sorts = ALL_KINDS;
            for (int one = 0; one < size; one++) {
                if (witnesses[one] == witness) {
                    sorts &= leaves[one];
                }
            }
            return sorts;
        }

        int askFor(int witness) {
            int sorts = sortsOf(witness);
            int best = NONE;
            int fewest = KINDS + 1;
            for (int what = 0; what < TRIES; what++) {
                int ifSo = Integer.bitCount(sorts & COULD[what]);
                int ifNot = Integer.bitCount(sorts & ~COULD[what]);
                int atWorst = Math.max(ifSo, ifNot);
                if (atWorst < fewest) {
                    best = what;
                    fewest = atWorst;
                }
            }
            return sorts == 0 ? NONE : best;
        }
    }

    /** All that an IMAGE keeps. */
    private static final class Scene {
        private final Hall hall = new Hall();
        private final Slips slips = new Slips();
        private final Seen seen = new Seen();
        private int shown;

        void beginWith(Hall read) {
            hall.copyFrom(read);
            slips.size = 0;
            seen.size = 0;
            shown = 0;
        }

        void copyFrom(Scene other) {
            hall.copyFrom(other.hall);
            slips.copyFrom(other.slips);
            seen.copyFrom(other.seen);
            shown = other.shown;
        }
    }

    /** THE PAGE, and what has been read of it so far. */
    private static final class Page {
        private static final int AT_KIND = 0;
        private static final int IN_WITNESS = 1;
        private static final int AT_COLOUR = 2;
        private static final int AT_FIRST_CASE = 3;
        private static final int AT_NEXT_CASE = 4;
        private static final int AT_DUE = 5;
        private static final int BEHIND_CASE = 6;

        private final int[] letters = new int[MAX_LETTERS];
        private final Hall hall = new Hall();
        private final Cases cases = new Cases();
        private int size;
        private int awaited;
        private int thing;

        void write(int code) {
            if (size < MAX_LETTERS) {
                letters[size] = code;
                size++;
            }
        }

        /** The place of the first letter that no WALL has there, or how many letters there are. */
        int read() {
            hall.size = 0;
            cases.size = 0;
            awaited = AT_KIND;
            for (int place = 0; place < size; place++) {
                if (!accepts(letters[place])) {
                    return place;
                }
            }
            return size;
        }

        /** Whether a WALL may end behind what has been read. */
        boolean isWhole() {
            return awaited == AT_FIRST_CASE || awaited == BEHIND_CASE;
        }

        boolean accepts(int letter) {
            switch (awaited) {
                case AT_KIND:
                    return acceptsKind(letter);
                case IN_WITNESS:
                    return acceptsInWitness(letter);
                case AT_COLOUR:
                    return acceptsColour(letter);
                case AT_FIRST_CASE:
                case AT_NEXT_CASE:
                    return acceptsThing(letter, AT_DUE);
                case AT_DUE:
                    return acceptsDue(letter);
                default:
                    return acceptsBehindCase(letter);
            }
        }

        boolean acceptsKind(int letter) {
            for (int kind = 0; kind < KINDS; kind++) {
                if (KIND_LETTERS[kind] == letter) {
                    hall.add(kind);
                    awaited = IN_WITNESS;
                    return true;
                }
            }
            return false;
        }

        boolean acceptsInWitness(int letter) {
            if (letter == ';') {
                awaited = AT_FIRST_CASE;
                return true;
            }
            if (letter == ',' && hall.size < MAX_WITNESSES) {
                awaited = AT_KIND;
                return true;
            }
            return latest().size < MAX_SIGHTS && acceptsThing(letter, AT_COLOUR);
        }

        boolean acceptsThing(int letter, int awaitedThen) {
            if (!isThing(letter - 'a')) {
                return false;
            }
            thing = letter - 'a';
            awaited = awaitedThen;
            return true;
        }

        boolean acceptsColour(int letter) {
            int colour = letter - '0';
            int sight = thing * COLOURS + colour;
            if (!isColour(colour) || latest().hasSight(sight)) {
                return false;
            }
            latest().add(sight);
            awaited = IN_WITNESS;
            return true;
        }

        boolean acceptsDue(int letter) {
            int due = letter - '0';
            if (!isWithin(due, 1, DAYS)) {
                return false;
            }
            cases.add(thing, due);
            awaited = BEHIND_CASE;
            return true;
        }

        boolean acceptsBehindCase(int letter) {
            if (letter != ',' || cases.size >= MAX_CASES) {
                return false;
            }
            awaited = AT_NEXT_CASE;
            return true;
        }

        Witness latest() {
            return hall.witnesses[Math.max(hall.size - 1, 0)];
        }
    }

    /** A TERM as it would be: on which DAY which CASES could be WON. */
    private static final class Term {
        /** By the DAY: the CASES, as bits, that would be WON if they were HEARD on it. */
        private final int[] winnable = new int[DAYS + 1];

        /** By the DAY and the CASES HEARD ahead of it: how many can yet be WON from that DAY on. */
        private final int[] most = new int[(DAYS + 2) * CASE_SETS];

        /** The hall is changed by the SLIPS. */
        void goBy(Cases cases, Hall hall, Slips slips) {
            for (int day = 1; day <= DAYS; day++) {
                winnable[day] = winnableOn(day, cases, hall);
                slips.comeIn(day, hall);
            }
            for (int day = DAYS; day >= 1; day--) {
                for (int heard = 0; heard < CASE_SETS; heard++) {
                    most[day * CASE_SETS + heard] = mostFrom(day, heard);
                }
            }
        }

        int winnableOn(int day, Cases cases, Hall hall) {
            int set = 0;
            for (int one = 0; one < cases.size; one++) {
                if (cases.dues[one] >= day
                        && hall.saidAmong(hall.everyone(), cases.things[one]) != NONE) {
                    set |= 1 << one;
                }
            }
            return set;
        }

        int mostFrom(int day, int heard) {
            int best = 0;
            for (int choice = 0; choice <= MAX_CASES; choice++) {
                best = Math.max(best, wonBy(choice, day, heard));
            }
            return best;
        }

        /** How many are WON from a DAY on by a choice for it: 0 none, else the CASE and 1 more. */
        int wonBy(int choice, int day, int heard) {
            int later = (day + 1) * CASE_SETS;
            if (choice == 0) {
                return most[later + heard];
            }
            int bit = 1 << (choice - 1);
            boolean canBeWon = (winnable[day] & ~heard & bit) != 0;
            return canBeWon ? 1 + most[later + (heard | bit)] : NONE;
        }

        int mostWon() {
            return most[CASE_SETS];
        }

        /** ORDER: on each DAY the least digit by which as many can be WON as by any. */
        int leastOrder() {
            int order = 0;
            int heard = 0;
            for (int day = 1; day <= DAYS; day++) {
                int choice = leastChoice(day, heard);
                order = order * 10 + choice;
                heard |= choice == 0 ? 0 : 1 << (choice - 1);
            }
            return order;
        }

        int leastChoice(int day, int heard) {
            for (int choice = 0; choice < MAX_CASES; choice++) {
                if (wonBy(choice, day, heard) == most[day * CASE_SETS + heard]) {
                    return choice;
                }
            }
            return MAX_CASES;
        }
    }

    /** The WORLDS, counted THING by THING by who is WRONG in them so far. */
    private static final class Worlds {
        private final int[] ways = new int[GROUPS];
        private final int[] waysThen = new int[GROUPS];

        /** WORLDS by a number; of these, if a THING is told (not NONE), those where it had the COLOUR. */
        int howMany(Hall hall, int wrong, int thing, int colour) {
            for (int group = 0; group < GROUPS; group++) {
                ways[group] = group == 0 ? 1 : 0;
            }
            for (int each = 0; each < THINGS; each++) {
                tellOf(hall, each, each == thing ? colour : NONE);
            }
            int many = 0;
            for (int group = 0; group < GROUPS; group++) {
                if (Integer.bitCount(group) <= wrong) {
                    many += ways[group];
                }
            }
            return many;
        }

        void tellOf(Hall hall, int thing, int only) {
            for (int group = 0; group < GROUPS; group++) {
                waysThen[group] = 0;
            }
            for (int colour = 0; colour < COLOURS; colour++) {
                if (only == NONE || only == colour) {
                    int wrongToo = hall.wrongBy(thing, colour);
                    for (int group = 0; group < GROUPS; group++) {
                        waysThen[group | wrongToo] += ways[group];
                    }
                }
            }
            for (int group = 0; group < GROUPS; group++) {
                ways[group] = waysThen[group];
            }
        }
    }
}
