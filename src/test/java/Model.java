import java.util.ArrayList;
import java.util.HashSet;
import java.util.List;
import java.util.Set;
import java.util.TreeSet;
import java.util.regex.Matcher;
import java.util.regex.Pattern;

/** The document told a second time, by trying out all there is: slow, and written unlike the class. */
final class Model {
    private static final int NONE = -1;
    private static final int UNKNOWN = -101;
    private static final int OUTSIDE = -102;
    private static final int STATE = -103;
    private static final int FULL = -104;
    private static final String KINDS = "wfbms";
    private static final Pattern WALL = Pattern.compile(
            "[wfbms]([a-f][0-3]){0,3}(,[wfbms]([a-f][0-3]){0,3}){0,4};([a-f][1-6](,[a-f][1-6]){0,3})?");
    private static final Set<Integer> HAPPENINGS = happenings();

    private String page = "";
    private List<Integer> kinds = new ArrayList<>();
    private List<List<Integer>> heads = new ArrayList<>();
    private List<int[]> cases = new ArrayList<>();
    private List<int[]> slips = new ArrayList<>();
    private List<int[]> seen = new ArrayList<>();
    private int shown = 0;
    private int walls = 0;
    private Model kept = null;

    private static boolean out(int number, int least, int greatest) {
        return number < least || number > greatest;
    }

    private boolean nobody(int witness) {
        return out(witness, 0, kinds.size() - 1);
    }

    private static List<List<Integer>> copyOf(List<List<Integer>> from) {
        List<List<Integer>> copy = new ArrayList<>();
        for (List<Integer> head : from) {
            copy.add(new ArrayList<>(head));
        }
        return copy;
    }

    int letter(int code) {
        if (out(code, 32, 126)) {
            return OUTSIDE;
        }
        if (page.length() == 54) {
            return FULL;
        }
        page += (char) code;
        return page.length();
    }

    int blank() {
        int had = page.length();
        page = "";
        return had;
    }

    private static boolean tellsTwice(String text) {
        int end = text.indexOf(';');
        for (String one : text.substring(0, end < 0 ? text.length() : end).split(",")) {
            Set<String> told = new HashSet<>();
            for (int place = 1; place + 1 < one.length(); place += 2) {
                if (!told.add(one.substring(place, place + 2))) {
                    return true;
                }
            }
        }
        return false;
    }

    private static boolean begins(String text) {
        Matcher matcher = WALL.matcher(text);
        return (matcher.matches() || matcher.hitEnd()) && !tellsTwice(text);
    }

    int fault() {
        for (int place = 0; place < page.length(); place++) {
            if (!begins(page.substring(0, place + 1))) {
                return place;
            }
        }
        return page.length();
    }

    int wall() {
        if (!WALL.matcher(page).matches() || tellsTwice(page)) {
            return STATE;
        }
        kinds.clear();
        heads.clear();
        cases.clear();
        slips.clear();
        seen.clear();
        shown = 0;
        kept = null;
        walls++;
        String[] halves = page.split(";");
        for (String one : halves[0].split(",")) {
            kinds.add(KINDS.indexOf(one.charAt(0)));
            List<Integer> head = new ArrayList<>();
            for (int place = 1; place < one.length(); place += 2) {
                head.add((one.charAt(place) - 'a') * 4 + one.charAt(place + 1) - '0');
            }
            heads.add(head);
        }
        for (String one : halves.length > 1 ? halves[1].split(",") : new String[0]) {
            cases.add(new int[] {one.charAt(0) - 'a', one.charAt(1) - '0'});
        }
        page = "";
        return kinds.size();
    }

    /** The head behind being shown a sight; the very same list, if it is not taken. */
    private static List<Integer> after(int kind, List<Integer> head, int sight) {
        boolean known = head.stream().anyMatch(has -> has / 4 == sight / 4);
        if (KINDS.charAt(kind) == 'b' || KINDS.charAt(kind) == 's' && known) {
            return head;
        }
        List<Integer> then = new ArrayList<>(head);
        then.removeIf(has -> has == sight
                || KINDS.charAt(kind) == 'f'
                || KINDS.charAt(kind) == 'm' && has / 4 == sight / 4);
        then.add(sight);
        if (then.size() == 4) {
            then.remove(0);
        }
        return then;
    }

    private boolean takes(List<List<Integer>> all, int witness, int sight) {
        List<Integer> head = all.get(witness);
        all.set(witness, after(kinds.get(witness), head, sight));
        return all.get(witness) != head;
    }

    /** What of 0 to 3 can happen to which kind (as 10 times the kind, and what), found by showing. */
    private static Set<Integer> happenings() {
        Set<Integer> found = new TreeSet<>();
        for (int kind = 0; kind < 5; kind++) {
            // Of two things and two colours: from a head as told by a text, and behind each showing.
            for (int first = 0; first < 8; first++) {
                for (int second = 0; second < 8; second++) {
                    List<Integer> told = List.of(first);
                    List<Integer> then = after(kind, told, second);
                    boolean taken = then != told;
                    if (taken && first / 4 != second / 4 && then.contains(first)) {
                        found.add(kind * 10);
                    }
                    if (taken && first / 4 == second / 4 && first != second) {
                        found.add(kind * 10 + 1);
                    }
                    if (taken) {
                        found.add(kind * 10 + 2);
                    }
                    List<Integer> bare = after(kind, after(kind, List.of(), first), second);
                    if (bare.size() == 2 && bare.get(0) / 4 == bare.get(1) / 4) {
                        found.add(kind * 10 + 3);
                    }
                }
            }
        }
        return found;
    }

    private static int teller(List<Integer> head, int thing) {
        int told = NONE;
        for (int sight : head) {
            told = sight / 4 == thing ? sight % 4 : told;
        }
        return told;
    }

    private static int sayers(List<List<Integer>> all, int thing, int colour) {
        return (int) all.stream().filter(head -> teller(head, thing) == colour).count();
    }

    private static int saidBy(List<List<Integer>> all, int thing) {
        for (int colour = 0; colour < 4; colour++) {
            boolean more = true;
            for (int other = 0; other < 4; other++) {
                more &= other == colour || sayers(all, thing, colour) > sayers(all, thing, other);
            }
            if (more) {
                return colour;
            }
        }
        return NONE;
    }

    private static int clashesIn(List<List<Integer>> all, int of) {
        int many = 0;
        for (int one = 0; one < all.size(); one++) {
            for (int other = one + 1; other < all.size(); other++) {
                for (int thing = 0; thing < 6; thing++) {
                    int told = teller(all.get(one), thing);
                    int toldToo = teller(all.get(other), thing);
                    boolean clash = told >= 0 && toldToo >= 0 && told != toldToo;
                    many += clash && (of == NONE || of == one || of == other) ? 1 : 0;
                }
            }
        }
        return many;
    }

    private List<List<Integer>> groupOf(int bits) {
        List<List<Integer>> group = new ArrayList<>();
        for (int one = 0; one < heads.size(); one++) {
            if ((bits >> one & 1) == 1) {
                group.add(heads.get(one));
            }
        }
        return group;
    }

    private Set<Integer> sorts(int witness) {
        Set<Integer> left = new TreeSet<>(List.of(0, 1, 2, 3, 4));
        for (int[] one : seen) {
            if (one[0] == witness) {
                left.removeIf(kind -> HAPPENINGS.contains(kind * 10 + one[1]) != (one[2] == 1));
            }
        }
        return left;
    }

    private int ask(int witness) {
        Set<Integer> left = sorts(witness);
        for (int worst = 1; worst <= 5 && !left.isEmpty(); worst++) {
            for (int what = 0; what < 4; what++) {
                int tried = what;
                long so = left.stream().filter(kind -> HAPPENINGS.contains(kind * 10 + tried)).count();
                if (so <= worst && left.size() - so <= worst) {
                    return what;
                }
            }
        }
        return NONE;
    }

    int witness(int witness, int what) {
        if (nobody(witness)) {
            return UNKNOWN;
        }
        List<Integer> head = heads.get(witness);
        switch (what) {
            case 0: return kinds.get(witness);
            case 1: return head.size();
            case 2: case 3: case 4: return head.size() > what - 2 ? head.get(what - 2) : NONE;
            case 5: return sorts(witness).stream().mapToInt(kind -> 1 << kind).sum();
            case 6: return ask(witness);
            case 7: return clashesIn(heads, witness);
            default: return OUTSIDE;
        }
    }

    int as(int witness, int kind) {
        if (nobody(witness)) {
            return UNKNOWN;
        }
        if (out(kind, 0, 4)) {
            return OUTSIDE;
        }
        String such = new String[] {"w", "wf", "wb", "wm", "wms"}[kinds.get(witness)];
        return such.indexOf(KINDS.charAt(kind)) >= 0 ? witness : NONE;
    }

    int tells(int witness, int thing) {
        return nobody(witness) ? UNKNOWN : out(thing, 0, 5) ? OUTSIDE : teller(heads.get(witness), thing);
    }

    int said(int thing) {
        return out(thing, 0, 5) ? OUTSIDE : kinds.isEmpty() ? STATE : saidBy(heads, thing);
    }

    int having(int thing, int colour) {
        if (out(thing, 0, 5) || out(colour, 0, 3)) {
            return OUTSIDE;
        }
        return kinds.isEmpty() ? STATE
                : (int) heads.stream().filter(head -> head.contains(thing * 4 + colour)).count();
    }

    int show(int witness, int thing, int colour) {
        if (nobody(witness)) {
            return UNKNOWN;
        }
        if (out(thing, 0, 5) || out(colour, 0, 3)) {
            return OUTSIDE;
        }
        if (shown == 9999) {
            return FULL;
        }
        shown++;
        return takes(heads, witness, thing * 4 + colour) ? 1 : 0;
    }

    int be(int witness, int kind) {
        return nobody(witness) ? UNKNOWN : out(kind, 0, 4) ? OUTSIDE : kinds.set(witness, kind);
    }

    int slip(int day, int witness, int thing, int colour) {
        if (out(day, 1, 6)) {
            return OUTSIDE;
        }
        if (nobody(witness)) {
            return UNKNOWN;
        }
        if (out(thing, 0, 5) || out(colour, 0, 3)) {
            return OUTSIDE;
        }
        if (slips.size() == 6) {
            return FULL;
        }
        slips.add(new int[] {day, witness, thing * 4 + colour});
        return slips.size();
    }

    int tear() {
        int had = slips.size();
        slips.clear();
        return had;
    }

    private List<List<List<Integer>>> termDays() {
        List<List<List<Integer>>> days = new ArrayList<>();
        List<List<Integer>> today = copyOf(heads);
        for (int day = 1; day <= 6; day++) {
            days.add(copyOf(today));
            for (int[] one : slips) {
                if (one[0] == day) {
                    takes(today, one[1], one[2]);
                }
            }
        }
        return days;
    }

    /** How many are won by an order; NONE, if it is none or one is heard that is not won. */
    private int wonBy(int order, boolean[][] won) {
        int many = 0;
        int heard = 0;
        int rest = order;
        for (int day = 6; day >= 1; day--) {
            int one = rest % 10 - 1;
            rest /= 10;
            if (one >= 0) {
                if (one >= cases.size() || (heard >> one & 1) == 1 || !won[day - 1][one]) {
                    return NONE;
                }
                heard |= 1 << one;
                many++;
            }
        }
        return many;
    }

    int term(int what) {
        if (out(what, 0, 1)) {
            return OUTSIDE;
        }
        if (kinds.isEmpty()) {
            return STATE;
        }
        boolean[][] won = new boolean[6][cases.size()];
        List<List<List<Integer>>> days = termDays();
        for (int day = 1; day <= 6; day++) {
            for (int one = 0; one < cases.size(); one++) {
                int[] due = cases.get(one);
                won[day - 1][one] = day <= due[1] && saidBy(days.get(day - 1), due[0]) != NONE;
            }
        }
        int most = 0;
        int best = 0;
        // All numbers of six digits 0 to 4, by rising size.
        for (int number = 0; number < 15625; number++) {
            int order = Integer.parseInt(Integer.toString(number, 5));
            int many = wonBy(order, won);
            if (many > most) {
                most = many;
                best = order;
            }
        }
        return what == 0 ? most : best;
    }

    /** The first of all groups, by how many and then by number, that keeps (or, sent away, gives peace). */
    private int firstGroup(boolean keeping) {
        for (int many = 0; many <= heads.size(); many++) {
            for (int bits = 0; bits < 1 << heads.size(); bits++) {
                boolean fits = Integer.bitCount(bits) == many;
                for (int thing = 0; thing < 6 && fits && keeping; thing++) {
                    fits = saidBy(groupOf(bits), thing) == saidBy(heads, thing);
                }
                if (fits && (keeping || clashesIn(groupOf(~bits), NONE) == 0)) {
                    return bits;
                }
            }
        }
        return NONE;
    }

    private int fewest(int what, boolean keeping) {
        if (out(what, 0, 1)) {
            return OUTSIDE;
        }
        if (kinds.isEmpty()) {
            return STATE;
        }
        int group = firstGroup(keeping);
        return what == 0 ? Integer.bitCount(group) : group;
    }

    int keep(int what) {
        return fewest(what, true);
    }

    int peace(int what) {
        return fewest(what, false);
    }

    private int worldsWhere(int wrong, int thing, int colour) {
        int many = 0;
        for (int world = 0; world < 4096; world++) {
            int so = world;
            long wrongOnes = heads.stream()
                    .filter(head -> head.stream().anyMatch(sight -> (so >> 2 * (sight / 4) & 3) != sight % 4))
                    .count();
            many += wrongOnes <= wrong && (thing == NONE || (world >> 2 * thing & 3) == colour) ? 1 : 0;
        }
        return many;
    }

    int worlds(int wrong) {
        return out(wrong, 0, 5) ? OUTSIDE : kinds.isEmpty() ? STATE : worldsWhere(wrong, NONE, NONE);
    }

    int odds(int thing, int colour, int wrong, int what) {
        if (out(thing, 0, 5) || out(colour, 0, 3) || out(wrong, 0, 5) || out(what, 0, 1)) {
            return OUTSIDE;
        }
        if (kinds.isEmpty()) {
            return STATE;
        }
        int above = worldsWhere(wrong, thing, colour);
        int below = worldsWhere(wrong, NONE, NONE);
        if (below == 0) {
            return what;
        }
        for (int by = 4096; by > 1; by--) {
            if (above % by == 0 && below % by == 0) {
                above /= by;
                below /= by;
            }
        }
        return what == 0 ? above : below;
    }

    int see(int witness, int what, boolean could) {
        if (nobody(witness)) {
            return UNKNOWN;
        }
        if (out(what, 0, 3)) {
            return OUTSIDE;
        }
        if (seen.size() == 6) {
            return FULL;
        }
        seen.add(new int[] {witness, what, could ? 1 : 0});
        return seen.size();
    }

    int forget() {
        int had = seen.size();
        seen.clear();
        return had;
    }

    int drawn(int times, int seed, int what) {
        if (out(times, 1, 60) || seed < 0 || out(what, 0, 2)) {
            return OUTSIDE;
        }
        if (kinds.isEmpty()) {
            return STATE;
        }
        List<List<Integer>> then = copyOf(heads);
        long[] draw = {seed, 0};
        int taken = 0;
        for (int time = 0; time < times; time++) {
            int witness = drawOf(draw, kinds.size());
            int thing = drawOf(draw, 6);
            taken += takes(then, witness, thing * 4 + drawOf(draw, 4)) ? 1 : 0;
        }
        return what == 0 ? taken : what == 1 ? clashesIn(then, NONE) : (int) draw[0];
    }

    private static int drawOf(long[] draw, int many) {
        draw[0] = Math.floorMod(1103515245L * draw[0] + 12345L, 1L << 31);
        return (int) (draw[0] / 65536 % many);
    }

    private void carryOver(Model from) {
        kinds = new ArrayList<>(from.kinds);
        heads = copyOf(from.heads);
        slips = new ArrayList<>(from.slips);
        seen = new ArrayList<>(from.seen);
        shown = from.shown;
    }

    int image() {
        if (kinds.isEmpty()) {
            return STATE;
        }
        kept = new Model();
        kept.carryOver(this);
        return shown;
    }

    int restore() {
        if (kept == null) {
            return STATE;
        }
        carryOver(kept);
        return shown;
    }

    int count(int what) {
        if (out(what, 0, 8)) {
            return OUTSIDE;
        }
        Set<Integer> together = new HashSet<>();
        heads.forEach(together::addAll);
        return new int[] {kinds.size(), cases.size(), slips.size(), together.size(), clashesIn(heads, NONE),
            shown, seen.size(), page.length(), walls}[what];
    }

    long digest() {
        List<Integer> told = new ArrayList<>();
        for (int one = 0; one < kinds.size(); one++) {
            for (int what = 0; what <= 7; what++) {
                told.add(witness(one, what));
            }
        }
        if (!kinds.isEmpty()) {
            for (int thing = 0; thing < 6; thing++) {
                told.add(said(thing));
            }
            told.addAll(List.of(term(0), term(1), keep(0), keep(1), peace(0), peace(1), worlds(1)));
        }
        page.chars().forEach(told::add);
        for (int what = 0; what <= 8; what++) {
            told.add(count(what));
        }
        long h = 1361L;
        for (int number : told) {
            h = 31L * h + number;
        }
        return h;
    }
}
