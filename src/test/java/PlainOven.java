import java.math.BigInteger;
import java.util.ArrayList;
import java.util.Collections;
import java.util.List;
import java.util.TreeSet;

/**
 * The document in its plainest form, minute by minute and by trying everything, with the library's help:
 * what BrickOven's answers are held against. It shares no code and no way of reckoning with it.
 */
final class PlainOven {
    static final int UNKNOWN = -1, OUTSIDE = -2, STATE = -3, FULL = -4, NO = -5, NONE = -6;
    static final long GONE = -1000000000000000000L;

    private static final class Loaf {
        final int sort;
        int baked;

        Loaf(int sort, int baked) {
            this.sort = sort;
            this.baked = baked;
        }
    }

    private static final class Kind {
        final int needs;
        final int bears;
        final int worth;

        Kind(int needs, int bears, int worth) {
            this.needs = needs;
            this.bears = bears;
            this.worth = worth;
        }
    }

    private static final class World {
        int rows = 2;
        int places = 4;
        int[] dials = {30, 1, 2};
        int[] less = new int[6];
        Kind[] kinds = new Kind[6];
        boolean[][] apart = new boolean[6][6];
        Loaf[][] loaves = new Loaf[4][6];
        int[] out = new int[4];
        List<Integer> sights = new ArrayList<>();
        boolean door = false;

        World copy() {
            World c = new World();
            c.rows = rows;
            c.places = places;
            c.dials = dials.clone();
            c.less = less.clone();
            c.kinds = kinds.clone();
            for (int i = 0; i < 6; i++) {
                c.apart[i] = apart[i].clone();
            }
            for (int row = 0; row < 4; row++) {
                for (int place = 0; place < 6; place++) {
                    Loaf loaf = loaves[row][place];
                    c.loaves[row][place] = loaf == null ? null : new Loaf(loaf.sort, loaf.baked);
                }
            }
            c.out = out.clone();
            c.sights = new ArrayList<>(sights);
            c.door = door;
            return c;
        }
    }

    private World w = new World();
    private String pad = "";
    private final World[] images = new World[2];

    // what playing the pad found
    private World after;
    private int badPart;
    private int badWhy;
    private int spoiltPart;
    private int partCount;

    int oven(int rows, int places) {
        if (rows < 1 || rows > 4 || places < 1 || places > 6) {
            return OUTSIDE;
        }
        World fresh = new World();
        fresh.rows = rows;
        fresh.places = places;
        fresh.dials = w.dials;
        fresh.kinds = w.kinds;
        fresh.apart = w.apart;
        w = fresh;
        return rows * places;
    }

    int set(int which, int v) {
        if (which < 0 || which > 2 || v < 0 || v > (which == 0 ? 99 : 9)) {
            return OUTSIDE;
        }
        int was = w.dials[which];
        w.dials[which] = v;
        return was;
    }

    private boolean noPlace(int place) {
        return place < 0 || place >= w.places;
    }

    private boolean noSort(int sort) {
        return sort < 0 || sort > 5 || w.kinds[sort] == null;
    }

    int less(int place, int v) {
        if (noPlace(place)) {
            return UNKNOWN;
        }
        if (v < 0 || v > 9) {
            return OUTSIDE;
        }
        int was = w.less[place];
        w.less[place] = v;
        return was;
    }

    int sort(int sort, int needs, int bears, int worth) {
        if (sort < 0 || sort > 5) {
            return UNKNOWN;
        }
        if (needs < 1 || needs > 500 || bears < 0 || bears > 500 || worth < 0 || worth > 99) {
            return OUTSIDE;
        }
        w.kinds[sort] = new Kind(needs, bears, worth);
        int n = 0;
        for (Kind kind : w.kinds) {
            n += kind == null ? 0 : 1;
        }
        return n;
    }

    int apart(int sort, int other, boolean is) {
        if (sort < 0 || sort > 5 || other < 0 || other > 5) {
            return UNKNOWN;
        }
        w.apart[sort][other] = is;
        w.apart[other][sort] = is;
        return 1;
    }

    int say(int sign) {
        if (sign < 33 || sign > 126) {
            return OUTSIDE;
        }
        if (pad.length() == 60) {
            return FULL;
        }
        pad += (char) sign;
        return pad.length();
    }

    int wipe() {
        int n = pad.length();
        pad = "";
        return n;
    }

    /** The first length at which the text is no beginning of a day any more. */
    int fault() {
        String part = "([0-" + (w.rows - 1) + "][a-f-]|[.:])*";
        for (int n = 1; n <= pad.length(); n++) {
            String begin = pad.substring(0, n);
            if (!begin.matches(part) && !(begin + "-").matches(part)) {
                return n - 1;
            }
        }
        return pad.matches(part) ? NONE : pad.length();
    }

    private int play() {
        if (fault() != NONE) {
            return NO;
        }
        after = w.copy();
        badPart = NONE;
        badWhy = NONE;
        spoiltPart = NONE;
        partCount = 0;
        String rest = pad;
        while (!rest.isEmpty()) {
            char head = rest.charAt(0);
            boolean wait = head == '.' || head == ':';
            if (wait) {
                for (int i = 0; i < (head == '.' ? 1 : 10); i++) {
                    minute(after);
                }
            } else if (!handle(after.loaves[head - '0'], rest.charAt(1))) {
                badPart = partCount;
                return STATE;
            }
            if (spoiltPart == NONE && standsBadly(after)) {
                spoiltPart = partCount;
            }
            partCount++;
            rest = rest.substring(wait ? 1 : 2);
        }
        return 0;
    }

    private boolean handle(Loaf[] row, char act) {
        int nearest = -1;
        for (int place = 0; place < after.places; place++) {
            if (row[place] != null) {
                nearest = place;
            }
        }
        if (act == '-') {
            if (nearest < 0) {
                badWhy = 3;
                return false;
            }
            comesOut(row[nearest]);
            row[nearest] = null;
        } else {
            int sort = act - 'a';
            if (after.kinds[sort] == null || nearest == after.places - 1) {
                badWhy = after.kinds[sort] == null ? 1 : 2;
                return false;
            }
            row[nearest + 1] = new Loaf(sort, 0);
        }
        after.door = true;
        return true;
    }

    private void comesOut(Loaf loaf) {
        Kind kind = after.kinds[loaf.sort];
        if (loaf.baked < kind.needs) {
            after.out[0]++;
        } else if (loaf.baked > kind.needs + kind.bears) {
            after.out[2]++;
        } else {
            after.out[1]++;
            after.out[3] += kind.worth;
        }
    }

    private static void minute(World o) {
        for (Loaf[] row : o.loaves) {
            for (int place = 0; place < 6; place++) {
                if (row[place] != null && o.dials[0] > o.less[place]) {
                    row[place].baked += o.dials[0] - o.less[place];
                }
            }
        }
        o.dials[0] -= o.dials[1];
        if (o.door) {
            o.dials[0] -= o.dials[2];
        }
        if (o.dials[0] < 0) {
            o.dials[0] = 0;
        }
        o.door = false;
    }

    private static boolean standsBadly(World o) {
        for (int a = 0; a < 24; a++) {
            for (int b = 0; b < 24; b++) {
                Loaf one = o.loaves[a / 6][a % 6];
                Loaf other = o.loaves[b / 6][b % 6];
                int distance = Math.abs(a / 6 - b / 6) + Math.abs(a % 6 - b % 6);
                if (distance == 1 && one != null && other != null && o.apart[one.sort][other.sort]) {
                    return true;
                }
            }
        }
        return false;
    }

    int judge(int what) {
        if (what < 0 || what > 5) {
            return OUTSIDE;
        }
        int refused = play();
        if (refused == NO) {
            return NO;
        }
        if (what < 2) {
            return what == 0 ? badPart : badWhy;
        }
        return refused != 0 ? refused : after.out[what - 2] - w.out[what - 2];
    }

    int heat() {
        int refused = play();
        return refused != 0 ? refused : after.dials[0];
    }

    private static int cell(World o, int row, int place, int what) {
        Loaf loaf = o.loaves[row][place];
        if (loaf == null) {
            return NONE;
        }
        return what == 0 ? loaf.sort : loaf.baked;
    }

    int behind(int row, int place, int what) {
        if (row < 0 || row >= w.rows || noPlace(place)) {
            return UNKNOWN;
        }
        if (what < 0 || what > 1) {
            return OUTSIDE;
        }
        int refused = play();
        return refused != 0 ? refused : cell(after, row, place, what);
    }

    int done() {
        int refused = play();
        if (refused != 0) {
            return refused;
        }
        w = after;
        pad = "";
        return partCount;
    }

    int out(int what) {
        return what < 0 || what > 3 ? OUTSIDE : w.out[what];
    }

    int state(int row, int place, int what) {
        if (row < 0 || row >= w.rows || noPlace(place)) {
            return UNKNOWN;
        }
        return what < 0 || what > 1 ? OUTSIDE : cell(w, row, place, what);
    }

    int spoilt() {
        int refused = play();
        return refused != 0 ? refused : spoiltPart;
    }

    /** BAKED behind each minute from 0 on, of a loaf put in a place at such a heat; nobody opens the door. */
    private int[] course(int heat, int place) {
        int[] baked = new int[1000];
        int hot = heat;
        for (int minute = 1; minute < 1000; minute++) {
            baked[minute] = baked[minute - 1] + (hot > w.less[place] ? hot - w.less[place] : 0);
            hot -= w.dials[1];
            if (hot < 0) {
                hot = 0;
            }
        }
        return baked;
    }

    private boolean isRipe(int sort, int baked) {
        Kind kind = w.kinds[sort];
        return baked >= kind.needs && baked <= kind.needs + kind.bears;
    }

    int ripe(int sort, int place, int what) {
        if (noSort(sort) || noPlace(place)) {
            return UNKNOWN;
        }
        if (what < 0 || what > 1) {
            return OUTSIDE;
        }
        int[] baked = course(w.dials[0], place);
        int answer = NONE;
        for (int minute = 1; minute < 1000; minute++) {
            if (isRipe(sort, baked[minute]) && (what == 1 || answer == NONE)) {
                answer = minute;
            }
        }
        return answer;
    }

    private int heatIn(int minutes) {
        int hot = w.dials[0];
        for (int i = 0; i < minutes; i++) {
            hot = Math.max(0, hot - w.dials[1]);
        }
        return hot;
    }

    int hot(int below) {
        if (below < 0 || below > 99) {
            return OUTSIDE;
        }
        for (int minute = 0; minute < 200; minute++) {
            if (heatIn(minute) < below) {
                return minute;
            }
        }
        return NONE;
    }

    int still(int m) {
        if (m < 0 || m > 999) {
            return OUTSIDE;
        }
        int bits = 0;
        for (int place = 0; place < w.places; place++) {
            int[] baked = course(heatIn(m), place);
            for (int sort = 0; sort < 6; sort++) {
                for (int minute = 1; minute < 1000 && !noSort(sort); minute++) {
                    if (isRipe(sort, baked[minute])) {
                        bits |= 1 << sort;
                    }
                }
            }
        }
        return bits;
    }

    private int refuseLoaves(int loaves, int what) {
        if (what < 0 || what > 2 || loaves < 0 || loaves > 666666) {
            return OUTSIDE;
        }
        for (char digit : text(loaves).toCharArray()) {
            if (noSort(digit - '1')) {
                return UNKNOWN;
            }
        }
        return 0;
    }

    private static String text(int loaves) {
        return loaves == 0 ? "" : Integer.toString(loaves);
    }

    private static int number(String order) {
        return order.isEmpty() ? 0 : Integer.parseInt(order);
    }

    private static void permute(String begun, String rest, TreeSet<String> all) {
        if (rest.isEmpty()) {
            all.add(begun);
        }
        for (int i = 0; i < rest.length(); i++) {
            permute(begun + rest.charAt(i), rest.substring(0, i) + rest.substring(i + 1), all);
        }
    }

    /** By place and minute how far baked, as course says. */
    private int[][] courses(int heat) {
        int[][] all = new int[w.places][];
        for (int place = 0; place < w.places; place++) {
            all[place] = course(heat, place);
        }
        return all;
    }

    /**
     * The soonest minute behind which all of an order are out; -1, if that can not be. Walks through the
     * minutes with every number of loaves that may have been taken by then.
     */
    private int soonestOut(String order, int[][] courses) {
        if (order.isEmpty()) {
            return 0;
        }
        if (order.length() > w.places) {
            return -1;
        }
        boolean[] left = new boolean[order.length() + 1];
        left[order.length()] = true;
        for (int minute = 1; minute < 1000; minute++) {
            for (int n = order.length(); n > 0; n--) {
                if (left[n] && isRipe(order.charAt(n - 1) - '1', courses[n - 1][minute])) {
                    left[n - 1] = true;
                }
            }
            if (left[0]) {
                return minute;
            }
        }
        return -1;
    }

    int orders(int loaves, int what) {
        int refused = refuseLoaves(loaves, what);
        if (refused != 0) {
            return refused;
        }
        TreeSet<String> all = new TreeSet<>();
        permute("", text(loaves), all);
        int[][] courses = courses(w.dials[0]);
        List<Integer> numbers = new ArrayList<>();
        List<Integer> minutes = new ArrayList<>();
        for (String order : all) {
            int minute = soonestOut(order, courses);
            if (minute >= 0) {
                numbers.add(number(order));
                minutes.add(minute);
            }
        }
        if (what == 0) {
            return numbers.size();
        }
        if (numbers.isEmpty()) {
            return NONE;
        }
        return Collections.min(what == 1 ? numbers : minutes);
    }

    private void share(String rest, String zero, String one, List<String[]> all) {
        if (rest.isEmpty()) {
            TreeSet<String> zeros = new TreeSet<>();
            TreeSet<String> ones = new TreeSet<>();
            permute("", zero, zeros);
            permute("", one, ones);
            for (String z : zeros) {
                for (String o : ones) {
                    all.add(new String[] {z, o});
                }
            }
            return;
        }
        String tail = rest.substring(1);
        share(tail, zero + rest.charAt(0), one, all);
        share(tail, zero, one + rest.charAt(0), all);
        share(tail, zero, one, all);
    }

    private int worthOf(String order) {
        int sum = 0;
        for (char digit : order.toCharArray()) {
            sum += w.kinds[digit - '1'].worth;
        }
        return sum;
    }

    int two(int loaves, int what) {
        int refused = refuseLoaves(loaves, what);
        if (refused != 0) {
            return refused;
        }
        if (loaves > 9999) {
            return FULL;
        }
        if (w.rows == 1) {
            return STATE;
        }
        List<String[]> all = new ArrayList<>();
        share(text(loaves), "", "", all);
        int[][] courses = courses(w.dials[0]);
        int[] best = null;
        for (String[] rows : all) {
            if (soonestOut(rows[0], courses) >= 0 && soonestOut(rows[1], courses) >= 0) {
                int[] found = {worthOf(rows[0]) + worthOf(rows[1]), number(rows[0]), number(rows[1])};
                if (best == null || found[0] > best[0]
                        || found[0] == best[0] && (found[1] < best[1] || found[1] == best[1] && found[2] < best[2])) {
                    best = found;
                }
            }
        }
        return best == null ? 0 : best[what];
    }

    int warm(int loaves) {
        int refused = refuseLoaves(loaves, 0);
        if (refused != 0) {
            return refused;
        }
        TreeSet<String> all = new TreeSet<>();
        permute("", text(loaves), all);
        for (int heat = 0; heat < 100; heat++) {
            int[][] courses = courses(heat);
            for (String order : all) {
                if (soonestOut(order, courses) >= 0) {
                    return heat;
                }
            }
        }
        return NONE;
    }

    int seen(int baked) {
        if (baked < 0 || baked > 5000) {
            return OUTSIDE;
        }
        if (w.sights.size() == 6) {
            return FULL;
        }
        w.sights.add(baked);
        return w.sights.size();
    }

    int forget() {
        int n = w.sights.size();
        w.sights.clear();
        return n;
    }

    private List<Integer> standings(int baked) {
        List<Integer> all = new ArrayList<>();
        for (int place = 0; place < w.places; place++) {
            int[] course = course(w.dials[0], place);
            for (int minute = 1; minute <= 99; minute++) {
                if (course[minute] == baked) {
                    all.add(100 * place + minute);
                }
            }
        }
        return all;
    }

    int stood(int sight, int i) {
        if (sight < 0 || sight >= w.sights.size()) {
            return OUTSIDE;
        }
        List<Integer> all = standings(w.sights.get(sight));
        if (i == -1) {
            return all.size();
        }
        return i < 0 || i >= all.size() ? NONE : all.get(i);
    }

    int both() {
        int bits = 0;
        for (int place = 0; place < w.places; place++) {
            int fitting = 0;
            for (int baked : w.sights) {
                final int hundred = place;
                fitting += standings(baked).stream().anyMatch(s -> s / 100 == hundred) ? 1 : 0;
            }
            bits |= fitting == w.sights.size() ? 1 << place : 0;
        }
        return bits;
    }

    private BigInteger chance(int sort, int place, int t, int m, int hot, int baked) {
        if (m == 0) {
            return isRipe(sort, baked) ? BigInteger.ONE : BigInteger.ZERO;
        }
        int more = baked + Math.max(0, hot - w.less[place]);
        int shut = Math.max(0, hot - w.dials[1]);
        int open = Math.max(0, hot - w.dials[1] - w.dials[2]);
        return chance(sort, place, t, m - 1, open, more).multiply(BigInteger.valueOf(t))
            .add(chance(sort, place, t, m - 1, shut, more).multiply(BigInteger.valueOf(10 - t)));
    }

    long winds(int sort, int place, int t, int m, int part) {
        if (noSort(sort) || noPlace(place)) {
            return GONE + UNKNOWN;
        }
        if (t < 0 || t > 10 || m < 0 || m > 10 || part < 0 || part > 1) {
            return GONE + OUTSIDE;
        }
        BigInteger upper = chance(sort, place, t, m, w.dials[0], 0);
        BigInteger lower = BigInteger.TEN.pow(m);
        BigInteger divisor = upper.gcd(lower);
        return (part == 0 ? upper : lower).divide(divisor).longValueExact();
    }

    int year(int seed, int m, int what) {
        if (seed < 0 || seed > 9999 || m < 1 || m > 99 || what < 0 || what > 3) {
            return OUTSIDE;
        }
        World kept = w;
        long x = seed;
        int[] sums = new int[4];
        for (int i = 0; i < m; i++) {
            x = (75 * x + 74) % 65537;
            int sort = (int) (x % 6);
            int place = (int) (x / 6 % kept.places);
            int minutes = (int) (x / 64 % 40) + 1;
            if (!noSort(sort)) {
                after = kept.copy();
                after.door = false;
                after.loaves = new Loaf[4][6];
                after.out = sums;
                Loaf loaf = new Loaf(sort, 0);
                after.loaves[0][place] = loaf;
                for (int minute = 0; minute < minutes; minute++) {
                    minute(after);
                }
                comesOut(loaf);
            }
        }
        return sums[what];
    }

    int image(int k) {
        if (k < 0 || k > 1) {
            return OUTSIDE;
        }
        images[k] = w.copy();
        return 1;
    }

    int restore(int k) {
        if (k < 0 || k > 1) {
            return OUTSIDE;
        }
        if (images[k] == null) {
            return STATE;
        }
        w = images[k].copy();
        return 1;
    }

    int told(int what) {
        int sorts = 0;
        for (int sort = 0; sort < 6; sort++) {
            sorts |= noSort(sort) ? 0 : 1 << sort;
        }
        int[] plain = {pad.length(), w.rows, w.places, w.dials[0], w.dials[1], w.dials[2], sorts, w.sights.size(),
            w.door ? 1 : 0};
        if (what >= 0 && what < plain.length) {
            return plain[what];
        }
        if (what >= 10 && what < 10 + w.places) {
            return w.less[what - 10];
        }
        if (what < 20 || what > 73 || noSort(what / 10 - 2) || what % 10 > 3) {
            return OUTSIDE;
        }
        int sort = what / 10 - 2;
        Kind kind = w.kinds[sort];
        int beside = 0;
        for (int other = 0; other < 6; other++) {
            beside |= w.apart[sort][other] ? 1 << other : 0;
        }
        return new int[] {kind.needs, kind.bears, kind.worth, beside}[what % 10];
    }
}
