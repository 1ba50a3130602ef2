import java.util.Arrays;

/**
 * A brick oven that only cools: rows of places from the back to the mouth, sorts of loaves, days told as
 * small texts, and what can still be baked. Every array is made with the object and used again: of all calls
 * only the first image of a number makes something new.
 */
public final class BrickOven {
    public static final int UNKNOWN = -1, OUTSIDE = -2, STATE = -3, FULL = -4, NO = -5, NONE = -6;
    public static final long GONE = -1000000000000000000L;

    private static final int MOST_ROWS = 4;
    private static final int MOST_PLACES = 6;
    private static final int KINDS = 6;
    private static final int MOST_HEAT = 99;
    private static final int MOST_SIGNS = 60;
    private static final int MOST_SIGHTS = 6;
    private static final int MOST_IMAGES = 2;
    private static final int LAST_MINUTE = 999;
    private static final int LAST_STAY = 99;

    private static final int MOST_LOAVES = 6;
    private static final int MOST_LOAVES_OF_TWO = 4;
    private static final int GREATEST_NUMBER = 666666;
    private static final int MOST_ORDERS = 720;

    private static final int NO_SUCH_SORT = 1, ROW_IS_FULL = 2, ROW_IS_EMPTY = 3;
    private static final int RAW = 0, RIPE = 1, BURNT = 2, WORTH = 3;

    private final Bakery now = new Bakery();
    private final Bakery[] images = new Bakery[MOST_IMAGES];
    private final Pad pad = new Pad();
    private final Day day = new Day();
    private final Batch batch = new Batch();

    public BrickOven() {
    }

    // ---- 1 ovens, sorts

    public int oven(int rows, int places) {
        if (!within(rows, 1, MOST_ROWS) || !within(places, 1, MOST_PLACES)) {
            return OUTSIDE;
        }
        now.oven.rebuild(rows, places);
        now.sights.many = 0;
        return rows * places;
    }

    public int set(int which, int v) {
        if (!within(which, 0, 2) || !within(v, 0, which == 0 ? MOST_HEAT : 9)) {
            return OUTSIDE;
        }
        Oven oven = now.oven;
        int was;
        if (which == 0) {
            was = oven.heat;
            oven.heat = v;
        } else if (which == 1) {
            was = oven.cools;
            oven.cools = v;
        } else {
            was = oven.doorCost;
            oven.doorCost = v;
        }
        return was;
    }

    public int less(int place, int v) {
        if (!now.oven.hasPlace(place)) {
            return UNKNOWN;
        }
        if (!within(v, 0, 9)) {
            return OUTSIDE;
        }
        int was = now.oven.lessAt[place];
        now.oven.lessAt[place] = v;
        return was;
    }

    public int sort(int sort, int needs, int bears, int worth) {
        if (!isKind(sort)) {
            return UNKNOWN;
        }
        if (!within(needs, 1, 500) || !within(bears, 0, 500) || !within(worth, 0, 99)) {
            return OUTSIDE;
        }
        Sorts sorts = now.sorts;
        sorts.there |= 1 << sort;
        sorts.needs[sort] = needs;
        sorts.bears[sort] = bears;
        sorts.worth[sort] = worth;
        return Integer.bitCount(sorts.there);
    }

    public int apart(int sort, int other, boolean is) {
        if (!isKind(sort) || !isKind(other)) {
            return UNKNOWN;
        }
        now.sorts.tellApart(sort, other, is);
        return 1;
    }

    public int say(int sign) {
        if (!within(sign, 33, 126)) {
            return OUTSIDE;
        }
        if (pad.many >= MOST_SIGNS) {
            return FULL;
        }
        pad.signs[pad.many] = sign;
        pad.many++;
        return pad.many;
    }

    public int wipe() {
        int were = pad.many;
        pad.many = 0;
        return were;
    }

    public int fault() {
        return pad.firstFault(now.oven.rows);
    }

    // ---- 2 days

    public int judge(int what) {
        if (!within(what, 0, 5)) {
            return OUTSIDE;
        }
        int refusal = playDay();
        if (refusal == NO) {
            return NO;
        }
        if (what == 0) {
            return day.impossible;
        }
        if (what == 1) {
            return day.why;
        }
        if (refusal != 0) {
            return refusal;
        }
        return day.oven.cameOut[what - 2] - now.oven.cameOut[what - 2];
    }

    public int heat() {
        int refusal = playDay();
        return refusal != 0 ? refusal : day.oven.heat;
    }

    public int behind(int row, int place, int what) {
        int refusal = refuseCell(row, place, what);
        if (refusal != 0) {
            return refusal;
        }
        refusal = playDay();
        return refusal != 0 ? refusal : day.oven.tellCell(row, place, what);
    }

    public int done() {
        int refusal = playDay();
        if (refusal != 0) {
            return refusal;
        }
        now.oven.copyFrom(day.oven);
        pad.many = 0;
        return day.parts;
    }

    public int out(int what) {
        return within(what, RAW, WORTH) ? now.oven.cameOut[what] : OUTSIDE;
    }

    public int state(int row, int place, int what) {
        int refusal = refuseCell(row, place, what);
        return refusal != 0 ? refusal : now.oven.tellCell(row, place, what);
    }

    public int spoilt() {
        int refusal = playDay();
        return refusal != 0 ? refusal : day.spoiltBy;
    }

    // ---- 3 what will be

    public int ripe(int sort, int place, int what) {
        if (!now.sorts.has(sort) || !now.oven.hasPlace(place)) {
            return UNKNOWN;
        }
        if (!within(what, 0, 1)) {
            return OUTSIDE;
        }
        int rate = now.oven.rateAt(place);
        int first = firstMinute(rate, now.oven.cools, now.sorts.needs[sort]);
        int past = firstMinute(rate, now.oven.cools, now.sorts.burntFrom(sort));
        if (first >= past) {
            return NONE;
        }
        return what == 0 ? first : past - 1;
    }

    public int hot(int below) {
        if (!within(below, 0, MOST_HEAT)) {
            return OUTSIDE;
        }
        int over = now.oven.heat - below;
        if (over < 0) {
            return 0;
        }
        int cools = now.oven.cools;
        return below == 0 || cools <= 0 ? NONE : over / cools + 1;
    }

    public int still(int m) {
        if (!within(m, 0, LAST_MINUTE)) {
            return OUTSIDE;
        }
        int later = Math.max(0, now.oven.heat - m * now.oven.cools);
        int bits = 0;
        for (int kind = 0; kind < KINDS; kind++) {
            if (now.sorts.has(kind) && canBeRipe(kind, later)) {
                bits |= 1 << kind;
            }
        }
        return bits;
    }

    public int orders(int loaves, int what) {
        int refusal = refuseLoaves(loaves, what);
        if (refusal != 0) {
            return refusal;
        }
        batch.foresee(now.oven.heat, now.oven, now.sorts);
        batch.tryAllLoaves(now.oven.places);
        if (what == 0) {
            return batch.ways;
        }
        return what == 1 ? batch.least : batch.soonest;
    }

    public int two(int loaves, int what) {
        int refusal = refuseLoaves(loaves, what);
        if (refusal != 0) {
            return refusal;
        }
        if (batch.many > MOST_LOAVES_OF_TWO) {
            return FULL;
        }
        if (now.oven.rows < 2) {
            return STATE;
        }
        batch.foresee(now.oven.heat, now.oven, now.sorts);
        batch.shareOut(now.oven.places, now.sorts);
        if (what == 0) {
            return batch.mostWorth;
        }
        return what == 1 ? batch.rowZero : batch.rowOne;
    }

    public int warm(int loaves) {
        int refusal = refuseLoaves(loaves, 0);
        if (refusal != 0) {
            return refusal;
        }
        if (batch.many > now.oven.places) {
            return NONE;
        }
        for (int heat = 0; heat <= MOST_HEAT; heat++) {
            batch.foresee(heat, now.oven, now.sorts);
            if (batch.hasSomeOrder()) {
                return heat;
            }
        }
        return NONE;
    }

    // ---- 4 sights, winds

    public int seen(int baked) {
        if (!within(baked, 0, 5000)) {
            return OUTSIDE;
        }
        Sights sights = now.sights;
        if (sights.many >= MOST_SIGHTS) {
            return FULL;
        }
        sights.baked[sights.many] = baked;
        sights.many++;
        return sights.many;
    }

    public int forget() {
        int were = now.sights.many;
        now.sights.many = 0;
        return were;
    }

    public int stood(int sight, int i) {
        if (!within(sight, 0, now.sights.many - 1)) {
            return OUTSIDE;
        }
        if (i < -1) {
            return NONE;
        }
        int baked = now.sights.baked[sight];
        int passed = 0;
        for (int place = 0; place < now.oven.places; place++) {
            int stays = countStays(place, baked);
            if (i >= 0 && i - passed < stays) {
                return 100 * place + firstStay(place, baked) + i - passed;
            }
            passed += stays;
        }
        return i == -1 ? passed : NONE;
    }

    public int both() {
        int bits = 0;
        for (int place = 0; place < now.oven.places; place++) {
            boolean all = true;
            for (int sight = 0; sight < now.sights.many && all; sight++) {
                all = countStays(place, now.sights.baked[sight]) > 0;
            }
            if (all) {
                bits |= 1 << place;
            }
        }
        return bits;
    }

    public long winds(int sort, int place, int t, int m, int part) {
        if (!now.sorts.has(sort) || !now.oven.hasPlace(place)) {
            return GONE + UNKNOWN;
        }
        if (!within(t, 0, 10) || !within(m, 0, 10) || !within(part, 0, 1)) {
            return GONE + OUTSIDE;
        }
        long upper = 0;
        for (int doors = 0; doors < 1 << m; doors++) {
            int baked = now.oven.bakedByDoors(place, m, doors);
            if (now.sorts.verdict(sort, baked) == RIPE) {
                int opened = Integer.bitCount(doors);
                upper += power(t, opened) * power(10 - t, m - opened);
            }
        }
        long lower = power(10, m);
        long shared = Math.max(1, commonDivisor(upper, lower));
        return part == 0 ? upper / shared : lower / shared;
    }

    public int year(int seed, int m, int what) {
        if (!within(seed, 0, 9999) || !within(m, 1, 99) || !within(what, RAW, WORTH)) {
            return OUTSIDE;
        }
        int x = seed;
        int total = 0;
        for (int drawn = 0; drawn < m; drawn++) {
            x = (75 * x + 74) % 65537;
            total += drawnDay(x, what);
        }
        return total;
    }

    public int image(int k) {
        if (!within(k, 0, MOST_IMAGES - 1)) {
            return OUTSIDE;
        }
        if (images[k] == null) {
            images[k] = new Bakery();
        }
        images[k].copyFrom(now);
        return 1;
    }

    public int restore(int k) {
        if (!within(k, 0, MOST_IMAGES - 1)) {
            return OUTSIDE;
        }
        if (images[k] == null) {
            return STATE;
        }
        now.copyFrom(images[k]);
        return 1;
    }

    public int told(int what) {
        Oven oven = now.oven;
        switch (what) {
            case 0: return pad.many;
            case 1: return oven.rows;
            case 2: return oven.places;
            case 3: return oven.heat;
            case 4: return oven.cools;
            case 5: return oven.doorCost;
            case 6: return now.sorts.there;
            case 7: return now.sights.many;
            case 8: return oven.opened ? 1 : 0;
            default: break;
        }
        if (oven.hasPlace(what - 10)) {
            return oven.lessAt[what - 10];
        }
        return what < 20 ? OUTSIDE : now.sorts.tellOf((what - 20) / 10, what % 10);
    }

    // ---- what the calls share

    private static boolean within(int v, int least, int most) {
        return least <= v && v <= most;
    }

    private static boolean isKind(int kind) {
        return within(kind, 0, KINDS - 1);
    }

    private int refuseCell(int row, int place, int what) {
        if (!now.oven.hasRow(row) || !now.oven.hasPlace(place)) {
            return UNKNOWN;
        }
        return within(what, 0, 1) ? 0 : OUTSIDE;
    }

    /** Reads the loaves into the batch, unless they are refused; 0: they are not. */
    private int refuseLoaves(int loaves, int what) {
        if (!within(what, 0, 2) || !within(loaves, 0, GREATEST_NUMBER)) {
            return OUTSIDE;
        }
        return batch.read(loaves, now.sorts) ? 0 : UNKNOWN;
    }

    /** Plays the PAD on a copy of the oven: NO, STATE, or 0 if all of it can be. */
    private int playDay() {
        if (pad.firstFault(now.oven.rows) != NONE) {
            return NO;
        }
        day.play(pad, now.oven, now.sorts);
        return day.impossible == NONE ? 0 : STATE;
    }

    private boolean canBeRipe(int kind, int heat) {
        for (int place = 0; place < now.oven.places; place++) {
            int rate = heat - now.oven.lessAt[place];
            int first = firstMinute(rate, now.oven.cools, now.sorts.needs[kind]);
            if (first < firstMinute(rate, now.oven.cools, now.sorts.burntFrom(kind))) {
                return true;
            }
        }
        return false;
    }

    private int firstStay(int place, int baked) {
        return firstMinute(now.oven.rateAt(place), now.oven.cools, baked);
    }

    /** A loaf never gets less baked, so the minutes that fit follow one another. */
    private int countStays(int place, int baked) {
        int past = Math.min(firstStay(place, baked + 1), LAST_STAY + 1);
        return Math.max(0, past - firstStay(place, baked));
    }

    /** What one day of a YEAR adds to what is asked for. */
    private int drawnDay(int x, int what) {
        Oven oven = now.oven;
        int kind = x % KINDS;
        if (!now.sorts.has(kind) || oven.places <= 0) {
            return 0;
        }
        int place = x / 6 % oven.places;
        int minutes = 1 + x / 64 % 40;
        int verdict = now.sorts.verdict(kind, bakedBehind(oven.rateAt(place), oven.cools, minutes));
        if (what == WORTH) {
            return verdict == RIPE ? now.sorts.worth[kind] : 0;
        }
        return verdict == what ? 1 : 0;
    }

    /** How far a loaf is baked that gets rate in the first minute, then less by cools each, never below 0. */
    private static int bakedBehind(int rate, int cools, int minutes) {
        if (rate <= 0) {
            return 0;
        }
        int warmMinutes = minutes;
        if (cools > 0) {
            warmMinutes = Math.min(minutes, (rate + cools - 1) / cools);
        }
        return warmMinutes * rate - cools * (warmMinutes * (warmMinutes - 1) / 2);
    }

    /** The first minute from 1 on behind which a loaf is baked so much; LAST_MINUTE and 1, if none is. */
    private static int firstMinute(int rate, int cools, int baked) {
        int before = 0;
        for (int step = 512; step > 0; step >>= 1) {
            int tried = before + step;
            if (tried <= LAST_MINUTE && bakedBehind(rate, cools, tried) < baked) {
                before = tried;
            }
        }
        return before + 1;
    }

    private static long power(int base, int exponent) {
        long product = 1;
        for (int i = 0; i < exponent; i++) {
            product *= base;
        }
        return product;
    }

    private static long commonDivisor(long a, long b) {
        long greater = a;
        long smaller = b;
        // Euclid's way is at an end behind fewer than a hundred steps for every two longs.
        for (int i = 0; i < 100 && smaller != 0; i++) {
            long left = greater % smaller;
            greater = smaller;
            smaller = left;
        }
        return greater;
    }

    /** All that an IMAGE keeps. */
    private static final class Bakery {
        final Oven oven = new Oven();
        final Sorts sorts = new Sorts();
        final Sights sights = new Sights();

        void copyFrom(Bakery other) {
            oven.copyFrom(other.oven);
            sorts.copyFrom(other.sorts);
            sights.copyFrom(other.sights);
        }
    }

    private static final class Sights {
        int many;
        final int[] baked = new int[MOST_SIGHTS];

        void copyFrom(Sights other) {
            many = other.many;
            System.arraycopy(other.baked, 0, baked, 0, MOST_SIGHTS);
        }
    }

    private static final class Sorts {
        int there;
        final int[] needs = new int[KINDS];
        final int[] bears = new int[KINDS];
        final int[] worth = new int[KINDS];
        final int[] notBeside = new int[KINDS];

        void copyFrom(Sorts other) {
            there = other.there;
            System.arraycopy(other.needs, 0, needs, 0, KINDS);
            System.arraycopy(other.bears, 0, bears, 0, KINDS);
            System.arraycopy(other.worth, 0, worth, 0, KINDS);
            System.arraycopy(other.notBeside, 0, notBeside, 0, KINDS);
        }

        boolean has(int kind) {
            return isKind(kind) && (there >> kind & 1) == 1;
        }

        void tellApart(int one, int other, boolean is) {
            if (is) {
                notBeside[one] |= 1 << other;
                notBeside[other] |= 1 << one;
            } else {
                notBeside[one] &= ~(1 << other);
                notBeside[other] &= ~(1 << one);
            }
        }

        boolean mustBeApart(int one, int other) {
            return (notBeside[one] >> other & 1) == 1;
        }

        int burntFrom(int kind) {
            return needs[kind] + bears[kind] + 1;
        }

        int verdict(int kind, int baked) {
            if (baked < needs[kind]) {
                return RAW;
            }
            return baked < burntFrom(kind) ? RIPE : BURNT;
        }

        int tellOf(int kind, int what) {
            if (!has(kind)) {
                return OUTSIDE;
            }
            switch (what) {
                case 0: return needs[kind];
                case 1: return bears[kind];
                case 2: return worth[kind];
                case 3: return notBeside[kind];
                default: return OUTSIDE;
            }
        }
    }

    /** A row's loaves stand from the back on without a gap, since only the one nearest the mouth goes. */
    private static final class Oven {
        int rows = 2;
        int places = 4;
        int heat = 30;
        int cools = 1;
        int doorCost = 2;
        boolean opened;
        final int[] lessAt = new int[MOST_PLACES];
        final int[] filled = new int[MOST_ROWS];
        final int[] kinds = new int[MOST_ROWS * MOST_PLACES];
        final int[] baked = new int[MOST_ROWS * MOST_PLACES];
        final int[] cameOut = new int[WORTH + 1];

        void copyFrom(Oven other) {
            rows = other.rows;
            places = other.places;
            heat = other.heat;
            cools = other.cools;
            doorCost = other.doorCost;
            opened = other.opened;
            System.arraycopy(other.lessAt, 0, lessAt, 0, MOST_PLACES);
            System.arraycopy(other.filled, 0, filled, 0, MOST_ROWS);
            System.arraycopy(other.kinds, 0, kinds, 0, MOST_ROWS * MOST_PLACES);
            System.arraycopy(other.baked, 0, baked, 0, MOST_ROWS * MOST_PLACES);
            System.arraycopy(other.cameOut, 0, cameOut, 0, WORTH + 1);
        }

        void rebuild(int newRows, int newPlaces) {
            rows = newRows;
            places = newPlaces;
            opened = false;
            Arrays.fill(lessAt, 0);
            Arrays.fill(filled, 0);
            Arrays.fill(cameOut, 0);
        }

        boolean hasRow(int row) {
            return within(row, 0, rows - 1);
        }

        boolean hasPlace(int place) {
            return within(place, 0, places - 1);
        }

        int rateAt(int place) {
            return heat - lessAt[place];
        }

        private static int cell(int row, int place) {
            return row * MOST_PLACES + place;
        }

        int tellCell(int row, int place, int what) {
            if (place >= filled[row]) {
                return NONE;
            }
            return what == 0 ? kinds[cell(row, place)] : baked[cell(row, place)];
        }

        boolean isFull(int row) {
            return filled[row] >= places;
        }

        boolean isEmpty(int row) {
            return filled[row] <= 0;
        }

        void putIn(int row, int kind) {
            if (isFull(row)) {
                return;
            }
            int cell = cell(row, filled[row]);
            kinds[cell] = kind;
            baked[cell] = 0;
            filled[row]++;
            opened = true;
        }

        void takeFrom(int row, Sorts sorts) {
            if (isEmpty(row)) {
                return;
            }
            filled[row]--;
            int cell = cell(row, filled[row]);
            int kind = kinds[cell];
            int verdict = sorts.verdict(kind, baked[cell]);
            cameOut[verdict]++;
            if (verdict == RIPE) {
                cameOut[WORTH] += sorts.worth[kind];
            }
            opened = true;
        }

        void bakeMinute() {
            for (int row = 0; row < rows; row++) {
                for (int place = 0; place < filled[row]; place++) {
                    baked[cell(row, place)] += Math.max(0, rateAt(place));
                }
            }
            heat = Math.max(0, heat - cools - (opened ? doorCost : 0));
            opened = false;
        }

        /** How far a loaf put in now is baked, if the door is opened in those minutes whose bit is set. */
        int bakedByDoors(int place, int minutes, int doors) {
            int sum = 0;
            int hotNow = heat;
            for (int i = 0; i < minutes; i++) {
                sum += Math.max(0, hotNow - lessAt[place]);
                int cost = (doors >> i & 1) == 1 ? doorCost : 0;
                hotNow = Math.max(0, hotNow - cools - cost);
            }
            return sum;
        }

        boolean hasBadNeighbours(Sorts sorts) {
            for (int row = 0; row < rows; row++) {
                for (int place = 0; place < filled[row]; place++) {
                    int kind = kinds[cell(row, place)];
                    if (place + 1 < filled[row] && sorts.mustBeApart(kind, kinds[cell(row, place + 1)])) {
                        return true;
                    }
                    boolean beside = row + 1 < rows && place < filled[row + 1];
                    if (beside && sorts.mustBeApart(kind, kinds[cell(row + 1, place)])) {
                        return true;
                    }
                }
            }
            return false;
        }
    }

    private static final class Pad {
        int many;
        final int[] signs = new int[MOST_SIGNS];

        int firstFault(int rows) {
            boolean rowNamed = false;
            for (int i = 0; i < many; i++) {
                int sign = signs[i];
                if (rowNamed) {
                    if (sign != '-' && !within(sign, 'a', 'f')) {
                        return i;
                    }
                    rowNamed = false;
                } else if (within(sign, '0', '0' + rows - 1)) {
                    rowNamed = true;
                } else if (sign != '.' && sign != ':') {
                    return i;
                }
            }
            return rowNamed ? many : NONE;
        }
    }

    /** A DAY played on an oven of its own, so that the real one stays as it is until the day counts. */
    private static final class Day {
        final Oven oven = new Oven();
        int parts;
        int impossible;
        int why;
        int spoiltBy;

        /** The PAD must be without a fault. */
        void play(Pad pad, Oven from, Sorts sorts) {
            oven.copyFrom(from);
            parts = 0;
            impossible = NONE;
            why = NONE;
            spoiltBy = NONE;
            int row = 0;
            for (int i = 0; i < pad.many && impossible == NONE; i++) {
                int sign = pad.signs[i];
                if (oven.hasRow(sign - '0')) {
                    row = sign - '0';
                } else {
                    playPart(sign, row, sorts);
                }
            }
        }

        private void playPart(int sign, int row, Sorts sorts) {
            why = reasonAgainst(sign, row, sorts);
            if (why != NONE) {
                impossible = parts;
                return;
            }
            act(sign, row, sorts);
            if (spoiltBy == NONE && oven.hasBadNeighbours(sorts)) {
                spoiltBy = parts;
            }
            parts++;
        }

        private int reasonAgainst(int sign, int row, Sorts sorts) {
            if (sign == '.' || sign == ':') {
                return NONE;
            }
            if (sign == '-') {
                return oven.isEmpty(row) ? ROW_IS_EMPTY : NONE;
            }
            if (!sorts.has(sign - 'a')) {
                return NO_SUCH_SORT;
            }
            return oven.isFull(row) ? ROW_IS_FULL : NONE;
        }

        private void act(int sign, int row, Sorts sorts) {
            if (sign == '.' || sign == ':') {
                int minutes = sign == '.' ? 1 : 10;
                for (int i = 0; i < minutes; i++) {
                    oven.bakeMinute();
                }
            } else if (sign == '-') {
                oven.takeFrom(row, sorts);
            } else {
                oven.putIn(row, sign - 'a');
            }
        }
    }

    /** Loaves told by a number, and the orders in which they can stand in a row. */
    private static final class Batch {
        int many;
        final int[] loaves = new int[MOST_LOAVES];

        /** By kind and place: the first minute of being ripe, and the first past it. */
        final int[] ripeFrom = new int[KINDS * MOST_PLACES];
        final int[] ripePast = new int[KINDS * MOST_PLACES];

        /** The kinds from place 0 on that are being tried. */
        final int[] order = new int[MOST_LOAVES];
        int ways;
        int least;
        int soonest;

        /** By the loaves that stand at the back, as bits: the latest minute at which the one in front may go. */
        final int[] latest = new int[1 << MOST_LOAVES];

        final int[] leastOf = new int[1 << MOST_LOAVES_OF_TWO];
        final int[] worthOf = new int[1 << MOST_LOAVES_OF_TWO];
        int mostWorth;
        int rowZero;
        int rowOne;

        private static int at(int kind, int place) {
            return kind * MOST_PLACES + place;
        }

        /** Keeps the loaves by rising kinds; false, if some digit is no sort that there is. */
        boolean read(int number, Sorts sorts) {
            many = 0;
            int left = number;
            for (int i = 0; i < MOST_LOAVES && left > 0; i++) {
                int kind = left % 10 - 1;
                if (!sorts.has(kind)) {
                    return false;
                }
                insert(kind);
                left /= 10;
            }
            return true;
        }

        private void insert(int kind) {
            int at = many;
            for (; at > 0 && loaves[at - 1] > kind; at--) {
                loaves[at] = loaves[at - 1];
            }
            loaves[at] = kind;
            many++;
        }

        void foresee(int heat, Oven oven, Sorts sorts) {
            int depth = Math.min(many, oven.places);
            for (int i = 0; i < many; i++) {
                int kind = loaves[i];
                if (i > 0 && loaves[i - 1] == kind) {
                    continue;
                }
                for (int place = 0; place < depth; place++) {
                    int rate = heat - oven.lessAt[place];
                    ripeFrom[at(kind, place)] = firstMinute(rate, oven.cools, sorts.needs[kind]);
                    ripePast[at(kind, place)] = firstMinute(rate, oven.cools, sorts.burntFrom(kind));
                }
            }
        }

        void tryAllLoaves(int places) {
            System.arraycopy(loaves, 0, order, 0, many);
            tryOrders(many, places);
        }

        /** Tries all orders of the first n kinds in order, which must be rising, from the least number on. */
        private void tryOrders(int n, int places) {
            ways = 0;
            least = NONE;
            soonest = NONE;
            boolean more = n <= places;
            for (int tried = 0; tried < MOST_ORDERS && more; tried++) {
                int minute = minuteAllOut(n);
                if (minute != NONE) {
                    if (ways == 0) {
                        least = numberOf(n);
                    }
                    soonest = ways == 0 ? minute : Math.min(soonest, minute);
                    ways++;
                }
                more = stepOrder(n);
            }
        }

        /** Each is taken as soon as it can be, which never makes it later for those behind it. */
        private int minuteAllOut(int n) {
            int minute = 0;
            for (int place = n - 1; place >= 0; place--) {
                int at = at(order[place], place);
                minute = Math.max(minute, ripeFrom[at]);
                if (minute >= ripePast[at]) {
                    return NONE;
                }
            }
            return minute;
        }

        private int numberOf(int n) {
            int number = 0;
            for (int place = 0; place < n; place++) {
                number = number * 10 + order[place] + 1;
            }
            return number;
        }

        /** To the next greater order of the same kinds; false, if there is none. */
        private boolean stepOrder(int n) {
            int at = n - 2;
            while (at >= 0 && order[at] >= order[at + 1]) {
                at--;
            }
            if (at < 0) {
                return false;
            }
            int greater = n - 1;
            while (greater > at + 1 && order[greater] <= order[at]) {
                greater--;
            }
            swap(at, greater);
            int high = n - 1;
            for (int low = at + 1; low < high; low++) {
                swap(low, high);
                high--;
            }
            return true;
        }

        private void swap(int one, int other) {
            int kind = order[one];
            order[one] = order[other];
            order[other] = kind;
        }

        /**
         * Whether all loaves have an order. Walks over sets instead of orders, since warm asks a hundred times:
         * of a set at the back only the latest minute left to the loaf in front of it matters.
         */
        boolean hasSomeOrder() {
            int sets = 1 << many;
            latest[0] = LAST_MINUTE;
            for (int set = 1; set < sets; set++) {
                latest[set] = latestOf(set, Integer.bitCount(set) - 1);
            }
            return latest[sets - 1] > 0;
        }

        /** The latest minute at which the front loaf of such a set may go; 0: it can not be. */
        private int latestOf(int set, int front) {
            int best = 0;
            for (int i = 0; i < many; i++) {
                if ((set >> i & 1) == 1) {
                    int at = at(loaves[i], front);
                    int minute = Math.min(latest[set & ~(1 << i)], ripePast[at] - 1);
                    if (minute >= ripeFrom[at]) {
                        best = Math.max(best, minute);
                    }
                }
            }
            return best;
        }

        /** The most worth of up to four loaves in two rows. */
        void shareOut(int places, Sorts sorts) {
            int sets = 1 << Math.min(many, MOST_LOAVES_OF_TWO);
            for (int set = 0; set < sets; set++) {
                lookAtSet(set, places, sorts);
            }
            mostWorth = NONE;
            for (int zero = 0; zero < sets; zero++) {
                for (int one = 0; one < sets; one++) {
                    if ((zero & one) == 0 && leastOf[zero] != NONE && leastOf[one] != NONE) {
                        keepBetter(worthOf[zero] + worthOf[one], leastOf[zero], leastOf[one]);
                    }
                }
            }
        }

        private void lookAtSet(int set, int places, Sorts sorts) {
            int n = 0;
            int worth = 0;
            for (int i = 0; i < many; i++) {
                if ((set >> i & 1) == 1) {
                    order[n] = loaves[i];
                    worth += sorts.worth[loaves[i]];
                    n++;
                }
            }
            tryOrders(n, places);
            leastOf[set] = least;
            worthOf[set] = worth;
        }

        private void keepBetter(int worth, int zero, int one) {
            boolean alike = worth == mostWorth;
            boolean lower = zero < rowZero || zero == rowZero && one < rowOne;
            if (worth > mostWorth || alike && lower) {
                mostWorth = worth;
                rowZero = zero;
                rowOne = one;
            }
        }
    }
}
