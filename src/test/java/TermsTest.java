/**
 * Each sentence under "Terms" that names a boundary case, quoted, with a test of its own, in the document's order.
 * How calls are refused, which stands there too, is in RefusedTest.
 */
public final class TermsTest {
    private static final int UNKNOWN = -1, OUTSIDE = -2, FULL = -4, NONE = -6;
    private static final int RAW = 2, RIPE = 3, BURNT = 4, WORTH = 5;
    private static final Due due = new Due("TermsTest");
    private static String sentence = "";

    public static void main(String[] args) {
        fractions();
        part1Ovens();
        part1Sorts();
        part1Rows();
        part1Minutes();
        part1Outcomes();
        part1Days();
        part1Reasons();
        part2();
        part3Single();
        part3Orders();
        part3Two();
        part3Warm();
        part4Sights();
        part4Winds();
        part4Years();
        due.end();
    }

    /** The document's words that the answers which follow are held against. */
    private static void quote(String words) {
        sentence = words;
    }

    private static void is(String call, long got, long want) {
        due.is("'" + sentence + "' " + call, got, want);
    }

    private static BrickOven oneSort(BrickOven x, int needs, int bears, int worth) {
        x.sort(0, needs, bears, worth);
        return x;
    }

    private static void fractions() {
        quote("Fractions are told in lowest terms by part: 0 the upper, 1 the lower number");
        BrickOven x = oneSort(Ovens.steady(10), 20, 0, 1);
        x.set(2, 1);
        int[][] wanted = {{0, 1, 1}, {1, 9, 10}, {2, 4, 5}, {5, 1, 2}, {10, 0, 1}};
        for (int[] v : wanted) {
            is("upper of " + v[0] + " tenths", x.winds(0, 0, v[0], 2, 0), v[1]);
            is("lower of " + v[0] + " tenths", x.winds(0, 0, v[0], 2, 1), v[2]);
        }
        quote("refused with GONE and the refusal");
        is("no such sort", x.winds(1, 0, 0, 0, 0), BrickOven.GONE + BrickOven.UNKNOWN);
        is("no such part", x.winds(0, 0, 0, 0, 2), BrickOven.GONE + BrickOven.OUTSIDE);
        is("no such sort", x.winds(1, 0, 0, 0, 0), -1000000000000000001L);
        is("no such part", x.winds(0, 0, 0, 0, -1), -1000000000000000002L);
    }

    // ======== 1

    private static void part1Ovens() {
        quote("ROWS 0 to n less 1 (n 1 to 4; 2 at first)");
        BrickOven x = new BrickOven();
        is("at first", x.told(1), 2);
        is("row 1 at first", x.state(1, 0, 0), NONE);
        is("row 2 at first", x.state(2, 0, 0), UNKNOWN);
        for (int n = 1; n <= 4; n++) {
            is("oven(" + n + ", 1)", x.oven(n, 1), n);
            is("the last of " + n, x.state(n - 1, 0, 0), NONE);
            is("past the last of " + n, x.state(n, 0, 0), UNKNOWN);
        }
        is("oven(0, 1)", x.oven(0, 1), OUTSIDE);
        is("oven(5, 1)", x.oven(5, 1), OUTSIDE);
        quote("PLACES 0 (the back) to d less 1 (the mouth; d 1 to 6; 4 at first)");
        BrickOven y = new BrickOven();
        is("at first", y.told(2), 4);
        is("place 3 at first", y.state(0, 3, 0), NONE);
        is("place 4 at first", y.state(0, 4, 0), UNKNOWN);
        for (int d = 1; d <= 6; d++) {
            is("oven(1, " + d + ")", y.oven(1, d), d);
            is("the mouth of " + d, y.state(0, d - 1, 0), NONE);
            is("past the mouth of " + d, y.state(0, d, 0), UNKNOWN);
        }
        is("oven(1, 0)", y.oven(1, 0), OUTSIDE);
        is("oven(1, 7)", y.oven(1, 7), OUTSIDE);
        dials();
        lessOfPlaces();
    }

    private static void dials() {
        String[] words = {"HEAT (0 to 99; 30 at first)", "COOLS (0 to 9 a minute; 1 at first)",
            "DOOR (0 to 9: what opening costs; 2 at first)"};
        int[] most = {99, 9, 9};
        int[] first = {30, 1, 2};
        for (int which = 0; which < 3; which++) {
            quote(words[which]);
            BrickOven x = new BrickOven();
            is("at first", x.told(3 + which), first[which]);
            is("the most", x.set(which, most[which]), first[which]);
            is("the least", x.set(which, 0), most[which]);
            is("above", x.set(which, most[which] + 1), OUTSIDE);
            is("below", x.set(which, -1), OUTSIDE);
            is("as it was", x.told(3 + which), 0);
        }
    }

    private static void lessOfPlaces() {
        quote("a PLACE has LESS (0 to 9: so much less than HEAT; 0 at first)");
        BrickOven x = oneSort(Ovens.steady(20), 1, 0, 0);
        for (int place = 0; place < 4; place++) {
            is("at first", x.told(10 + place), 0);
        }
        is("the most", x.less(0, 9), 0);
        is("9 less than 20", Ovens.padOf(x, "0a.").behind(0, 0, 1), 11);
        is("the least", x.less(0, 0), 9);
        is("0 less than 20", x.behind(0, 0, 1), 20);
        is("above", x.less(0, 10), OUTSIDE);
        is("below", x.less(0, -1), OUTSIDE);
        quote("by how deep it is (alike in all ROWS)");
        BrickOven y = oneSort(Ovens.steady(20), 1, 0, 0);
        y.oven(4, 6);
        for (int place = 0; place < 6; place++) {
            y.less(place, 9 - place);
        }
        Ovens.padOf(y, fullOven() + ".");
        for (int cell = 0; cell < 24; cell++) {
            is("row " + cell / 6 + " place " + cell % 6, y.behind(cell / 6, cell % 6, 1), 11 + cell % 6);
        }
    }

    /** 24 loaves a, as many as the greatest oven holds: 48 signs. */
    private static String fullOven() {
        return "0a".repeat(6) + "1a".repeat(6) + "2a".repeat(6) + "3a".repeat(6);
    }

    private static void part1Sorts() {
        quote("SORTS 0 to 5 (a to f), some of which there are (none at first)");
        BrickOven none = new BrickOven();
        is("none at first", none.told(6), 0);
        for (char letter = 'a'; letter <= 'f'; letter++) {
            is("no " + letter, Ovens.padOf(none, "0" + letter).judge(1), 1);
            BrickOven x = new BrickOven();
            x.sort(letter - 'a', 1, 0, 0);
            is("bits of " + letter, x.told(6), 1 << (letter - 'a'));
            for (char other = 'a'; other <= 'f'; other++) {
                int why = other == letter ? NONE : 1;
                is(other + " where there is " + letter, Ovens.padOf(x, "0" + other).judge(1), why);
            }
            is("the sort of " + letter, Ovens.padOf(x, "0" + letter).behind(0, 0, 0), letter - 'a');
        }
        is("sort(-1)", none.sort(-1, 1, 0, 0), UNKNOWN);
        is("sort(6)", none.sort(6, 1, 0, 0), UNKNOWN);
        quote("NEEDS (1 to 500), BEARS (0 to 500 more), WORTH (0 to 99)");
        BrickOven x = new BrickOven();
        is("the least", x.sort(0, 1, 0, 0), 1);
        is("the most", x.sort(1, 500, 500, 99), 2);
        int[][] wrong = {{0, 0, 0}, {501, 0, 0}, {1, -1, 0}, {1, 501, 0}, {1, 0, -1}, {1, 0, 100}};
        for (int[] v : wrong) {
            is("needs, bears, worth " + v[0] + " " + v[1] + " " + v[2], x.sort(2, v[0], v[1], v[2]), OUTSIDE);
        }
        is("the most is told", x.told(30) * 1000000L + x.told(31) * 1000 + x.told(32), 500500099L);
        is("no third", x.told(6), 3);
    }

    private static void part1Rows() {
        quote("it goes to the deepest PLACE that is behind all loaves of the ROW (.. PLACE 0, if the ROW is empty)");
        BrickOven x = new BrickOven();
        x.oven(2, 6);
        x.sort(0, 1, 0, 0);
        x.sort(1, 1, 0, 0);
        is("an empty row", Ovens.padOf(x, "1b").behind(1, 0, 0), 1);
        is("nothing in front", x.behind(1, 1, 0), NONE);
        is("not the other row", x.behind(0, 0, 0), NONE);
        is("one is there", Ovens.padOf(x, "1a1b").behind(1, 1, 0), 1);
        is("one was taken", Ovens.padOf(x, "1a1a1-1b").behind(1, 1, 0), 1);
        is("all were taken", Ovens.padOf(x, "1a1a1-1-1b").behind(1, 0, 0), 1);
        is("five are there", Ovens.padOf(x, "1a1a1a1a1a1b").behind(1, 5, 0), 1);
        quote("To take one: the one nearest the mouth.");
        is("of three", Ovens.padOf(x, "0a0b0a0-").behind(0, 2, 0), NONE);
        is("the next stays", x.behind(0, 1, 0), 1);
        is("of six", Ovens.padOf(x, "0b0b0b0b0b0a0-").behind(0, 5, 0), NONE);
        is("of six the next stays", x.behind(0, 4, 0), 1);
        is("of one", Ovens.padOf(x, "0a0-").behind(0, 0, 0), NONE);
    }

    private static void part1Minutes() {
        quote("each loaf is BAKED more by HEAT less LESS of its PLACE (0 at least)");
        BrickOven x = oneSort(Ovens.steady(9), 1, 0, 0);
        x.less(0, 8);
        x.less(1, 9);
        Ovens.padOf(x, "0a0a:");
        is("9 less 8", x.behind(0, 0, 1), 10);
        is("9 less 9", x.behind(0, 1, 1), 0);
        x.set(0, 0);
        is("0 less 8", x.behind(0, 0, 1), 0);
        is("0 less 9", x.behind(0, 1, 1), 0);
        quote("then HEAT is less by COOLS");
        BrickOven y = oneSort(Ovens.steady(30), 1, 0, 0);
        y.set(1, 9);
        is("baked by the heat before", Ovens.padOf(y, "0a.").behind(0, 0, 1), 30);
        is("the second minute by 21", Ovens.padOf(y, "0a..").behind(0, 0, 1), 51);
        is("three minutes", Ovens.padOf(y, "...").heat(), 3);
        y.set(1, 0);
        is("COOLS 0", Ovens.padOf(y, "::::::").heat(), 30);
        doors();
        heatIsNeverBelowZero();
    }

    private static void doors() {
        quote("and by DOOR, if something was put or taken since the last MINUTE's end (or the beginning)");
        BrickOven x = oneSort(Ovens.steady(30), 1, 0, 0);
        x.set(2, 9);
        is("nothing was", Ovens.padOf(x, ".").heat(), 30);
        is("put", Ovens.padOf(x, "0a.").heat(), 21);
        is("without a minute", Ovens.padOf(x, "0a").heat(), 30);
        is("put, put and taken, once", Ovens.padOf(x, "0a1a0-.").heat(), 21);
        is("no more in the next", Ovens.padOf(x, "0a..").heat(), 21);
        is("once in ten minutes", Ovens.padOf(x, "0a:").heat(), 21);
        is("in the first of ten", x.behind(0, 0, 1), 30 + 9 * 21);
        is("in each of two", Ovens.padOf(x, "0a.0-.").heat(), 12);
        Ovens.padOf(x, "0a").done();
        is("put on the day before", Ovens.padOf(x, ".").heat(), 21);
        Ovens.padOf(x, ".").done();
        is("its minute was on the day before", Ovens.padOf(x, ".").heat(), 21);
        is("taken", Ovens.padOf(x, "0-.").heat(), 12);
    }

    private static void heatIsNeverBelowZero() {
        quote("0 at least");
        // heat, cools, door; heat behind a minute with the door opened, without
        int[][] wanted = {{0, 0, 0, 0, 0}, {0, 9, 9, 0, 0}, {1, 1, 0, 0, 0}, {8, 9, 0, 0, 0}, {9, 9, 0, 0, 0},
            {10, 9, 0, 1, 1}, {17, 9, 9, 0, 8}, {18, 9, 9, 0, 9}, {19, 9, 9, 1, 10}, {3, 0, 4, 0, 3}};
        for (int[] v : wanted) {
            BrickOven x = oneSort(new BrickOven(), 1, 0, 0);
            for (int which = 0; which < 3; which++) {
                x.set(which, v[which]);
            }
            is("opened, from " + v[0], Ovens.padOf(x, "0a.").heat(), v[3]);
            is("shut, from " + v[0], Ovens.padOf(x, ".").heat(), v[4]);
        }
    }

    private static void part1Outcomes() {
        quote("raw, if it is BAKED less than its SORT NEEDS; burnt, if more than that and what it BEARS; else ripe");
        // needs, bears, baked, what comes out
        int[][] wanted = {{10, 5, 9, RAW}, {10, 5, 10, RIPE}, {10, 5, 15, RIPE}, {10, 5, 16, BURNT},
            {1, 0, 0, RAW}, {1, 0, 1, RIPE}, {1, 0, 2, BURNT}, {500, 0, 499, RAW}, {500, 0, 500, RIPE},
            {500, 0, 501, BURNT}, {500, 500, 499, RAW}, {500, 500, 1000, RIPE}, {500, 500, 1001, BURNT},
            {1, 500, 501, RIPE}, {1, 500, 502, BURNT}};
        for (int[] v : wanted) {
            BrickOven x = oneSort(Ovens.steady(0), v[0], v[1], 99);
            Ovens.bakeTo(x, 'a', v[2]);
            Ovens.padOf(x, "0-");
            String name = v[2] + " of " + v[0] + " and " + v[1];
            for (int what = RAW; what <= BURNT; what++) {
                is(name + ": judge(" + what + ")", x.judge(what), what == v[3] ? 1 : 0);
            }
            is(name + ": worth", x.judge(WORTH), v[3] == RIPE ? 99 : 0);
        }
    }

    private static void part1Days() {
        quote("a text on a PAD of up to 60 signs (codes 33 to 126)");
        BrickOven x = new BrickOven();
        is("code 32", x.say(32), OUTSIDE);
        is("code 127", x.say(127), OUTSIDE);
        is("code 33", x.say(33), 1);
        is("code 126", x.say(126), 2);
        for (int i = 3; i <= 60; i++) {
            is("sign " + i, x.say(33 + i), i);
        }
        is("sign 61", x.say('.'), FULL);
        is("a full pad is done", Ovens.padOf(x, ":".repeat(60)).done(), 60);
        is("and empty then", x.say('.'), 1);
        oneSort(x, 1, 0, 0);
        is("30 PARTS of two signs", Ovens.padOf(x, "1a1-".repeat(15)).done(), 30);
        quote("a digit 0 to 3 and a letter a to f .. or - .., . (a MINUTE), : (ten MINUTES)");
        for (int rows = 1; rows <= 4; rows++) {
            everySign(rows);
        }
        x.set(0, 50);
        is("a MINUTE", Ovens.padOf(x, ".").heat(), 47);
        is("ten MINUTES", Ovens.padOf(x, ":").heat(), 38);
        faults();
    }

    /** Every code at the beginning, where a digit wants more, and behind a digit. */
    private static void everySign(int rows) {
        BrickOven x = new BrickOven();
        BrickOven y = new BrickOven();
        x.oven(rows, 1);
        y.oven(rows, 1);
        String digits = "0123".substring(0, rows);
        for (char sign = 33; sign <= 126; sign++) {
            int alone = digits.indexOf(sign) >= 0 ? 1 : ".:".indexOf(sign) >= 0 ? NONE : 0;
            is(rows + " rows, first " + sign, Ovens.padOf(x, "" + sign).fault(), alone);
            int behind = "abcdef-".indexOf(sign) >= 0 ? NONE : 1;
            is(rows + " rows, second " + sign, Ovens.padOf(y, "0" + sign).fault(), behind);
        }
    }

    private static void faults() {
        BrickOven x = new BrickOven();
        quote("THE FAULT: the place (from 0 on) of the first sign that can not stand there");
        is("the first of two", Ovens.padOf(x, ".0a?!").fault(), 3);
        is("the sixtieth", Ovens.padOf(x, ".".repeat(59) + "a").fault(), 59);
        is("behind a digit", Ovens.padOf(x, "0:0a").fault(), 1);
        is("before one that must come", Ovens.padOf(x, "x0").fault(), 0);
        quote("(a digit of a ROW that there is not, too)");
        Ovens.padOf(x, ".3-2-1-0-");
        int[] places = {1, 1, 1, NONE};
        for (int rows = 1; rows <= 4; rows++) {
            x.oven(rows, 1);
            is(rows + " rows, 3 first", x.fault(), places[rows - 1]);
        }
        x.oven(4, 1);
        is("a row 4 is never", Ovens.padOf(x, "3a4a").fault(), 2);
        quote("or the number of signs, if more must come");
        is("of one", Ovens.padOf(x, "0").fault(), 1);
        is("of three", Ovens.padOf(x, "0a1").fault(), 3);
        is("of sixty", Ovens.padOf(x, ".".repeat(59) + "0").fault(), 60);
        quote("(without signs there is none: no PARTS)");
        x.wipe();
        is("fault", x.fault(), NONE);
        is("the PART that can not be", x.judge(0), NONE);
        is("PARTS", x.done(), 0);
    }

    private static void part1Reasons() {
        quote("A PART can not be for the least of these reasons");
        BrickOven both = oneSort(new BrickOven(), 1, 0, 0);
        both.oven(1, 1);
        is("no such SORT, and full", Ovens.padOf(both, "0a0b").judge(1), 1);
        quote("1 there is no such SORT");
        is("in an empty row", Ovens.padOf(both, "0b").judge(1), 1);
        both.sort(1, 1, 0, 0);
        is("now there is", both.judge(1), NONE);
        quote("2 the ROW is full (to the mouth)");
        for (int places = 1; places <= 6; places++) {
            BrickOven x = oneSort(new BrickOven(), 1, 0, 0);
            x.oven(2, places);
            is("just full, of " + places, Ovens.padOf(x, "0a".repeat(places)).judge(1), NONE);
            is("one more, of " + places, Ovens.padOf(x, "0a".repeat(places + 1)).judge(1), 2);
            is("that PART, of " + places, x.judge(0), places);
            is("another row, of " + places, Ovens.padOf(x, "0a".repeat(places) + "1a").judge(1), NONE);
            is("one was taken, of " + places, Ovens.padOf(x, "0a".repeat(places) + "0-0a").judge(1), NONE);
            Ovens.padOf(x, "0a".repeat(places)).done();
            is("full from the day before", Ovens.padOf(x, "0a").judge(1), 2);
        }
        quote("3 it is empty");
        BrickOven y = oneSort(new BrickOven(), 1, 0, 0);
        is("at first", Ovens.padOf(y, "0-").judge(1), 3);
        is("another row is not", Ovens.padOf(y, "1a0-").judge(1), 3);
        is("once too often", Ovens.padOf(y, "0a0-0-").judge(1), 3);
        is("that PART", y.judge(0), 2);
        Ovens.padOf(y, "0a").done();
        is("one from the day before", Ovens.padOf(y, "0-").judge(1), NONE);
    }

    // ======== 2

    private static void part2() {
        quote("JUDGED: the first PART (from 0 on) that can not be, why");
        BrickOven x = oneSort(Ovens.steady(10), 10, 0, 7);
        is("the very first", Ovens.padOf(x, "0-0b").judge(0), 0);
        is("why", x.judge(1), 3);
        is("PARTS, not signs", Ovens.padOf(x, ":0a.0b0-0-").judge(0), 3);
        is("why", x.judge(1), 1);
        is("the last", Ovens.padOf(x, ".".repeat(58) + "0-").judge(0), 58);
        quote("how many came out raw, ripe, burnt; WORTH of the ripe ones");
        Ovens.padOf(x, "0a0-0a.0-0a.0-0a..0-1a");
        int[] wanted = {NONE, NONE, 1, 2, 1, 14};
        for (int what = 0; what < 6; what++) {
            is("judge(" + what + ")", x.judge(what), wanted[what]);
        }
        quote("in a PLACE the SORT (NONE: empty), how far it is BAKED");
        is("empty", x.behind(0, 0, 0), NONE);
        is("empty", x.behind(0, 0, 1), NONE);
        is("put just now", x.behind(1, 0, 0), 0);
        is("put just now", x.behind(1, 0, 1), 0);
        quote("DONE: it is so then (what came out is counted)");
        is("PARTS", x.done(), 13);
        for (int what = 0; what < 4; what++) {
            is("out(" + what + ")", x.out(what), wanted[what + 2]);
        }
        is("it stands there", x.state(1, 0, 0), 0);
        nextTo();
        spoilt();
    }

    private static void nextTo() {
        quote("(in one ROW, one PLACE apart; or in ROWS side by side, in one PLACE)");
        for (int one = 0; one < 24; one++) {
            for (int other = one + 1; other < 24; other++) {
                BrickOven x = new BrickOven();
                x.oven(4, 6);
                for (int sort = 0; sort < 3; sort++) {
                    x.sort(sort, 1, 0, 0);
                }
                x.apart(1, 0, true);
                String day = twoLoaves(one / 6, one % 6, other / 6, other % 6);
                int apart = Math.abs(one / 6 - other / 6) + Math.abs(one % 6 - other % 6);
                is(day, Ovens.padOf(x, day).spoilt(), apart == 1 ? day.length() / 2 - 1 : NONE);
            }
        }
    }

    /** An a, then a b in front of it or in a later row; c stands behind them where one must. */
    private static String twoLoaves(int row, int place, int otherRow, int otherPlace) {
        String first = (row + "c").repeat(place) + row + "a";
        int before = row == otherRow ? otherPlace - place - 1 : otherPlace;
        return first + (otherRow + "c").repeat(before) + otherRow + "b";
    }

    private static void spoilt() {
        quote("twos of SORTS that must not stand side by side .. may be told");
        BrickOven x = new BrickOven();
        x.sort(0, 1, 0, 0);
        x.sort(1, 1, 0, 0);
        is("none are told", Ovens.padOf(x, "0a0b1b1a").spoilt(), NONE);
        quote("SPOILT: the first PART of the DAY behind which two such do; NONE");
        x.apart(0, 1, true);
        is("only for a moment", Ovens.padOf(x, "0a.0b0-.").spoilt(), 2);
        is("the first of two times", Ovens.padOf(x, "0a0b0-0b").spoilt(), 1);
        is("the last PART", Ovens.padOf(x, ".".repeat(56) + "0a1b").spoilt(), 57);
        is("a loaf that was taken", Ovens.padOf(x, "0a0-1b").spoilt(), NONE);
        is("no PARTS", Ovens.padOf(x, "").spoilt(), NONE);
        Ovens.padOf(x, "0a0b").done();
        is("from the day before, by the first", Ovens.padOf(x, ".").spoilt(), 0);
        is("from the day before, taken at once", Ovens.padOf(x, "0-").spoilt(), NONE);
    }

    // ======== 3

    private static void part3Single() {
        quote("the door costs nothing here; the oven is taken as empty");
        BrickOven x = new BrickOven();
        BrickOven y = new BrickOven();
        oneSort(x, 59, 0, 5).set(2, 9);
        oneSort(y, 59, 0, 5).set(2, 9);
        Ovens.padOf(x, "0a0a0a0a1a1a1a1a").done();
        is("the door is open", x.told(8) - y.told(8), 1);
        for (int what = 0; what < 2; what++) {
            is("ripe", x.ripe(0, 0, what), 2);
            is("orders", x.orders(1111, what + 1), y.orders(1111, what + 1));
            is("two", x.two(1111, what), y.two(1111, what));
        }
        is("hot", x.hot(22), y.hot(22));
        is("hot", x.hot(22), 9);
        is("still", x.still(0), 1);
        is("orders", x.orders(1111, 0), 1);
        is("warm", x.warm(1), y.warm(1));
        ripe();
        hot();
        still();
    }

    private static void ripe() {
        quote("RIPE: the first MINUTE (1 on, to 999) behind which a loaf of a SORT, put in a PLACE now, is ripe");
        BrickOven x = oneSort(Ovens.steady(1), 1, 0, 1);
        is("the first of all", x.ripe(0, 0, 0), 1);
        x.sort(0, 500, 0, 1);
        is("the latest that can be", x.ripe(0, 0, 0), 500);
        quote("the last such (to 999)");
        is("the first alone", x.ripe(0, 0, 1), 500);
        for (int bears = 0; bears <= 500; bears++) {
            is("bears " + bears, oneSort(Ovens.steady(1), 500, bears, 1).ripe(0, 0, 1), Math.min(999, 500 + bears));
        }
        x.set(1, 1);
        x.sort(0, 1, 0, 1);
        is("it is cold from then on", x.ripe(0, 0, 1), 999);
        quote("NONE: it is ripe behind none of these");
        x.sort(0, 2, 500, 1);
        noneRipe(x, 0, "cold too soon");
        x.set(1, 0);
        is("without cooling it is", x.ripe(0, 0, 0), 2);
        x.less(3, 1);
        noneRipe(x, 3, "a place that is cold");
        x.set(0, 0);
        noneRipe(x, 0, "a cold oven");
        x.set(0, 10);
        x.sort(0, 11, 8, 1);
        noneRipe(x, 0, "raw at 10, burnt at 20");
        x.sort(0, 11, 9, 1);
        is("ripe at 20", x.ripe(0, 0, 0), 2);
    }

    private static void noneRipe(BrickOven x, int place, String why) {
        is(why + ", first", x.ripe(0, place, 0), NONE);
        is(why + ", last", x.ripe(0, place, 1), NONE);
    }

    private static void hot() {
        quote("HOT: in how many MINUTES HEAT is below so much (0, if it is now); NONE: never");
        int[][] ovens = {{0, 0}, {0, 9}, {1, 0}, {1, 1}, {50, 7}, {99, 0}, {99, 1}, {99, 9}};
        for (int[] v : ovens) {
            BrickOven x = new BrickOven();
            x.set(0, v[0]);
            x.set(1, v[1]);
            for (int below = 0; below <= 99; below++) {
                int minutes = 0;
                int heat = v[0];
                while (heat >= below && minutes < 200) {
                    heat = Math.max(0, heat - v[1]);
                    minutes++;
                }
                is(v[0] + " hot, cools " + v[1] + ", below " + below, x.hot(below), minutes == 200 ? NONE : minutes);
            }
            is("hot(-1)", x.hot(-1), OUTSIDE);
            is("hot(100)", x.hot(100), OUTSIDE);
        }
    }

    private static void still() {
        quote("STILL: SORTS that can be ripe in some PLACE, if put in m MINUTES from now (0 to 999)");
        BrickOven x = oneSort(new BrickOven(), 1, 0, 1);
        is("now: 30 at once is too much, and it bears nothing", x.still(0), 0);
        is("in 29 minutes it is 1 hot", x.still(29), 1);
        is("in 28 it is 2 hot", x.still(28), 0);
        is("in 30 it is cold", x.still(30), 0);
        is("in 999", x.still(999), 0);
        is("in 1000", x.still(1000), OUTSIDE);
        is("in -1", x.still(-1), OUTSIDE);
        x.set(0, 1);
        x.set(1, 0);
        is("it never cools: in 999", x.still(999), 1);
        x.set(0, 10);
        is("too hot everywhere", x.still(0), 0);
        x.less(3, 9);
        is("but in the mouth", x.still(0), 1);
        quote("behind 1 to 999 MINUTES from then (as RIPE), as bits");
        for (int sort = 0; sort < 6; sort++) {
            x.sort(sort, 1, 0, 1);
        }
        is("all of them", x.still(999), 63);
        x.sort(2, 500, 0, 1);
        x.less(3, 0);
        is("the third alone, behind 50", x.still(999), 4);
    }

    private static void part3Orders() {
        quote("loaves told by a number to ten (six digits at most, each a SORT and 1; 0: no loaves)");
        BrickOven x = Ovens.steady(10);
        x.oven(1, 6);
        for (int sort = 0; sort < 6; sort++) {
            x.sort(sort, 10, 0, 1);
        }
        int[][] wanted = {{1, 1}, {6, 1}, {66, 1}, {16, 2}, {123, 6}, {6666, 1}, {12345, 120}, {666666, 1},
            {123456, 720}, {0, 1}};
        for (int[] v : wanted) {
            is("orders(" + v[0] + ")", x.orders(v[0], 0), v[1]);
        }
        for (int wrong : new int[] {7, 8, 9, 10, 60, 101, 100000, 106666, 666660}) {
            is("orders(" + wrong + ")", x.orders(wrong, 0), UNKNOWN);
        }
        for (int wrong : new int[] {-1, 666667, 1000000, 1111111, Ovens.MIN, Ovens.MAX}) {
            is("orders(" + wrong + ")", x.orders(wrong, 0), OUTSIDE);
        }
        quote("(no loaves: 1 order, 0 as its number, MINUTE 0)");
        x.set(0, 0);
        is("how many, in a cold oven", x.orders(0, 0), 1);
        is("number", x.orders(0, 1), 0);
        is("MINUTE", x.orders(0, 2), 0);
        is("no order of one, in a cold oven", x.orders(1, 0), 0);
        ordersTaken();
        ordersLongerThanPlaces();
    }

    private static void ordersTaken() {
        quote("then taken, front to back, each behind a MINUTE when it is ripe (several behind one, if need be)");
        BrickOven x = Ovens.steady(10);
        x.sort(0, 10, 0, 1);
        x.sort(1, 20, 0, 1);
        is("all behind one MINUTE", x.orders(1111, 2), 1);
        is("the front one first", x.orders(12, 1), 21);
        is("never the back one first", x.orders(12, 0), 1);
        x.sort(0, 10, 9, 1);
        is("burnt while it waits: 20 of 19", x.orders(12, 0), 1);
        x.sort(0, 10, 10, 1);
        is("it bears the wait: 20 of 20", x.orders(12, 0), 2);
        quote("how many (loaves of one SORT are alike)");
        is("aab", x.orders(112, 0), 3);
        is("aabb", x.orders(2121, 0), 6);
        is("aaaa", x.orders(1111, 0), 1);
        quote("the least, as such a number (the first put in first)");
        is("of two", x.orders(21, 1), 12);
        is("of four", x.orders(2211, 1), 1122);
        quote("the soonest MINUTE behind which all are out");
        is("the one that takes longest", x.orders(2211, 2), 2);
        // b in place 1 is ripe behind four minutes, in place 0 behind two: not by the least order
        x.less(1, 5);
        x.sort(0, 10, 500, 1);
        x.sort(1, 20, 500, 1);
        is("the least order would take 4", x.orders(12, 1), 12);
        is("the other takes 2", x.orders(12, 2), 2);
    }

    private static void ordersLongerThanPlaces() {
        quote("A row that is longer than PLACES can not be.");
        for (int places = 1; places <= 6; places++) {
            BrickOven x = oneSort(Ovens.steady(10), 10, 0, 1);
            x.oven(1, places);
            int number = 0;
            for (int loaves = 1; loaves <= 6; loaves++) {
                number = 10 * number + 1;
                boolean can = loaves <= places;
                String name = loaves + " loaves, " + places + " places";
                is(name + ", how many", x.orders(number, 0), can ? 1 : 0);
                is(name + ", the least", x.orders(number, 1), can ? number : NONE);
                is(name + ", the soonest", x.orders(number, 2), can ? 1 : NONE);
                is(name + ", warm", x.warm(number), can ? 1 : NONE);
            }
        }
    }

    private static void part3Two() {
        quote("each put in ROW 0 or 1 now, in some order, or left out");
        BrickOven x = Ovens.steady(10);
        x.oven(2, 1);
        x.sort(0, 10, 0, 3);
        x.sort(1, 10, 0, 4);
        x.sort(2, 15, 0, 99);
        x.sort(3, 10, 0, 0);
        checkTwo(x, 0, 0, 0, 0);
        checkTwo(x, 1, 3, 0, 1);
        checkTwo(x, 11, 6, 1, 1);
        checkTwo(x, 111, 6, 1, 1);
        checkTwo(x, 1122, 8, 2, 2);
        checkTwo(x, 3, 0, 0, 0);
        checkTwo(x, 3331, 3, 0, 1);
        checkTwo(x, 4, 0, 0, 0);
        checkTwo(x, 14, 3, 0, 1);
        quote("(of several the least of ROW 0, then of ROW 1)");
        checkTwo(x, 21, 7, 1, 2);
        x.oven(2, 2);
        checkTwo(x, 1111, 12, 11, 11);
        checkTwo(x, 2121, 14, 11, 22);
        checkTwo(x, 112, 10, 1, 12);
        checkTwo(x, 4411, 6, 0, 11);
        x.oven(4, 4);
        checkTwo(x, 2121, 14, 0, 1122);
        checkTwo(x, 4411, 6, 0, 11);
        is("five", x.two(11111, 0), FULL);
    }

    private static void checkTwo(BrickOven x, int loaves, int most, int zero, int one) {
        is("two(" + loaves + ", 0)", x.two(loaves, 0), most);
        is("two(" + loaves + ", 1)", x.two(loaves, 1), zero);
        is("two(" + loaves + ", 2)", x.two(loaves, 2), one);
    }

    private static void part3Warm() {
        quote("WARM: the least HEAT to begin with (0 to 99) by which ORDERS has some; NONE.");
        BrickOven x = oneSort(Ovens.steady(99), 1, 0, 1);
        is("no loaves", x.warm(0), 0);
        is("one", x.warm(1), 1);
        x.set(0, 0);
        is("as hot as now does not matter", x.warm(1), 1);
        is("HEAT stays", x.told(3), 0);
        for (int place = 0; place < 4; place++) {
            x.less(place, 9);
        }
        is("9 less", x.warm(1), 10);
        x.set(1, 9);
        // 90 and 81 and so on to 9 are 495: all that HEAT 99 gives, 9 less, cooling by 9
        int[][] wanted = {{494, 99}, {495, 99}, {496, NONE}, {500, NONE}};
        for (int[] v : wanted) {
            x.sort(0, v[0], 500, 1);
            is("needs " + v[0], x.warm(1), v[1]);
        }
        x.less(0, 8);
        x.sort(0, 495, 500, 1);
        is("the place at the back, 8 less", x.warm(1), 98);
        is("two, one of them 9 less", x.warm(11), 99);
    }

    // ======== 4

    private static void part4Sights() {
        quote("SIGHTS, 6 at most: a loaf came out, BAKED so much (0 to 5000)");
        BrickOven x = Ovens.steady(98);
        is("-1", x.seen(-1), OUTSIDE);
        is("5001", x.seen(5001), OUTSIDE);
        int[] baked = {0, 5000, 98, 97, 4998, 9};
        for (int i = 0; i < 6; i++) {
            is("seen(" + baked[i] + ")", x.seen(baked[i]), i + 1);
        }
        is("the seventh", x.seen(1), FULL);
        quote("STOOD: PLACES and MINUTES (1 to 99), put in now, by which it would be so: how many");
        int[] many = {0, 0, 4, 0, 4, 0};
        for (int i = 0; i < 6; i++) {
            is("of " + baked[i], x.stood(i, -1), many[i]);
        }
        quote("the i-th (100 times the PLACE and the MINUTES, rising)");
        for (int place = 0; place < 4; place++) {
            is("of 98", x.stood(2, place), 100 * place + 1);
            is("of 4998", x.stood(4, place), 100 * place + 51);
        }
        is("no fifth", x.stood(2, 4), NONE);
        is("no last but one", x.stood(2, -2), NONE);
        stoodAtTheEnds();
        both();
    }

    private static void stoodAtTheEnds() {
        quote("MINUTES (1 to 99)");
        BrickOven x = Ovens.steady(1);
        x.oven(1, 6);
        int[] baked = {0, 1, 98, 99, 100};
        int[] first = {NONE, 1, 98, 99, NONE};
        for (int i = 0; i < 5; i++) {
            x.seen(baked[i]);
            is("of " + baked[i] + " how many", x.stood(i, -1), first[i] == NONE ? 0 : 6);
            is("of " + baked[i] + " the first", x.stood(i, 0), first[i]);
            is("of " + baked[i] + " the last", x.stood(i, 5), first[i] == NONE ? NONE : 500 + first[i]);
            is("of " + baked[i] + " no more", x.stood(i, 6), NONE);
        }
        x.set(0, 0);
        is("cold: how many", x.stood(0, -1), 594);
        for (int i = 0; i < 6; i++) {
            is("cold: the first of place " + i, x.stood(0, 99 * i), 100 * i + 1);
            is("cold: the last of place " + i, x.stood(0, 99 * i + 98), 100 * i + 99);
        }
        is("cold: no more", x.stood(0, 594), NONE);
        is("cold: not baked", x.stood(1, -1), 0);
    }

    private static void both() {
        quote("BOTH: PLACES in which all SIGHTS could have stood (each for its own MINUTES), as bits.");
        BrickOven x = slope(6);
        is("without SIGHTS all", x.both(), 63);
        // by 12, 11, 10, 9, 8, 7 a minute in at most 99 minutes
        int[] baked = {720, 120, 840, 660, 1080, 1089};
        int[] alone = {0b011101, 0b010101, 0b000101, 0b000111, 0b000001, 0b000010};
        int all = 63;
        for (int i = 0; i < 6; i++) {
            all &= alone[i];
            x.seen(baked[i]);
            is("with " + baked[i], x.both(), all);
            BrickOven y = slope(6);
            y.seen(baked[i]);
            is("alone " + baked[i], y.both(), alone[i]);
        }
    }

    /** A row that is 12 hot at the back, 11 next to it, and so on, and stays so. */
    private static BrickOven slope(int places) {
        BrickOven x = Ovens.steady(12);
        x.oven(1, places);
        for (int place = 0; place < places; place++) {
            x.less(place, place);
        }
        return x;
    }

    private static void part4Winds() {
        quote("WINDS: each of m MINUTES (0 to 10), each by itself, somebody opens the door with t tenths (0 to 10)");
        BrickOven x = oneSort(Ovens.steady(20), 1, 500, 1);
        x.set(2, 1);
        fraction(x, 5, 0, 0, 1);
        fraction(x, 5, 1, 1, 1);
        fraction(x, 5, 10, 1, 1);
        is("m -1", x.winds(0, 0, 5, -1, 0), BrickOven.GONE + OUTSIDE);
        is("m 11", x.winds(0, 0, 5, 11, 0), BrickOven.GONE + OUTSIDE);
        is("t -1", x.winds(0, 0, -1, 5, 0), BrickOven.GONE + OUTSIDE);
        is("t 11", x.winds(0, 0, 11, 5, 0), BrickOven.GONE + OUTSIDE);
        // ten minutes shut are 200; open in all of the first nine, 155
        x.sort(0, 200, 0, 1);
        fraction(x, 0, 10, 1, 1);
        fraction(x, 1, 10, 387420489L, 1000000000L);
        fraction(x, 9, 10, 1, 1000000000L);
        fraction(x, 10, 10, 0, 1);
        x.sort(0, 155, 0, 1);
        fraction(x, 10, 10, 1, 1);
        fraction(x, 9, 10, 387420489L, 1000000000L);
        fraction(x, 0, 10, 0, 1);
        quote("that a loaf of a SORT, put in a PLACE now, is ripe behind them");
        // the door of the tenth minute costs only behind it
        x.sort(0, 199, 0, 1);
        fraction(x, 1, 10, 43046721L, 1000000000L);
        x.less(2, 9);
        x.sort(0, 110, 0, 1);
        is("9 less in place 2", x.winds(0, 2, 0, 10, 0), 1);
        is("not in place 0", x.winds(0, 0, 0, 10, 0), 0);
    }

    private static void fraction(BrickOven x, int t, int m, long upper, long lower) {
        is("upper, t " + t + ", m " + m, x.winds(0, 0, t, m, 0), upper);
        is("lower, t " + t + ", m " + m, x.winds(0, 0, t, m, 1), lower);
    }

    private static void part4Years() {
        quote("A YEAR by a seed (0 to 9999) of m DAYS (1 to 99)");
        BrickOven x = oneSort(Ovens.steady(12), 1, 0, 1);
        int[][] wrong = {{-1, 1}, {10000, 1}, {0, 0}, {0, 100}};
        for (int[] v : wrong) {
            is("year(" + v[0] + ", " + v[1] + ", 0)", x.year(v[0], v[1], 0), OUTSIDE);
        }
        quote("x, the seed at first, becomes for each (75 x and 74) left over by 65537");
        exactly(0, 6, 2, 0, 2);       // x: 74
        exactly(872, 6, 2, 4, 24);    // x: 65474, the last that is not above 65536
        exactly(873, 6, 0, 2, 1);     // x: 65549, left over 12
        exactly(5242, 6, 2, 0, 1);    // x: 393224, left over 2
        exactly(9999, 6, 4, 0, 15);   // x: 749999, left over 29092
        quote("SORT x left over by 6 is put in PLACE x by 6 (cut) left over by d");
        exactly(443, 6, 5, 5, 1);     // x: 33299, by 6: 5549
        exactly(443, 5, 5, 4, 1);
        exactly(443, 4, 5, 1, 1);
        exactly(443, 3, 5, 2, 1);
        exactly(443, 2, 5, 1, 1);
        exactly(443, 1, 5, 0, 1);
        quote("as many MINUTES as 1 more than what x by 64 (cut) leaves over by 40");
        exactly(169, 6, 5, 0, 40);    // x: 12749, by 64: 199
        exactly(204, 6, 2, 0, 1);     // x: 15374, by 64: 240
        exactly(33, 6, 5, 4, 40);     // x: 2549, by 64: 39
        yearsOfDays();
    }

    /** One day whose sort, place and minutes are known: ripe by what it is baked then, raw or burnt by one beside. */
    private static void exactly(int seed, int places, int sort, int place, int minutes) {
        BrickOven x = slope(places);
        int baked = (12 - place) * minutes;
        for (int needs = baked - 1; needs <= baked + 1; needs++) {
            x.sort(sort, needs, 0, 7);
            String name = "seed " + seed + ", " + places + " places, needs " + needs;
            is(name + ", raw", x.year(seed, 1, 0), needs > baked ? 1 : 0);
            is(name + ", ripe", x.year(seed, 1, 1), needs == baked ? 1 : 0);
            is(name + ", burnt", x.year(seed, 1, 2), needs < baked ? 1 : 0);
            is(name + ", worth", x.year(seed, 1, 3), needs == baked ? 7 : 0);
        }
    }

    private static void yearsOfDays() {
        quote("of an empty oven as hot as now .. (the door costs nothing)");
        BrickOven x = new BrickOven();
        x.set(2, 9);
        x.sort(2, 59, 0, 7);
        Ovens.padOf(x, "0c0c0c0c1c").done();
        is("two minutes, 30 and 29", x.year(0, 1, 1), 1);
        is("the loaves stay", x.state(0, 3, 0), 2);
        is("the door stays open", x.told(8), 1);
        quote("if there is no such SORT, nothing is");
        BrickOven none = new BrickOven();
        for (int what = 0; what < 4; what++) {
            is("without SORTS", none.year(9999, 99, what), 0);
        }
        for (int sort = 0; sort < 6; sort++) {
            BrickOven y = Ovens.steady(12);
            y.sort(sort, 500, 0, 1);
            for (int days : new int[] {1, 2, 98, 99}) {
                is("only SORT " + sort + ", days " + days, y.year(9999, days, 0), daysOf(sort, 9999, days));
            }
        }
    }

    private static int daysOf(int sort, int seed, int days) {
        int many = 0;
        long x = seed;
        for (int i = 0; i < days; i++) {
            x = (75 * x + 74) % 65537;
            many += x % 6 == sort ? 1 : 0;
        }
        return many;
    }
}
