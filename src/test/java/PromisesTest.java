/** Each promise of the document: ordinary inputs, the edges that it names, wrong inputs. */
public final class PromisesTest {
    private static final int MIN = Ovens.MIN;
    private static final int MAX = Ovens.MAX;
    private static final int[] WILD = {MIN, MIN + 1, -1000, MAX - 1, MAX};
    private static final Due due = new Due("PromisesTest");

    public static void main(String[] args) {
        p01NewObject();
        p02Oven();
        p03Set();
        p04Less();
        p05Sort();
        p06Apart();
        p07Say();
        p08Wipe();
        p09Fault();
        p10Judge();
        p10JudgeOrderOfRefusals();
        p11Heat();
        p12Behind();
        p13Done();
        p14Out();
        p15State();
        p16Spoilt();
        p17Ripe();
        p18Hot();
        p19Still();
        p20Orders();
        p21Two();
        p22Warm();
        p23Seen();
        p24Forget();
        p25Stood();
        p26Both();
        p27Winds();
        p28Year();
        p29Image();
        p30Restore();
        p31Told();
        due.end();
    }

    private static void p01NewObject() {
        BrickOven x = new BrickOven();
        int[] want = {0, 2, 4, 30, 1, 2, 0, 0, 0, -2, 0, 0, 0, 0, -2};
        for (int what = 0; what < want.length; what++) {
            due.is("1 told(" + what + ")", x.told(what), want[what]);
        }
        for (int row = 0; row < 2; row++) {
            for (int place = 0; place < 4; place++) {
                due.is("1 state", x.state(row, place, 0), -6);
            }
        }
        for (int what = 0; what < 4; what++) {
            due.is("1 out", x.out(what), 0);
        }
        due.is("1 fault", x.fault(), -6);
        due.is("1 restore(0)", x.restore(0), -3);
        due.is("1 restore(1)", x.restore(1), -3);
    }

    private static void p02Oven() {
        BrickOven x = new BrickOven();
        due.is("2 oven(4, 6)", x.oven(4, 6), 24);
        due.is("2 oven(1, 1)", x.oven(1, 1), 1);
        due.is("2 oven(0, 1)", x.oven(0, 1), -2);
        due.is("2 oven(5, 1)", x.oven(5, 1), -2);
        due.is("2 oven(1, 0)", x.oven(1, 0), -2);
        due.is("2 oven(1, 7)", x.oven(1, 7), -2);
        for (int wild : WILD) {
            due.is("2 oven wild", x.oven(wild, 3), -2);
            due.is("2 oven wild", x.oven(3, wild), -2);
        }
        due.is("2 refused changes nothing", x.told(1) * 10 + x.told(2), 11);
        p02EverySize();
        p02WhatGoes();
        p02WhatStays();
    }

    private static void p02EverySize() {
        for (int rows = 1; rows <= 4; rows++) {
            for (int places = 1; places <= 6; places++) {
                BrickOven x = new BrickOven();
                due.is("2 how many PLACES in all", x.oven(rows, places), rows * places);
                due.is("2 ROWS", x.told(1), rows);
                due.is("2 PLACES", x.told(2), places);
                due.is("2 the last place", x.state(rows - 1, places - 1, 0), -6);
                due.is("2 no row behind", x.state(rows, 0, 0), -1);
                due.is("2 no place behind", x.state(0, places, 0), -1);
            }
        }
    }

    /** A full oven of the same size, so that nothing goes by being out of sight. */
    private static void p02WhatGoes() {
        BrickOven x = fullOven();
        for (int i = 0; i < 6; i++) {
            x.seen(i);
        }
        Ovens.padOf(x, "3-3a").done();
        due.is("2 the same size", x.oven(4, 6), 24);
        for (int cell = 0; cell < 24; cell++) {
            due.is("2 the oven is empty", x.state(cell / 6, cell % 6, 0), -6);
        }
        for (int place = 0; place < 6; place++) {
            due.is("2 LESS is 0", x.told(10 + place), 0);
        }
        due.is("2 what came out is 0", x.out(0) + x.out(1) + x.out(2) + x.out(3), 0);
        due.is("2 SIGHTS go", x.stood(0, -1), -2);
        due.is("2 there is room for a SIGHT", x.seen(1), 1);
        due.is("2 the door counts as not opened", Ovens.padOf(x, ".").heat(), 49);
        due.is("2 rows begin at the back again", Ovens.padOf(x, "3a").behind(3, 0, 0), 0);
    }

    /** 24 loaves of all sorts, put in a minute ago; 50 hot, place p being p less. */
    private static BrickOven fullOven() {
        BrickOven x = new BrickOven();
        x.oven(4, 6);
        x.set(0, 50);
        for (int i = 0; i < 6; i++) {
            x.sort(i, 46, 3, 2);
            x.less(i, i);
        }
        x.wipe();
        for (int cell = 0; cell < 24; cell++) {
            Ovens.sayAll(x, cell / 6 + "" + (char) ('a' + sortIn(cell)));
        }
        Ovens.sayAll(x, ".");
        x.done();
        x.set(0, 50);
        return x;
    }

    /** The sort in a cell of the full oven, each row beginning with another one. */
    private static int sortIn(int cell) {
        return (cell / 6 + cell) % 6;
    }

    private static void p02WhatStays() {
        BrickOven x = new BrickOven();
        x.sort(2, 30, 5, 7);
        x.apart(2, 4, true);
        x.set(0, 33);
        x.set(1, 3);
        x.set(2, 4);
        x.less(1, 6);
        x.seen(8);
        Ovens.sayAll(x, "0c.0-1c");
        x.done();
        Ovens.sayAll(x, "1c1c");
        due.is("2 came out", x.out(1) + x.out(3), 8);
        due.is("2 door", x.told(8), 1);
        due.is("2 refused", x.oven(3, 9), -2);
        due.is("2 refused keeps loaves", x.state(1, 0, 0), 2);
        due.is("2 refused keeps less", x.told(11), 6);
        due.is("2 oven(3, 2)", x.oven(3, 2), 6);
        due.is("2 empty", x.state(1, 0, 0), -6);
        for (int what = 0; what < 4; what++) {
            due.is("2 out", x.out(what), 0);
        }
        due.is("2 less", x.told(11), 0);
        due.is("2 sights", x.told(7), 0);
        due.is("2 door", x.told(8), 0);
        due.is("2 sorts", x.told(6), 4);
        due.is("2 twos", x.told(43), 16);
        due.is("2 heat", x.told(3), 26);
        due.is("2 cools", x.told(4), 3);
        due.is("2 door costs", x.told(5), 4);
        due.is("2 pad", x.told(0), 4);
    }

    private static void p03Set() {
        BrickOven x = new BrickOven();
        due.is("3 set(0, 99)", x.set(0, 99), 30);
        due.is("3 set(0, 0)", x.set(0, 0), 99);
        due.is("3 set(0, 5)", x.set(0, 5), 0);
        due.is("3 set(1, 9)", x.set(1, 9), 1);
        due.is("3 set(1, 0)", x.set(1, 0), 9);
        due.is("3 set(2, 9)", x.set(2, 9), 2);
        due.is("3 set(2, 0)", x.set(2, 0), 9);
        due.is("3 set(0, 100)", x.set(0, 100), -2);
        due.is("3 set(0, -1)", x.set(0, -1), -2);
        due.is("3 set(1, 10)", x.set(1, 10), -2);
        due.is("3 set(1, -1)", x.set(1, -1), -2);
        due.is("3 set(2, 10)", x.set(2, 10), -2);
        due.is("3 set(2, -1)", x.set(2, -1), -2);
        due.is("3 set(3, 1)", x.set(3, 1), -2);
        due.is("3 set(-1, 1)", x.set(-1, 1), -2);
        for (int wild : WILD) {
            due.is("3 set wild", x.set(wild, 1), -2);
            due.is("3 set wild", x.set(1, wild), -2);
        }
        due.is("3 heat", x.told(3), 5);
        due.is("3 cools", x.told(4), 0);
        due.is("3 door", x.told(5), 0);
    }

    private static void p04Less() {
        BrickOven x = new BrickOven();
        due.is("4 less(3, 9)", x.less(3, 9), 0);
        due.is("4 less(3, 0)", x.less(3, 0), 9);
        due.is("4 less(0, 4)", x.less(0, 4), 0);
        due.is("4 less(4, 0)", x.less(4, 0), -1);
        due.is("4 less(-1, 0)", x.less(-1, 0), -1);
        due.is("4 less(4, 10)", x.less(4, 10), -1);
        due.is("4 less(0, 10)", x.less(0, 10), -2);
        due.is("4 less(0, -1)", x.less(0, -1), -2);
        for (int wild : WILD) {
            due.is("4 less wild", x.less(wild, wild), -1);
            due.is("4 less wild", x.less(0, wild), -2);
        }
        due.is("4 told(10)", x.told(10), 4);
        x.oven(1, 6);
        due.is("4 less(5, 1)", x.less(5, 1), 0);
        due.is("4 told(15)", x.told(15), 1);
        p04AlikeInAllRows();
    }

    private static void p04AlikeInAllRows() {
        BrickOven x = Ovens.steady(20);
        x.sort(0, 1, 0, 0);
        x.less(1, 7);
        Ovens.sayAll(x, "0a0a1a1a:");
        due.is("4 row 0", x.behind(0, 1, 1), 130);
        due.is("4 row 1", x.behind(1, 1, 1), 130);
        due.is("4 place 0", x.behind(1, 0, 1), 200);
    }

    private static void p05Sort() {
        BrickOven x = new BrickOven();
        due.is("5 sort(5, 1, 0, 0)", x.sort(5, 1, 0, 0), 1);
        due.is("5 sort(0, 500, 500, 99)", x.sort(0, 500, 500, 99), 2);
        due.is("5 again", x.sort(0, 400, 30, 9), 2);
        due.is("5 needs", x.told(20), 400);
        due.is("5 bears", x.told(21), 30);
        due.is("5 worth", x.told(22), 9);
        due.is("5 sort(6, 0, 0, 0)", x.sort(6, 0, 0, 0), -1);
        due.is("5 sort(-1, 1, 0, 0)", x.sort(-1, 1, 0, 0), -1);
        int[][] outside = {{0, 0, 0}, {501, 0, 0}, {1, -1, 0}, {1, 501, 0}, {1, 0, -1}, {1, 0, 100}};
        for (int[] v : outside) {
            due.is("5 outside", x.sort(1, v[0], v[1], v[2]), -2);
        }
        for (int wild : WILD) {
            due.is("5 wild", x.sort(wild, wild, 0, 0), -1);
            due.is("5 wild", x.sort(1, wild, 0, 0), -2);
            due.is("5 wild", x.sort(1, 1, wild, 0), -2);
            due.is("5 wild", x.sort(1, 1, 0, wild), -2);
        }
        due.is("5 sorts", x.told(6), 33);
        p05CountsToSix();
        p05Otherwise();
    }

    private static void p05CountsToSix() {
        BrickOven x = new BrickOven();
        for (int sort = 5; sort >= 0; sort--) {
            due.is("5 one more", x.sort(sort, 1, 0, 0), 6 - sort);
            due.is("5 the same again", x.sort(sort, 2, 0, 0), 6 - sort);
        }
        due.is("5 no seventh", x.sort(6, 1, 0, 0), -1);
        due.is("5 all", x.told(6), 63);
    }

    private static void p05Otherwise() {
        BrickOven x = Ovens.steady(10);
        x.sort(1, 10, 0, 5);
        Ovens.sayAll(x, "0b.");
        x.done();
        x.sort(1, 11, 0, 6);
        due.is("5 raw now", Ovens.padOf(x, "0-").judge(2), 1);
        x.sort(1, 9, 0, 6);
        due.is("5 burnt now", x.judge(4), 1);
        x.sort(1, 9, 1, 6);
        due.is("5 ripe now", x.judge(3), 1);
        due.is("5 worth now", x.judge(5), 6);
    }

    private static void p06Apart() {
        BrickOven x = new BrickOven();
        for (int s = 0; s < 6; s++) {
            x.sort(s, 1, 0, 0);
        }
        due.is("6 apart(0, 5, true)", x.apart(0, 5, true), 1);
        due.is("6 bits of 0", x.told(23), 32);
        due.is("6 bits of 5", x.told(73), 1);
        due.is("6 apart(2, 2, true)", x.apart(2, 2, true), 1);
        due.is("6 bits of 2", x.told(43), 4);
        due.is("6 apart(5, 0, true)", x.apart(5, 0, true), 1);
        due.is("6 apart(5, 0, false)", x.apart(5, 0, false), 1);
        due.is("6 bits of 0", x.told(23), 0);
        due.is("6 bits of 5", x.told(73), 0);
        due.is("6 apart(2, 2, false)", x.apart(2, 2, false), 1);
        due.is("6 bits of 2", x.told(43), 0);
        due.is("6 apart(1, 3, false)", x.apart(1, 3, false), 1);
        for (int wrong : new int[] {-1, 6, MIN, MAX, 32}) {
            due.is("6 wrong", x.apart(wrong, 1, true), -1);
            due.is("6 wrong", x.apart(1, wrong, true), -1);
            due.is("6 wrong", x.apart(wrong, 1, false), -1);
        }
        due.is("6 bits of 1", x.told(33), 0);
        BrickOven y = new BrickOven();
        due.is("6 sorts that are not there", y.apart(1, 4, true), 1);
        y.sort(4, 1, 0, 0);
        due.is("6 told when it is", y.told(63), 2);
    }

    private static void p07Say() {
        BrickOven x = new BrickOven();
        due.is("7 say(32)", x.say(32), -2);
        due.is("7 say(127)", x.say(127), -2);
        for (int wild : WILD) {
            due.is("7 say wild", x.say(wild), -2);
        }
        due.is("7 say(33)", x.say(33), 1);
        due.is("7 say(126)", x.say(126), 2);
        for (int i = 3; i <= 60; i++) {
            due.is("7 say", x.say('.'), i);
        }
        due.is("7 say the 61st", x.say('.'), -4);
        due.is("7 OUTSIDE before FULL", x.say(32), -2);
        due.is("7 signs", x.told(0), 60);
    }

    private static void p08Wipe() {
        BrickOven x = new BrickOven();
        due.is("8 wipe()", x.wipe(), 0);
        Ovens.sayAll(x, "xyz");
        due.is("8 wipe()", x.wipe(), 3);
        due.is("8 wipe()", x.wipe(), 0);
        due.is("8 fault()", x.fault(), -6);
        due.is("8 say", x.say('.'), 1);
    }

    private static void p09Fault() {
        BrickOven x = new BrickOven();
        String[] texts = {"", ".", ":", "..:", "0a", "1f", "0-", "0a.1-:", "0", "0a1", "0a.1", "2a", "3a", "4a", "a",
            "-", "0g", "0.", "0:", "00", "0A", "0a0a0x", "..!", "0`", "/", "0a~", "9", "1,", ";"};
        int[] want = {-6, -6, -6, -6, -6, -6, -6, -6, 1, 3, 4, 0, 0, 0, 0,
            0, 1, 1, 1, 1, 1, 5, 2, 1, 0, 2, 0, 1, 0};
        for (int i = 0; i < texts.length; i++) {
            due.is("9 fault of " + texts[i], Ovens.padOf(x, texts[i]).fault(), want[i]);
        }
        Ovens.padOf(x, "0a1a2a3a");
        due.is("9 two rows", x.fault(), 4);
        x.oven(1, 1);
        due.is("9 one row", x.fault(), 2);
        x.oven(3, 1);
        due.is("9 three rows", x.fault(), 6);
        x.oven(4, 1);
        due.is("9 four rows", x.fault(), -6);
        StringBuilder full = new StringBuilder("0");
        while (full.length() < 60) {
            full.insert(0, '.');
        }
        due.is("9 more must come, but the pad is full", Ovens.padOf(x, full.toString()).fault(), 60);
    }

    private static void p10Judge() {
        BrickOven x = Ovens.steady(10);
        x.sort(0, 20, 9, 5);
        x.sort(1, 30, 0, 7);
        Ovens.padOf(x, "0a0b.1a.0-0-1-");
        // b: 20 of 30 raw; a: 20 of 20 ripe; a in row 1: 10, raw
        long[] want = {-6, -6, 2, 1, 0, 5};
        for (int what = 0; what < 6; what++) {
            due.is("10 judge(" + what + ")", x.judge(what), want[what]);
        }
        Ovens.padOf(x, "0a0b...0-0-");
        due.is("10 ripe", x.judge(3), 1);
        due.is("10 burnt: 30 are more than 20 and 9", x.judge(4), 1);
        due.is("10 worth", x.judge(5), 7);
        due.is("10 no sort", Ovens.padOf(x, ".0c").judge(0), 1);
        due.is("10 why", x.judge(1), 1);
        due.is("10 STATE", x.judge(2), -3);
        due.is("10 STATE", x.judge(5), -3);
        due.is("10 empty", Ovens.padOf(x, "0a.0-1a0-").judge(0), 4);
        due.is("10 why", x.judge(1), 3);
        x.oven(1, 1);
        due.is("10 full", Ovens.padOf(x, "0a0a0-").judge(0), 1);
        due.is("10 why", x.judge(1), 2);
        due.is("10 the least reason: no sort, and full", Ovens.padOf(x, "0a0f").judge(1), 1);
        due.is("10 without signs", Ovens.padOf(x, "").judge(0), -6);
        due.is("10 without signs", x.judge(1), -6);
        due.is("10 without signs", x.judge(4), 0);
        p10TwoDays();
    }

    private static void p10TwoDays() {
        BrickOven x = Ovens.steady(10);
        x.sort(0, 20, 0, 5);
        Ovens.padOf(x, "0a.0-0a..");
        due.is("10 PARTS", x.done(), 6);
        Ovens.padOf(x, "0-");
        due.is("10 raw of this day alone", x.judge(2), 0);
        due.is("10 ripe of this day", x.judge(3), 1);
        due.is("10 worth of this day", x.judge(5), 5);
        due.is("10 nothing came out so far", x.out(1), 0);
    }

    private static void p10JudgeOrderOfRefusals() {
        BrickOven x = new BrickOven();
        Ovens.padOf(x, "0a?");
        for (int wrong : new int[] {-1, 6, MIN, MAX}) {
            due.is("10 OUTSIDE before NO", x.judge(wrong), -2);
        }
        for (int what = 0; what < 6; what++) {
            due.is("10 NO before STATE", x.judge(what), -5);
        }
        Ovens.padOf(x, "0a");
        due.is("10 OUTSIDE before STATE", x.judge(6), -2);
    }

    private static void p11Heat() {
        BrickOven x = new BrickOven();
        x.sort(0, 1, 0, 0);
        due.is("11 no parts", x.heat(), 30);
        due.is("11 a minute", Ovens.padOf(x, ".").heat(), 29);
        due.is("11 ten", Ovens.padOf(x, ":").heat(), 20);
        due.is("11 the door once a minute", Ovens.padOf(x, "0a1a0-.").heat(), 27);
        due.is("11 the door in the first of ten", Ovens.padOf(x, "0a:").heat(), 18);
        due.is("11 each minute", Ovens.padOf(x, "0a.0-.").heat(), 24);
        due.is("11 the door without a minute", Ovens.padOf(x, "0a").heat(), 30);
        due.is("11 0 at least", Ovens.padOf(x, "::::").heat(), 0);
        x.set(0, 2);
        due.is("11 0 at least, by the door", Ovens.padOf(x, "0a.").heat(), 0);
        due.is("11 now as it was", x.told(3), 2);
        due.is("11 NO", Ovens.padOf(x, "0").heat(), -5);
        due.is("11 STATE", Ovens.padOf(x, "0b").heat(), -3);
        BrickOven y = new BrickOven();
        y.sort(0, 1, 0, 0);
        Ovens.padOf(y, "0a").done();
        due.is("11 the door of the day before", Ovens.padOf(y, ".").heat(), 27);
        due.is("11 and then no more", Ovens.padOf(y, "..").heat(), 26);
    }

    private static void p12Behind() {
        BrickOven x = Ovens.steady(50);
        x.set(1, 5);
        x.sort(0, 1, 0, 0);
        x.sort(3, 1, 0, 0);
        x.less(1, 9);
        Ovens.padOf(x, "0a0d..");
        due.is("12 sort", x.behind(0, 0, 0), 0);
        due.is("12 sort", x.behind(0, 1, 0), 3);
        due.is("12 baked", x.behind(0, 0, 1), 95);
        due.is("12 baked less", x.behind(0, 1, 1), 77);
        due.is("12 empty", x.behind(0, 2, 0), -6);
        due.is("12 empty", x.behind(1, 0, 1), -6);
        due.is("12 now", x.state(0, 0, 0), -6);
        due.is("12 colder than its place is less", coldPlace().behind(0, 1, 1), 5);
        due.is("12 the front one goes", Ovens.padOf(x, "0a0d0-").behind(0, 0, 0), 0);
        due.is("12 the front one went", x.behind(0, 1, 0), -6);
        due.is("12 its place is used again", Ovens.padOf(x, "0a0d.0-0a").behind(0, 1, 1), 0);
        Ovens.padOf(x, "0");
        due.is("12 UNKNOWN row", x.behind(2, 0, 7), -1);
        due.is("12 UNKNOWN row", x.behind(-1, 0, 0), -1);
        due.is("12 UNKNOWN place", x.behind(0, 4, 7), -1);
        due.is("12 UNKNOWN place", x.behind(0, -1, 0), -1);
        due.is("12 OUTSIDE", x.behind(0, 0, 2), -2);
        due.is("12 OUTSIDE", x.behind(0, 0, -1), -2);
        due.is("12 NO", x.behind(0, 0, 1), -5);
        due.is("12 STATE", Ovens.padOf(x, "0-").behind(0, 0, 1), -3);
        for (int wild : WILD) {
            due.is("12 wild", x.behind(wild, 0, wild), -1);
            due.is("12 wild", x.behind(0, wild, wild), -1);
            due.is("12 wild", x.behind(0, 0, wild), -2);
        }
    }

    /** 14 hot with 9 less in place 1: 5 in the first minute, then nothing. */
    private static BrickOven coldPlace() {
        BrickOven x = new BrickOven();
        x.set(0, 14);
        x.set(1, 7);
        x.less(1, 9);
        x.sort(0, 1, 0, 0);
        Ovens.sayAll(x, "0a0a:");
        return x;
    }

    private static void p13Done() {
        BrickOven x = new BrickOven();
        x.sort(0, 40, 30, 9);
        due.is("13 no parts", x.done(), 0);
        Ovens.padOf(x, "0a.1a:0-");
        due.is("13 parts", x.done(), 5);
        due.is("13 the pad is empty", x.told(0), 0);
        due.is("13 heat", x.told(3), 30 - 1 - 2 - 10 - 2);
        due.is("13 door", x.told(8), 1);
        due.is("13 row 0", x.state(0, 0, 0), -6);
        due.is("13 row 1", x.state(1, 0, 0), 0);
        due.is("13 baked: 27, then 24 and so on", x.state(1, 0, 1), 27 + 24 + 23 + 22 + 21 + 20 + 19 + 18 + 17 + 16);
        due.is("13 burnt", x.out(2), 1);
        Ovens.padOf(x, "1");
        due.is("13 NO", x.done(), -5);
        Ovens.padOf(x, "1-1-");
        due.is("13 STATE", x.done(), -3);
        due.is("13 nothing changed", x.state(1, 0, 0), 0);
        due.is("13 the pad stays", x.told(0), 4);
        due.is("13 out stays", x.out(2), 1);
        due.is("13 a minute", Ovens.padOf(x, ".").done(), 1);
        due.is("13 the door is shut", x.told(8), 0);
        due.is("13 heat", x.told(3), 12);
        p13FullOven();
    }

    /** Every place of the greatest oven, baked by as much as it is hot there, and all taken again. */
    private static void p13FullOven() {
        BrickOven x = fullOven();
        for (int cell = 0; cell < 24; cell++) {
            due.is("13 sort in " + cell, x.state(cell / 6, cell % 6, 0), sortIn(cell));
            due.is("13 baked in " + cell, x.state(cell / 6, cell % 6, 1), 50 - cell % 6);
        }
        for (int row = 0; row < 4; row++) {
            due.is("13 full", Ovens.padOf(x, row + "a").judge(1), 2);
        }
        Ovens.padOf(x, "3-".repeat(6) + "2-".repeat(6) + "1-".repeat(6) + "0-".repeat(6));
        // 45 is raw, 46 to 49 are ripe, 50 is burnt
        due.is("13 raw", x.judge(2), 4);
        due.is("13 PARTS", x.done(), 24);
        due.is("13 came out raw", x.out(0), 4);
        due.is("13 came out ripe", x.out(1), 16);
        due.is("13 came out burnt", x.out(2), 4);
        due.is("13 worth", x.out(3), 32);
        for (int row = 0; row < 4; row++) {
            due.is("13 empty", Ovens.padOf(x, row + "-").judge(1), 3);
        }
    }

    private static void p14Out() {
        BrickOven x = Ovens.steady(10);
        x.sort(0, 20, 10, 9);
        x.sort(1, 20, 10, 30);
        Ovens.padOf(x, "0a.0-1a..1-").done();
        Ovens.padOf(x, "0b..0-1a:1-0b..0-").done();
        due.is("14 raw", x.out(0), 1);
        due.is("14 ripe", x.out(1), 3);
        due.is("14 burnt", x.out(2), 1);
        due.is("14 worth", x.out(3), 69);
        x.sort(1, 20, 10, 1);
        due.is("14 worth as it was then", x.out(3), 69);
        for (int wrong : new int[] {-1, 4, MIN, MAX}) {
            due.is("14 OUTSIDE", x.out(wrong), -2);
        }
        p14Edges();
    }

    private static void p14Edges() {
        int[] bears = {9, 10, 10, 0};
        int[] needs = {20, 20, 31, 30};
        int[] want = {2, 1, 0, 1};
        for (int i = 0; i < 4; i++) {
            BrickOven x = Ovens.steady(10);
            x.sort(0, needs[i], bears[i], 1);
            Ovens.padOf(x, "0a...0-").done();
            for (int what = 0; what < 3; what++) {
                due.is("14 edge " + i, x.out(what), what == want[i] ? 1 : 0);
            }
        }
    }

    private static void p15State() {
        BrickOven x = Ovens.steady(7);
        x.sort(4, 1, 0, 0);
        Ovens.padOf(x, "1e1e...").done();
        Ovens.padOf(x, "1-0e");
        due.is("15 sort", x.state(1, 1, 0), 4);
        due.is("15 baked", x.state(1, 1, 1), 21);
        due.is("15 empty", x.state(0, 0, 0), -6);
        due.is("15 empty", x.state(0, 0, 1), -6);
        due.is("15 empty", x.state(1, 2, 1), -6);
        due.is("15 UNKNOWN", x.state(2, 0, 5), -1);
        due.is("15 UNKNOWN", x.state(0, 4, 5), -1);
        due.is("15 UNKNOWN", x.state(-1, 0, 0), -1);
        due.is("15 UNKNOWN", x.state(0, -1, 0), -1);
        due.is("15 OUTSIDE", x.state(0, 0, 2), -2);
        due.is("15 OUTSIDE", x.state(0, 0, -1), -2);
        Ovens.padOf(x, "?");
        due.is("15 whatever the pad holds", x.state(1, 0, 1), 21);
        for (int wild : WILD) {
            due.is("15 wild", x.state(wild, 0, 0), -1);
            due.is("15 wild", x.state(0, wild, 0), -1);
            due.is("15 wild", x.state(0, 0, wild), -2);
        }
    }

    private static void p16Spoilt() {
        BrickOven x = new BrickOven();
        x.oven(3, 4);
        for (int s = 0; s < 3; s++) {
            x.sort(s, 1, 0, 0);
        }
        x.apart(0, 1, true);
        x.apart(2, 2, true);
        due.is("16 in one row", Ovens.padOf(x, "0a..0b").spoilt(), 3);
        due.is("16 in one row, the other way", Ovens.padOf(x, "0b0a").spoilt(), 1);
        due.is("16 two places apart", Ovens.padOf(x, "0a0c0b").spoilt(), -6);
        due.is("16 rows side by side", Ovens.padOf(x, "1a:2b").spoilt(), 2);
        due.is("16 rows side by side", Ovens.padOf(x, "1a0b").spoilt(), 1);
        due.is("16 rows two apart", Ovens.padOf(x, "0a2b").spoilt(), -6);
        due.is("16 across a corner", Ovens.padOf(x, "0a1c1b").spoilt(), -6);
        due.is("16 one sort", Ovens.padOf(x, "0c1c").spoilt(), 1);
        due.is("16 one sort that may", Ovens.padOf(x, "0a1a").spoilt(), -6);
        due.is("16 by what was taken it is not", Ovens.padOf(x, "0a0-0b").spoilt(), -6);
        due.is("16 no parts", Ovens.padOf(x, "").spoilt(), -6);
        due.is("16 NO", Ovens.padOf(x, "0a0").spoilt(), -5);
        due.is("16 STATE", Ovens.padOf(x, "0a0b0d").spoilt(), -3);
        Ovens.padOf(x, "0a0b").done();
        due.is("16 no parts, but they stand so", x.spoilt(), -6);
        due.is("16 from the day before", Ovens.padOf(x, ".").spoilt(), 0);
        due.is("16 from the day before, taken", Ovens.padOf(x, "0-.").spoilt(), -6);
        due.is("16 from the day before, again", Ovens.padOf(x, "0-.0b").spoilt(), 2);
        x.apart(1, 0, false);
        due.is("16 may again", Ovens.padOf(x, ".").spoilt(), -6);
        p16LastRow();
    }

    private static void p16LastRow() {
        BrickOven x = new BrickOven();
        x.oven(4, 6);
        x.sort(5, 1, 0, 0);
        x.apart(5, 5, true);
        due.is("16 the last two rows", Ovens.padOf(x, "3f2f").spoilt(), 1);
        due.is("16 the first and the last", Ovens.padOf(x, "3f0f").spoilt(), -6);
        x.sort(0, 1, 0, 0);
        due.is("16 at the mouth", Ovens.padOf(x, "3a3a3a3a3a2a2a2a2a2a2f3f").spoilt(), 11);
        due.is("16 a mouth is not beside the next back", Ovens.padOf(x, "0a0a0a0a0a0f1f").spoilt(), -6);
        Ovens.padOf(x, "0f0a3f").done();
        x.oven(2, 2);
        due.is("16 loaves that went", Ovens.padOf(x, ".1f").spoilt(), -6);
    }

    private static void p17Ripe() {
        BrickOven x = new BrickOven();
        x.sort(0, 59, 0, 1);
        x.sort(1, 60, 28, 1);
        due.is("17 30 and 29", x.ripe(0, 0, 0), 2);
        due.is("17 30 and 29", x.ripe(0, 0, 1), 2);
        due.is("17 87 of 60 to 88", x.ripe(1, 0, 0), 3);
        due.is("17 87 of 60 to 88", x.ripe(1, 0, 1), 3);
        x.sort(1, 60, 26, 1);
        due.is("17 none", x.ripe(1, 0, 0), -6);
        due.is("17 none", x.ripe(1, 0, 1), -6);
        x.sort(2, 465, 0, 1);
        due.is("17 all heat that there is", x.ripe(2, 0, 0), 30);
        due.is("17 cold then", x.ripe(2, 0, 1), 999);
        x.sort(2, 466, 0, 1);
        due.is("17 never", x.ripe(2, 0, 0), -6);
        BrickOven y = Ovens.steady(1);
        y.sort(0, 500, 499, 1);
        due.is("17 to 999", y.ripe(0, 0, 0), 500);
        due.is("17 to 999", y.ripe(0, 0, 1), 999);
        y.sort(0, 500, 498, 1);
        due.is("17 to 998", y.ripe(0, 0, 1), 998);
        y.sort(0, 500, 500, 1);
        due.is("17 no further than 999", y.ripe(0, 0, 1), 999);
        y.less(3, 1);
        due.is("17 a cold place", y.ripe(0, 3, 0), -6);
        due.is("17 UNKNOWN sort", y.ripe(1, 0, 9), -1);
        due.is("17 UNKNOWN place", y.ripe(0, 4, 9), -1);
        due.is("17 OUTSIDE", y.ripe(0, 0, 2), -2);
        due.is("17 OUTSIDE", y.ripe(0, 0, -1), -2);
        for (int wild : WILD) {
            due.is("17 wild", y.ripe(wild, 0, 0), -1);
            due.is("17 wild", y.ripe(0, wild, 0), -1);
            due.is("17 wild", y.ripe(0, 0, wild), -2);
        }
        p17DoorCostsNothing();
    }

    private static void p17DoorCostsNothing() {
        BrickOven x = new BrickOven();
        x.set(1, 0);
        x.set(2, 9);
        x.sort(0, 60, 0, 1);
        Ovens.padOf(x, "0a").done();
        due.is("17 door opened before", x.told(8), 1);
        due.is("17 the door costs nothing", x.ripe(0, 0, 0), 2);
        due.is("17 the oven is taken as empty", x.orders(1111, 0), 1);
        due.is("18 the door costs nothing", x.hot(30), -6);
        due.is("19 the door costs nothing", x.still(0), 1);
        x.seen(60);
        due.is("25 the door costs nothing", x.stood(0, 0), 2);
        due.is("27 the door counts by chance alone", x.winds(0, 0, 0, 2, 0), 1);
    }

    private static void p18Hot() {
        BrickOven x = new BrickOven();
        due.is("18 hot(31)", x.hot(31), 0);
        due.is("18 hot(30)", x.hot(30), 1);
        due.is("18 hot(1)", x.hot(1), 30);
        due.is("18 hot(0)", x.hot(0), -6);
        x.set(1, 7);
        due.is("18 30, 23", x.hot(30), 1);
        due.is("18 30, 23", x.hot(24), 1);
        due.is("18 30, 23, 16", x.hot(23), 2);
        due.is("18 to 0", x.hot(1), 5);
        x.set(1, 0);
        due.is("18 never", x.hot(30), -6);
        due.is("18 now", x.hot(99), 0);
        x.set(0, 0);
        due.is("18 cold", x.hot(1), 0);
        due.is("18 cold", x.hot(0), -6);
        for (int wrong : new int[] {-1, 100, MIN, MAX}) {
            due.is("18 OUTSIDE", x.hot(wrong), -2);
        }
    }

    private static void p19Still() {
        BrickOven x = new BrickOven();
        due.is("19 no sorts", x.still(0), 0);
        x.sort(0, 1, 500, 1);
        x.sort(3, 465, 0, 1);
        x.sort(5, 300, 20, 1);
        due.is("19 now", x.still(0), 1 + 8 + 32);
        due.is("19 in a minute", x.still(1), 1 + 32);
        due.is("19 in 6: 300 are left", x.still(6), 1 + 32);
        due.is("19 in 7", x.still(7), 1);
        due.is("19 in 29", x.still(29), 1);
        due.is("19 in 30", x.still(30), 0);
        due.is("19 in 999", x.still(999), 0);
        x.less(0, 9);
        x.less(1, 9);
        x.less(2, 9);
        due.is("19 some place", x.still(6), 1 + 32);
        x.less(3, 1);
        due.is("19 no place", x.still(6), 1);
        for (int wrong : new int[] {-1, 1000, MIN, MAX}) {
            due.is("19 OUTSIDE", x.still(wrong), -2);
        }
        x.set(1, 0);
        due.is("19 as hot then", x.still(999) & 1, 1);
        x.oven(1, 1);
        due.is("19 one place", x.still(0) & 1, 1);
    }

    private static void p20Orders() {
        BrickOven x = Ovens.steady(10);
        x.oven(1, 6);
        x.sort(0, 10, 0, 1);
        x.sort(1, 20, 0, 1);
        x.sort(2, 30, 500, 1);
        due.is("20 the longer at the back", x.orders(12, 0), 1);
        due.is("20 the least", x.orders(12, 1), 21);
        due.is("20 the soonest", x.orders(12, 2), 2);
        due.is("20 alike", x.orders(112, 0), 1);
        due.is("20 only one", x.orders(321, 0), 1);
        due.is("20 only one", x.orders(321, 1), 321);
        due.is("20 six", x.orders(112233, 1), 332211);
        x.sort(0, 10, 100, 1);
        due.is("20 a patient one", x.orders(12, 0), 2);
        due.is("20 the least", x.orders(21, 1), 12);
        due.is("20 a pair and one", x.orders(121, 0), 3);
        due.is("20 a pair and one", x.orders(211, 1), 112);
        x.sort(1, 20, 400, 1);
        due.is("20 all different", x.orders(123, 0), 6);
        due.is("20 all of six", x.orders(123123, 0), 90);
        due.is("20 soonest", x.orders(123123, 2), 3);
        p20AllOfSix();
        p20Soonest();
        p20Edges(x);
    }

    private static void p20AllOfSix() {
        BrickOven x = Ovens.steady(10);
        x.oven(1, 6);
        for (int sort = 0; sort < 6; sort++) {
            x.sort(sort, 10 + sort, 400, 1);
        }
        due.is("20 every order of six", x.orders(654321, 0), 720);
        due.is("20 the least of them", x.orders(654321, 1), 123456);
        x.sort(0, 10, 0, 1);
        due.is("20 one sort only at the mouth", x.orders(123456, 0), 120);
        due.is("20 one sort only at the mouth", x.orders(123456, 1), 234561);
        x.sort(0, 20, 0, 1);
        due.is("20 one sort anywhere, behind two minutes", x.orders(123456, 0), 720);
    }

    /** Two orders that can be, of which the lesser is the later. */
    private static void p20Soonest() {
        BrickOven x = Ovens.steady(20);
        x.less(1, 9);
        x.sort(0, 20, 500, 1);
        x.sort(1, 60, 500, 1);
        due.is("20 both can be", x.orders(12, 0), 2);
        due.is("20 the least", x.orders(12, 1), 12);
        due.is("20 the soonest is of the other", x.orders(12, 2), 3);
    }

    private static void p20Edges(BrickOven x) {
        due.is("20 no loaves", x.orders(0, 0), 1);
        due.is("20 no loaves", x.orders(0, 1), 0);
        due.is("20 no loaves", x.orders(0, 2), 0);
        x.oven(1, 2);
        due.is("20 too long", x.orders(123, 0), 0);
        due.is("20 too long", x.orders(123, 1), -6);
        due.is("20 too long", x.orders(123, 2), -6);
        due.is("20 not too long", x.orders(12, 0), 2);
        due.is("20 UNKNOWN before too long", x.orders(1234, 0), -1);
        due.is("20 digit 0", x.orders(101, 0), -1);
        due.is("20 digit 0", x.orders(10, 2), -1);
        due.is("20 digit 7", x.orders(7, 0), -1);
        due.is("20 digit 9", x.orders(19, 0), -1);
        due.is("20 no sort", x.orders(666666, 0), -1);
        due.is("20 number", x.orders(666667, 0), -2);
        due.is("20 number", x.orders(-1, 0), -2);
        due.is("20 OUTSIDE before UNKNOWN", x.orders(4, 3), -2);
        due.is("20 OUTSIDE before UNKNOWN", x.orders(4, -1), -2);
        for (int wild : WILD) {
            due.is("20 wild", x.orders(wild, 0), -2);
            due.is("20 wild", x.orders(1, wild), -2);
        }
    }

    private static void p21Two() {
        BrickOven x = Ovens.steady(10);
        x.oven(2, 2);
        x.sort(0, 10, 0, 3);
        x.sort(1, 20, 0, 5);
        x.sort(2, 30, 0, 0);
        x.sort(3, 31, 0, 99);
        check21(x, 0, 0, 0, 0);
        check21(x, 1, 3, 0, 1);
        check21(x, 12, 8, 0, 21);
        check21(x, 1122, 16, 11, 22);
        check21(x, 1112, 14, 11, 21);
        check21(x, 3, 0, 0, 0);
        check21(x, 34, 0, 0, 0);
        check21(x, 314, 3, 0, 1);
        x.sort(1, 10, 0, 3);
        check21(x, 112, 9, 1, 12);
        check21(x, 222, 9, 2, 22);
        x.sort(1, 20, 0, 5);
        x.oven(2, 1);
        check21(x, 1122, 10, 2, 2);
        check21(x, 121, 8, 1, 2);
        due.is("21 five", x.two(11111, 0), -4);
        due.is("21 UNKNOWN before FULL", x.two(11115, 0), -1);
        due.is("21 OUTSIDE before UNKNOWN", x.two(5, 3), -2);
        due.is("21 OUTSIDE", x.two(1, -1), -2);
        due.is("21 OUTSIDE", x.two(666667, 0), -2);
        due.is("21 OUTSIDE", x.two(-1, 0), -2);
        due.is("21 UNKNOWN", x.two(10, 0), -1);
        x.oven(1, 6);
        due.is("21 STATE", x.two(1, 0), -3);
        due.is("21 STATE", x.two(0, 0), -3);
        due.is("21 FULL before STATE", x.two(11111, 0), -4);
        due.is("21 UNKNOWN before STATE", x.two(5, 0), -1);
        for (int wild : WILD) {
            due.is("21 wild", x.two(wild, 0), -2);
            due.is("21 wild", x.two(1, wild), -2);
        }
        p21LeastOfRowZero();
    }

    /** Only a and b can share a row, a behind b: row 0 is the lesser number, not that of the lesser sorts. */
    private static void p21LeastOfRowZero() {
        BrickOven x = Ovens.steady(10);
        x.oven(2, 2);
        x.less(1, 3);
        x.sort(0, 20, 0, 1);
        x.sort(1, 14, 0, 1);
        x.sort(2, 10, 0, 1);
        check21(x, 123, 3, 3, 12);
    }

    private static void check21(BrickOven x, int loaves, int most, int zero, int one) {
        due.is("21 two(" + loaves + ", 0)", x.two(loaves, 0), most);
        due.is("21 two(" + loaves + ", 1)", x.two(loaves, 1), zero);
        due.is("21 two(" + loaves + ", 2)", x.two(loaves, 2), one);
    }

    private static void p22Warm() {
        BrickOven x = Ovens.steady(50);
        x.sort(0, 10, 0, 1);
        x.sort(1, 97, 1, 1);
        x.sort(2, 500, 0, 1);
        due.is("22 no loaves", x.warm(0), 0);
        due.is("22 ten of one", x.warm(1), 1);
        due.is("22 97 of one", x.warm(2), 1);
        due.is("22 the heat stays", x.told(3), 50);
        x.set(1, 9);
        due.is("22 a minute's heat alone", x.warm(1), 10);
        due.is("22 97 or 98", x.warm(2), warmByHand(97, 98, 9));
        due.is("22 500", x.warm(3), warmByHand(500, 500, 9));
        x.less(0, 9);
        x.less(1, 9);
        x.less(2, 9);
        x.less(3, 9);
        due.is("22 less in all places", x.warm(1), 19);
        due.is("22 too many", x.warm(11111), -6);
        due.is("22 as many as places", x.warm(1111), 19);
        // 90, 81 and so on to 9: all heat that 99 has in a place of 9 less
        x.sort(4, 495, 0, 1);
        due.is("22 as hot as can be", x.warm(5), 99);
        due.is("22 no such", x.warm(12), -6);
        due.is("22 UNKNOWN", x.warm(4), -1);
        due.is("22 UNKNOWN", x.warm(10), -1);
        due.is("22 UNKNOWN before too many", x.warm(111114), -1);
        for (int wrong : new int[] {-1, 666667, MIN, MAX}) {
            due.is("22 OUTSIDE", x.warm(wrong), -2);
        }
    }

    private static int warmByHand(int from, int to, int cools) {
        for (int heat = 0; heat <= 99; heat++) {
            int sum = 0;
            for (int hot = heat; hot > 0; hot -= cools) {
                sum += hot;
                if (from <= sum && sum <= to) {
                    return heat;
                }
            }
        }
        return -6;
    }

    private static void p23Seen() {
        BrickOven x = new BrickOven();
        due.is("23 -1", x.seen(-1), -2);
        due.is("23 5001", x.seen(5001), -2);
        for (int i = 1; i <= 6; i++) {
            due.is("23 seen", x.seen(i % 2 * 5000), i);
        }
        due.is("23 the seventh", x.seen(0), -4);
        due.is("23 OUTSIDE before FULL", x.seen(5001), -2);
        for (int wild : WILD) {
            due.is("23 wild", x.seen(wild), -2);
        }
        due.is("23 sights", x.told(7), 6);
    }

    private static void p24Forget() {
        BrickOven x = new BrickOven();
        due.is("24 none", x.forget(), 0);
        x.seen(1);
        x.seen(2);
        due.is("24 two", x.forget(), 2);
        due.is("24 none", x.forget(), 0);
        due.is("24 told", x.told(7), 0);
        due.is("24 seen", x.seen(3), 1);
        due.is("24 stood", x.stood(1, -1), -2);
    }

    private static void p25Stood() {
        BrickOven x = new BrickOven();
        x.less(1, 1);
        x.less(2, 9);
        x.seen(59);
        x.seen(57);
        x.seen(465);
        x.seen(0);
        due.is("25 59: places 0 and 3", x.stood(0, -1), 2);
        due.is("25 first", x.stood(0, 0), 2);
        due.is("25 second", x.stood(0, 1), 302);
        due.is("25 no third", x.stood(0, 2), -6);
        due.is("25 57: place 1", x.stood(1, 0), 102);
        due.is("25 57: alone", x.stood(1, -1), 1);
        due.is("25 all heat: 30 to 99", x.stood(2, -1), 140);
        due.is("25 from 30", x.stood(2, 0), 30);
        due.is("25 to 99", x.stood(2, 69), 99);
        due.is("25 then place 3", x.stood(2, 70), 330);
        due.is("25 the last", x.stood(2, 139), 399);
        due.is("25 no more", x.stood(2, 140), -6);
        due.is("25 nothing", x.stood(3, -1), 0);
        due.is("25 nothing", x.stood(3, 0), -6);
        due.is("25 below -1", x.stood(0, -2), -6);
        due.is("25 no such sight", x.stood(4, -1), -2);
        due.is("25 no such sight", x.stood(-1, -1), -2);
        due.is("25 no such sight", x.stood(4, -9), -2);
        for (int wild : WILD) {
            due.is("25 wild", x.stood(wild, 0), -2);
            due.is("25 wild", x.stood(0, wild), -6);
        }
        x.set(0, 0);
        due.is("25 cold: all", x.stood(3, -1), 396);
        due.is("25 cold: first", x.stood(3, 0), 1);
        due.is("25 cold: place 1", x.stood(3, 99), 101);
        p25To99();
    }

    private static void p25To99() {
        BrickOven x = Ovens.steady(1);
        x.seen(99);
        x.seen(100);
        due.is("25 99 minutes", x.stood(0, 0), 99);
        due.is("25 not 100", x.stood(1, -1), 0);
    }

    private static void p26Both() {
        BrickOven x = new BrickOven();
        due.is("26 no sights", x.both(), 15);
        x.oven(3, 6);
        due.is("26 no sights", x.both(), 63);
        x.less(2, 5);
        x.seen(59);
        due.is("26 not place 2", x.both(), 59);
        x.seen(30);
        due.is("26 each its own minutes", x.both(), 59);
        x.seen(25);
        due.is("26 no place", x.both(), 0);
        x.forget();
        x.seen(25);
        x.seen(49);
        due.is("26 place 2", x.both(), 4);
        x.oven(1, 1);
        due.is("26 sights went", x.both(), 1);
    }

    private static void p27Winds() {
        BrickOven x = new BrickOven();
        x.set(1, 0);
        x.set(2, 5);
        x.sort(0, 60, 0, 1);
        x.sort(1, 55, 0, 1);
        x.sort(2, 85, 1, 1);
        x.sort(3, 75, 5, 1);
        checkWinds(x, 0, 4, 2, 3, 5);
        checkWinds(x, 1, 4, 2, 2, 5);
        checkWinds(x, 2, 5, 3, 1, 4);
        checkWinds(x, 3, 5, 3, 1, 2);
        checkWinds(x, 3, 3, 3, 3, 10);
        checkWinds(x, 0, 0, 2, 1, 1);
        checkWinds(x, 0, 10, 2, 0, 1);
        checkWinds(x, 1, 10, 2, 1, 1);
        checkWinds(x, 0, 3, 0, 0, 1);
        checkWinds(x, 0, 3, 1, 0, 1);
        x.sort(4, 500, 500, 1);
        x.set(0, 99);
        checkWinds(x, 4, 7, 10, 1, 1);
        x.less(3, 9);
        x.sort(5, 90, 0, 1);
        due.is("27 less", x.winds(5, 3, 9, 1, 0), 1);
        p27Cold();
        p27Refused(x);
        p27Exact();
    }

    private static void checkWinds(BrickOven x, int sort, int t, int m, long upper, long lower) {
        due.is("27 winds upper " + sort + " " + t + " " + m, x.winds(sort, 0, t, m, 0), upper);
        due.is("27 winds lower " + sort + " " + t + " " + m, x.winds(sort, 0, t, m, 1), lower);
    }

    /** 20, then 13 or 8, then 6 or 1 or 1 or 0, of each 9 less. */
    private static void p27Cold() {
        BrickOven x = new BrickOven();
        x.set(0, 20);
        x.set(1, 7);
        x.set(2, 5);
        x.less(0, 9);
        x.sort(0, 11, 0, 1);
        x.sort(1, 15, 0, 1);
        checkWinds(x, 0, 2, 3, 1, 5);
        checkWinds(x, 1, 2, 3, 4, 5);
        x.less(0, 0);
        x.sort(0, 29, 0, 1);
        x.sort(1, 34, 0, 1);
        x.sort(2, 39, 0, 1);
        checkWinds(x, 0, 2, 3, 4, 25);
        checkWinds(x, 1, 2, 3, 4, 25);
        checkWinds(x, 2, 2, 3, 16, 25);
        x.sort(3, 28, 0, 1);
        checkWinds(x, 3, 2, 4, 1, 25);
    }

    private static void p27Refused(BrickOven x) {
        long unknown = -1000000000000000001L;
        long outside = -1000000000000000002L;
        due.is("27 place", x.winds(0, 4, 11, 0, 0), unknown);
        due.is("27 place", x.winds(0, -1, 0, 0, 0), unknown);
        due.is("27 sort", x.winds(6, 0, 11, 0, 0), unknown);
        due.is("27 sort", x.winds(-1, 0, 0, 0, 0), unknown);
        due.is("27 sort", new BrickOven().winds(0, 0, 0, 0, 0), unknown);
        due.is("27 t", x.winds(0, 0, 11, 0, 0), outside);
        due.is("27 t", x.winds(0, 0, -1, 0, 0), outside);
        due.is("27 m", x.winds(0, 0, 0, 11, 0), outside);
        due.is("27 m", x.winds(0, 0, 0, -1, 0), outside);
        due.is("27 part", x.winds(0, 0, 0, 0, 2), outside);
        due.is("27 part", x.winds(0, 0, 0, 0, -1), outside);
        for (int wild : WILD) {
            due.is("27 wild", x.winds(wild, 0, wild, 0, 0), unknown);
            due.is("27 wild", x.winds(0, wild, 0, wild, 0), unknown);
            due.is("27 wild", x.winds(0, 0, wild, 0, 0), outside);
            due.is("27 wild", x.winds(0, 0, 0, wild, 0), outside);
            due.is("27 wild", x.winds(0, 0, 0, 0, wild), outside);
        }
    }

    /** Ten minutes, ripe only if the door is opened in none of the first nine. */
    private static void p27Exact() {
        BrickOven x = Ovens.steady(20);
        x.set(2, 1);
        x.sort(0, 200, 0, 1);
        due.is("27 nine shut, upper", x.winds(0, 0, 1, 10, 0), 387420489L);
        due.is("27 nine shut, lower", x.winds(0, 0, 1, 10, 1), 1000000000L);
        x.sort(0, 155, 0, 1);
        due.is("27 open in all nine, upper", x.winds(0, 0, 7, 10, 0), 40353607L);
        due.is("27 open in all nine, lower", x.winds(0, 0, 7, 10, 1), 1000000000L);
    }

    private static void p28Year() {
        BrickOven x = Ovens.steady(10);
        x.less(1, 3);
        x.sort(0, 90, 60, 7);
        x.sort(2, 200, 20, 5);
        x.sort(5, 10, 300, 1);
        int[] want = yearByHand(4711, 99);
        for (int what = 0; what < 4; what++) {
            due.is("28 year " + what, x.year(4711, 99, what), want[what]);
        }
        BrickOven y = Ovens.steady(10);
        y.sort(2, 1, 500, 9);
        // x becomes 74: sort 2, place 12 left over by 4, 1 and 1 left over minutes
        due.is("28 one day", y.year(0, 1, 1), 1);
        due.is("28 its worth", y.year(0, 1, 3), 9);
        y.sort(2, 20, 0, 9);
        due.is("28 two minutes", y.year(0, 1, 1), 1);
        y.oven(1, 1);
        due.is("28 one place", y.year(0, 1, 1), 1);
        due.is("28 nothing of sorts that are not", new BrickOven().year(5, 99, 0), 0);
        due.is("28 the oven stays", y.told(3), 10);
        int[][] wrong = {{-1, 1, 0}, {10000, 1, 0}, {0, 0, 0}, {0, 100, 0}, {0, 1, -1}, {0, 1, 4}};
        for (int[] v : wrong) {
            due.is("28 OUTSIDE", x.year(v[0], v[1], v[2]), -2);
        }
        for (int wild : WILD) {
            due.is("28 wild", x.year(wild, 1, 0), -2);
            due.is("28 wild", x.year(0, wild, 0), -2);
            due.is("28 wild", x.year(0, 1, wild), -2);
        }
        due.is("28 edges", x.year(9999, 99, 0) >= 0 ? 1 : 0, 1);
    }

    /** The year of p28Year's oven, which is steady at 10 with 3 less in place 1. */
    private static int[] yearByHand(int seed, int days) {
        int[] sums = new int[4];
        int x = seed;
        for (int i = 0; i < days; i++) {
            x = (75 * x + 74) % 65537;
            int rate = x / 6 % 4 == 1 ? 7 : 10;
            int baked = rate * (1 + x / 64 % 40);
            int sort = x % 6;
            if (sort == 0 || sort == 2 || sort == 5) {
                int needs = sort == 0 ? 90 : sort == 2 ? 200 : 10;
                int most = sort == 0 ? 150 : sort == 2 ? 220 : 310;
                int how = baked < needs ? 0 : baked > most ? 2 : 1;
                sums[how]++;
                sums[3] += how != 1 ? 0 : sort == 0 ? 7 : sort == 2 ? 5 : 1;
            }
        }
        return sums;
    }

    private static void p29Image() {
        BrickOven x = new BrickOven();
        due.is("29 image(0)", x.image(0), 1);
        due.is("29 image(0)", x.image(0), 1);
        due.is("29 only that one", x.restore(1), -3);
        due.is("29 image(1)", x.image(1), 1);
        for (int wrong : new int[] {-1, 2, MIN, MAX}) {
            due.is("29 OUTSIDE", x.image(wrong), -2);
        }
        x.set(0, 50);
        x.image(0);
        x.set(0, 60);
        x.restore(1);
        due.is("29 image 1", x.told(3), 30);
        x.restore(0);
        due.is("29 image 0, kept again", x.told(3), 50);
        due.is("29 image 1 is still there", x.restore(1), 1);
    }

    private static void p30Restore() {
        BrickOven x = new BrickOven();
        x.oven(3, 5);
        x.set(0, 80);
        x.set(1, 2);
        x.set(2, 3);
        x.less(4, 9);
        x.sort(0, 70, 20, 4);
        x.sort(3, 500, 20, 4);
        x.apart(0, 3, true);
        x.seen(80);
        Ovens.padOf(x, "0a0d.0-0d2a").done();
        x.seen(75);
        Ovens.padOf(x, "0a:");
        String before = Ovens.tellAll(x);
        due.is("30 image", x.image(1), 1);
        due.is("30 stood", x.stood(1, 0), 1);
        x.oven(1, 2);
        x.set(0, 1);
        x.set(1, 0);
        x.set(2, 9);
        x.less(0, 1);
        x.sort(0, 1, 2, 3);
        x.sort(5, 1, 2, 3);
        x.apart(0, 3, false);
        x.apart(5, 1, true);
        x.seen(1);
        x.seen(2);
        Ovens.padOf(x, "0a0a:0-").done();
        Ovens.sayAll(x, "..");
        due.is("30 restore", x.restore(1), 1);
        due.is("30 the pad is not of it", x.told(0), 2);
        due.is("30 the door", x.told(8), 1);
        due.is("30 the two rows' heat", x.heat(), 80 - 2 - 3 - 2 - 3 - 2);
        Ovens.padOf(x, "0a:");
        due.is("30 stood", x.stood(1, 0), 1);
        due.holds("30 all as it was", Ovens.tellAll(x).equals(before));
        due.is("30 a second time", x.restore(1), 1);
        due.is("30 sort 5 went", x.told(70), -2);
        x.sort(5, 9, 9, 9);
        due.is("30 twos of 5 went", x.told(73), 0);
        due.is("30 STATE", x.restore(0), -3);
        for (int wrong : new int[] {-1, 2, MIN, MAX}) {
            due.is("30 OUTSIDE", x.restore(wrong), -2);
        }
        p30Sights();
        p30FullOven();
    }

    private static void p30Sights() {
        BrickOven x = new BrickOven();
        x.image(0);
        for (int i = 0; i < 6; i++) {
            x.seen(30 + i);
        }
        x.image(1);
        x.restore(0);
        due.is("30 no SIGHTS", x.told(7), 0);
        due.is("30 one more", x.seen(4999), 1);
        x.restore(1);
        due.is("30 six SIGHTS", x.told(7), 6);
        due.is("30 full of them", x.seen(1), -4);
        due.is("30 the first is as it was", x.stood(0, 0), 1);
        x.forget();
        x.restore(1);
        due.is("30 they are not forgotten there", x.forget(), 6);
    }

    private static void p30FullOven() {
        BrickOven x = fullOven();
        String before = Ovens.tellAll(x);
        x.image(0);
        due.holds("29 to keep changes nothing", Ovens.tellAll(x).equals(before));
        x.oven(1, 1);
        x.restore(0);
        due.holds("30 all 24 places", Ovens.tellAll(x).equals(before));
        Ovens.padOf(x, "3-2-.").done();
        x.restore(0);
        due.is("30 what was taken stands there", x.state(3, 5, 1), 45);
        due.is("30 what came out is not out", x.out(0), 0);
        due.is("30 PARTS", Ovens.padOf(x, ".").done(), 1);
        due.is("30 it bakes on, 45 and 45", x.state(3, 5, 1), 90);
        x.restore(0);
        due.is("30 an image is not changed by what is done then", x.state(3, 5, 1), 45);
    }

    private static void p31Told() {
        BrickOven x = new BrickOven();
        x.oven(3, 6);
        x.set(0, 41);
        x.set(1, 6);
        x.set(2, 8);
        for (int place = 0; place < 6; place++) {
            x.less(place, place + 2);
        }
        x.sort(0, 11, 12, 13);
        x.sort(5, 21, 22, 23);
        x.apart(0, 5, true);
        x.apart(5, 5, true);
        x.seen(3);
        x.say('!');
        int[] first = {1, 3, 6, 41, 6, 8, 33, 1, 0, -2, 2, 3, 4, 5, 6, 7, -2, -2, -2, -2, 11, 12, 13, 32, -2};
        for (int what = 0; what < first.length; what++) {
            due.is("31 told(" + what + ")", x.told(what), first[what]);
        }
        int[] last = {21, 22, 23, 33, -2, -2, -2, -2, -2, -2, -2, -2, -2, -2};
        for (int i = 0; i < last.length; i++) {
            due.is("31 told(" + (70 + i) + ")", x.told(70 + i), last[i]);
        }
        for (int what = 30; what < 70; what++) {
            due.is("31 sorts that are not: told(" + what + ")", x.told(what), -2);
        }
        for (int wild : new int[] {-1, -10, -20, 100, MIN, MIN + 9, MIN + 10, MIN + 20, MAX}) {
            due.is("31 told(" + wild + ")", x.told(wild), -2);
        }
        Ovens.padOf(x, "0a").done();
        due.is("31 the door was opened", x.told(8), 1);
        Ovens.padOf(x, ".").done();
        due.is("31 the door was not", x.told(8), 0);
        Ovens.padOf(x, "0-.").done();
        due.is("31 the door was not, since", x.told(8), 0);
    }
}
