import java.util.Arrays;

/**
 * How calls are refused: each number of each call at both ends of its range and just beside them; of several
 * refusals the one that comes first; and that a refused call, like one that only asks, changes nothing.
 */
public final class RefusedTest {
    private static final int UNKNOWN = -1, OUTSIDE = -2, STATE = -3, FULL = -4, NO = -5, NONE = -6;
    private static final Due due = new Due("RefusedTest");

    private interface Call {
        long on(BrickOven x, int[] v);
    }

    /** A call with numbers that are well, and for each of them the range on the busy oven and the refusal. */
    private static final class Row {
        final String name;
        final boolean asks;
        final Call call;
        final int[] good;
        final int[][] ranges;

        Row(String name, boolean asks, Call call, int[] good, int[]... ranges) {
            this.name = name;
            this.asks = asks;
            this.call = call;
            this.good = good;
            this.ranges = ranges;
        }

        String with(int[] v) {
            return name + Arrays.toString(v);
        }
    }

    private static int[] unknown(int least, int most) {
        return new int[] {least, most, UNKNOWN};
    }

    private static int[] outside(int least, int most) {
        return new int[] {least, most, OUTSIDE};
    }

    private static int[] good(int... v) {
        return v;
    }

    private static final Row[] ROWS = {
        new Row("oven", false, (x, v) -> x.oven(v[0], v[1]), good(2, 3), outside(1, 4), outside(1, 6)),
        new Row("set 0", false, (x, v) -> x.set(0, v[0]), good(50), outside(0, 99)),
        new Row("set 1", false, (x, v) -> x.set(1, v[0]), good(5), outside(0, 9)),
        new Row("set 2", false, (x, v) -> x.set(2, v[0]), good(5), outside(0, 9)),
        new Row("set", false, (x, v) -> x.set(v[0], 1), good(1), outside(0, 2)),
        new Row("less", false, (x, v) -> x.less(v[0], v[1]), good(1, 1), unknown(0, 4), outside(0, 9)),
        new Row("sort", false, (x, v) -> x.sort(v[0], v[1], v[2], v[3]), good(0, 9, 9, 9), unknown(0, 5),
            outside(1, 500), outside(0, 500), outside(0, 99)),
        new Row("apart", false, (x, v) -> x.apart(v[0], v[1], true), good(0, 1), unknown(0, 5), unknown(0, 5)),
        new Row("not apart", false, (x, v) -> x.apart(v[0], v[1], false), good(0, 2), unknown(0, 5), unknown(0, 5)),
        new Row("say", false, (x, v) -> x.say(v[0]), good('.'), outside(33, 126)),
        new Row("fault", true, (x, v) -> x.fault(), good()),
        new Row("judge", true, (x, v) -> x.judge(v[0]), good(2), outside(0, 5)),
        new Row("heat", true, (x, v) -> x.heat(), good()),
        new Row("behind", true, (x, v) -> x.behind(v[0], v[1], v[2]), good(1, 2, 1), unknown(0, 2), unknown(0, 4),
            outside(0, 1)),
        new Row("out", true, (x, v) -> x.out(v[0]), good(1), outside(0, 3)),
        new Row("state", true, (x, v) -> x.state(v[0], v[1], v[2]), good(1, 2, 1), unknown(0, 2), unknown(0, 4),
            outside(0, 1)),
        new Row("spoilt", true, (x, v) -> x.spoilt(), good()),
        new Row("ripe", true, (x, v) -> x.ripe(v[0], v[1], v[2]), good(1, 2, 1), unknown(0, 4), unknown(0, 4),
            outside(0, 1)),
        new Row("hot", true, (x, v) -> x.hot(v[0]), good(9), outside(0, 99)),
        new Row("still", true, (x, v) -> x.still(v[0]), good(3), outside(0, 999)),
        new Row("orders", true, (x, v) -> x.orders(1234, v[0]), good(0), outside(0, 2)),
        new Row("two", true, (x, v) -> x.two(1234, v[0]), good(0), outside(0, 2)),
        new Row("warm", true, (x, v) -> x.warm(1234), good()),
        new Row("seen", false, (x, v) -> x.seen(v[0]), good(9), outside(0, 5000)),
        new Row("stood", true, (x, v) -> x.stood(v[0], -1), good(1), outside(0, 2)),
        new Row("both", true, (x, v) -> x.both(), good()),
        new Row("winds", true, (x, v) -> plain(x.winds(v[0], v[1], v[2], v[3], v[4])), good(1, 1, 1, 1, 1),
            unknown(0, 4), unknown(0, 4), outside(0, 10), outside(0, 10), outside(0, 1)),
        new Row("year", true, (x, v) -> x.year(v[0], v[1], v[2]), good(5, 5, 1), outside(0, 9999), outside(1, 99),
            outside(0, 3)),
        new Row("image", false, (x, v) -> x.image(v[0]), good(1), outside(0, 1)),
        new Row("restore", false, (x, v) -> x.restore(v[0]), good(1), outside(0, 1)),
        new Row("told", true, (x, v) -> x.told(v[0]), good(1), outside(0, 8)),
        new Row("told LESS", true, (x, v) -> x.told(v[0]), good(12), outside(10, 14)),
        new Row("told SORT 4", true, (x, v) -> x.told(v[0]), good(61), outside(60, 63)),
    };

    public static void main(String[] args) {
        busyIsBusy();
        BrickOven twin = busy();
        String before = Ovens.tellAll(twin);
        String images = tellImages(twin);
        for (Row row : ROWS) {
            ends(row);
            beside(row, before, images);
            two(row);
            if (row.asks) {
                asksOnly(row, before, images);
            }
        }
        orderOfRefusals();
        refusedByState(before, images);
        refusedWhenFull();
        signsSaid();
        due.end();
    }

    /** What winds answers, so that its refusals are told like all others. */
    private static long plain(long fraction) {
        return fraction < 0 ? fraction - BrickOven.GONE : fraction;
    }

    /** Three rows of five with sorts a to e, loaves, an open door, three sights, two images and a day on the pad. */
    private static BrickOven busy() {
        BrickOven x = new BrickOven();
        x.oven(3, 5);
        x.set(0, 40);
        for (int sort = 0; sort < 5; sort++) {
            x.sort(sort, 40 + sort, 100, 10 + sort);
        }
        x.image(0);
        x.set(2, 3);
        x.less(2, 4);
        x.less(4, 6);
        x.apart(0, 1, true);
        x.apart(4, 4, true);
        x.seen(36);
        x.seen(70);
        Ovens.padOf(x, "0a1b1c1d.0-2e2e.1-").done();
        x.seen(0);
        x.image(1);
        x.less(0, 2);
        return Ovens.padOf(x, ".0a.2-");
    }

    /** Were it not, fewer changes would be seen. */
    private static void busyIsBusy() {
        BrickOven x = busy();
        due.is("busy: a loaf stands there", x.state(1, 1, 0), 2);
        due.is("busy: it is baked", x.state(1, 1, 1), 40 + 36);
        due.is("busy: two came out ripe", x.out(1), 2);
        due.is("busy: the door is open", x.told(8), 1);
        due.is("busy: SIGHTS", x.told(7), 3);
        due.is("busy: the day can be", x.judge(0), NONE);
        due.is("busy: image 0 is another", x.restore(0) + x.told(7), 1);
        due.is("busy: image 1 is another", x.restore(1) + x.told(10), 1);
    }

    private static String tellImages(BrickOven x) {
        x.restore(0);
        String first = Ovens.tellAll(x);
        x.restore(1);
        return first + " " + Ovens.tellAll(x);
    }

    private static void unchanged(String name, BrickOven x, String before, String images) {
        due.holds(name + " changes nothing", Ovens.tellAll(x).equals(before));
        due.holds(name + " changes no image", tellImages(x).equals(images));
    }

    private static boolean isAnswer(long got) {
        return got >= 0 || got == NONE;
    }

    /** The least and the most are not refused. */
    private static void ends(Row row) {
        for (int at = 0; at < row.ranges.length; at++) {
            for (int end = 0; end < 2; end++) {
                int[] v = row.good.clone();
                v[at] = row.ranges[at][end];
                long got = row.call.on(busy(), v);
                due.holds(row.with(v) + " is not refused, but answers " + got, isAnswer(got));
            }
        }
    }

    /** Just below, just above and far away are refused. */
    private static void beside(Row row, String before, String images) {
        for (int at = 0; at < row.ranges.length; at++) {
            int[] range = row.ranges[at];
            int most = range[1];
            int[] wrong = {range[0] - 1, most + 1, Ovens.MIN, Ovens.MIN + most, Ovens.MAX - most, Ovens.MAX};
            for (int value : wrong) {
                int[] v = row.good.clone();
                v[at] = value;
                BrickOven x = busy();
                due.is(row.with(v), row.call.on(x, v), range[2]);
                unchanged(row.with(v), x, before, images);
            }
        }
    }

    /** Of two wrong numbers an unknown one is told before one that is outside, whichever stands first. */
    private static void two(Row row) {
        for (int at = 0; at < row.ranges.length; at++) {
            for (int other = 0; other < row.ranges.length; other++) {
                int[] v = row.good.clone();
                v[at] = row.ranges[at][1] + 1;
                v[other] = row.ranges[other][0] - 1;
                int want = Math.max(row.ranges[at][2], row.ranges[other][2]);
                due.is(row.with(v), row.call.on(busy(), v), want);
            }
        }
    }

    private static void asksOnly(Row row, String before, String images) {
        BrickOven x = busy();
        due.holds(row.with(row.good), isAnswer(row.call.on(x, row.good)));
        unchanged(row.with(row.good), x, before, images);
    }

    /** Where a call names its refusals in another order, or where the state has a say. */
    private static void orderOfRefusals() {
        BrickOven x = busy();
        due.is("orders: what before a digit", x.orders(6, 3), OUTSIDE);
        due.is("orders: the number before a digit", x.orders(666667, 0), OUTSIDE);
        due.is("orders: a digit before too many", x.orders(666666, 0), UNKNOWN);
        due.is("warm: the number before a digit", x.warm(700000), OUTSIDE);
        due.is("warm: a digit", x.warm(6), UNKNOWN);
        due.is("two: what before a digit", x.two(6, -1), OUTSIDE);
        due.is("two: what before too many", x.two(11111, 3), OUTSIDE);
        due.is("two: a digit before too many", x.two(11116, 0), UNKNOWN);
        due.is("two: four are not too many", x.two(1111, 0) < 0 ? 1 : 0, 0);
        due.is("two: five are", x.two(11111, 0), FULL);
        x.oven(1, 5);
        due.is("two: too many before one ROW", x.two(11111, 0), FULL);
        due.is("two: a digit before one ROW", x.two(6, 0), UNKNOWN);
        due.is("two: what before one ROW", x.two(1, 3), OUTSIDE);
        due.is("two: one ROW", x.two(1, 0), STATE);
        due.is("two: one ROW, no loaves", x.two(0, 2), STATE);
        due.is("stood: no such SIGHT before no such i", x.stood(0, -2), OUTSIDE);
        x.seen(5);
        due.is("stood: no such i", x.stood(0, -2), NONE);
        orderOfDays();
    }

    private static void orderOfDays() {
        BrickOven x = busy();
        Ovens.padOf(x, "0f0");
        due.is("judge: OUTSIDE before NO", x.judge(6), OUTSIDE);
        due.is("behind: UNKNOWN before OUTSIDE, NO", x.behind(3, 0, 2), UNKNOWN);
        due.is("behind: UNKNOWN before OUTSIDE, NO", x.behind(0, 5, 2), UNKNOWN);
        due.is("behind: OUTSIDE before NO", x.behind(0, 0, 2), OUTSIDE);
        for (int what = 0; what < 6; what++) {
            due.is("judge: NO before STATE", x.judge(what), NO);
        }
        due.is("heat: NO before STATE", x.heat(), NO);
        due.is("behind: NO before STATE", x.behind(0, 0, 0), NO);
        due.is("spoilt: NO before STATE", x.spoilt(), NO);
        due.is("done: NO before STATE", x.done(), NO);
        Ovens.padOf(x, "0f");
        due.is("judge: OUTSIDE before STATE", x.judge(-1), OUTSIDE);
        due.is("behind: UNKNOWN before STATE", x.behind(0, 5, 0), UNKNOWN);
        due.is("behind: OUTSIDE before STATE", x.behind(0, 0, 2), OUTSIDE);
        due.is("judge(0) is not refused", x.judge(0), 0);
        due.is("judge(1) is not refused", x.judge(1), 1);
        for (int what = 2; what < 6; what++) {
            due.is("judge: STATE", x.judge(what), STATE);
        }
        due.is("heat: STATE", x.heat(), STATE);
        due.is("behind: STATE", x.behind(0, 0, 0), STATE);
        due.is("spoilt: STATE", x.spoilt(), STATE);
        due.is("done: STATE", x.done(), STATE);
    }

    /** Refusals by NO and STATE: a pad that can not be leaves all as it was. */
    private static void refusedByState(String before, String images) {
        for (String pad : new String[] {"0", "0a.1-?", "3a", "0a.0f", "2-.2-2-2-"}) {
            int want = pad.equals("0a.0f") || pad.equals("2-.2-2-2-") ? STATE : NO;
            BrickOven x = Ovens.padOf(busy(), pad);
            due.is("done of " + pad, x.done(), want);
            due.is("heat of " + pad, x.heat(), want);
            due.is("spoilt of " + pad, x.spoilt(), want);
            due.is("signs of " + pad, x.told(0), pad.length());
            unchanged("a day " + pad, Ovens.padOf(x, ".0a.2-"), before, images);
        }
        BrickOven y = new BrickOven();
        String fresh = Ovens.tellAll(y);
        due.is("restore(0)", y.restore(0), STATE);
        due.is("restore(1)", y.restore(1), STATE);
        due.holds("restore changes nothing", Ovens.tellAll(y).equals(fresh));
        y.image(1);
        due.is("restore(0), where only 1 was kept", y.restore(0), STATE);
        due.is("restore(1)", y.restore(1), 1);
    }

    private static void refusedWhenFull() {
        BrickOven x = busy();
        for (int i = 4; i <= 6; i++) {
            due.is("seen", x.seen(36), i);
        }
        String sights = Ovens.tellAll(x);
        due.is("seen: OUTSIDE before FULL", x.seen(5001), OUTSIDE);
        due.is("seen: OUTSIDE before FULL", x.seen(-1), OUTSIDE);
        due.is("seen: FULL", x.seen(36), FULL);
        due.holds("a SIGHT too many changes nothing", Ovens.tellAll(x).equals(sights));
        BrickOven y = Ovens.padOf(busy(), ".".repeat(60));
        String signs = Ovens.tellAll(y);
        due.is("say: OUTSIDE before FULL", y.say(32), OUTSIDE);
        due.is("say: OUTSIDE before FULL", y.say(127), OUTSIDE);
        due.is("say: FULL", y.say('0'), FULL);
        due.holds("a sign too many changes nothing", Ovens.tellAll(y).equals(signs));
    }

    /** "a sign that is said changes what fault() tells": a wrong sign is no refused call. */
    private static void signsSaid() {
        BrickOven x = busy();
        due.is("no fault", x.fault(), NONE);
        due.is("a wrong sign is kept", x.say('?'), 7);
        due.is("and is the fault", x.fault(), 6);
        due.is("a right one behind it is kept", x.say('.'), 8);
        due.is("and the fault stays", x.fault(), 6);
        due.is("a refused one is not kept", x.say(31), OUTSIDE);
        due.is("and the fault stays", x.fault(), 6);
        due.is("signs", x.told(0), 8);
        x.wipe();
        due.is("no fault", x.fault(), NONE);
    }
}
