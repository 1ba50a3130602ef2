import java.util.Random;

/**
 * Runs of 512 calls by chance on BrickOven and on PlainOven side by side: every answer must be the same. What the
 * next call depends on is asked of PlainOven alone, so that no object is used beyond what is promised.
 */
public final class AgainstPlainTest {
    private static final int RUNS = 500;
    private static final int CALLS = 512;
    private static final int MOST_TOLD = 20;
    private static final Due due = new Due("AgainstPlainTest");

    private final Random random;
    private final int mood;
    private final BrickOven x = new BrickOven();
    private final PlainOven y = new PlainOven();
    private String call = "";
    private int calls = 0;

    private AgainstPlainTest(long seed) {
        random = new Random(seed);
        mood = (int) (seed % 4);
    }

    public static void main(String[] args) {
        int runs = args.length > 0 ? Integer.parseInt(args[0]) : RUNS;
        for (int seed = 1; seed <= runs && due.wrong() < MOST_TOLD; seed++) {
            AgainstPlainTest run = new AgainstPlainTest(seed);
            while (run.calls < CALLS && due.wrong() < MOST_TOLD) {
                run.step(seed);
            }
        }
        due.end();
    }

    private void step(int seed) {
        int at = calls;
        long[] both = at < 8 ? prepare(at) : any();
        due.is("run " + seed + " call " + at + " " + call, both[0], both[1]);
    }

    private long[] pair(String name, long got, long want) {
        call = name;
        calls++;
        return new long[] {got, want};
    }

    /** Mostly from least to most, seldom just beside it or far away. */
    private int pick(int least, int most) {
        int chance = random.nextInt(60);
        if (chance == 0) {
            return least - 1;
        }
        if (chance == 1) {
            return most + 1;
        }
        if (chance == 2) {
            int[] wild = {Integer.MIN_VALUE, Integer.MAX_VALUE, -7, 1000000, random.nextInt()};
            return wild[random.nextInt(wild.length)];
        }
        return least + random.nextInt(most - least + 1);
    }

    private int someSort() {
        return pick(0, 5);
    }

    private int someLoaves(int most) {
        if (random.nextInt(25) == 0) {
            return pick(0, 666666);
        }
        int number = 0;
        int count = random.nextInt(most + 1);
        int there = y.told(6);
        for (int i = 0; i < count; i++) {
            int digit = 1 + random.nextInt(6);
            for (int tries = 0; tries < 8 && (there >> (digit - 1) & 1) == 0; tries++) {
                digit = 1 + random.nextInt(6);
            }
            number = number * 10 + digit;
        }
        return number;
    }

    private long[] prepare(int i) {
        if (i == 0) {
            int rows = 1 + random.nextInt(4);
            int places = 1 + random.nextInt(6);
            return pair("oven", x.oven(rows, places), y.oven(rows, places));
        }
        if (i == 1) {
            int cools = mood == 0 ? 0 : random.nextInt(mood == 1 ? 3 : 10);
            return pair("set", x.set(1, cools), y.set(1, cools));
        }
        return callSort(random.nextInt(6));
    }

    private long[] callSort(int sort) {
        int span = mood == 2 ? 500 : 120;
        int needs = pick(1, span);
        int bears = random.nextBoolean() ? pick(0, 500) : pick(0, 30);
        int worth = pick(0, random.nextBoolean() ? 99 : 3);
        return pair("sort(" + sort + ", " + needs + ", " + bears + ", " + worth + ")",
            x.sort(sort, needs, bears, worth), y.sort(sort, needs, bears, worth));
    }

    private long[] any() {
        int chance = random.nextInt(100);
        if (chance < 30) {
            return sayParts();
        }
        if (chance < 42) {
            return change();
        }
        if (chance < 62) {
            return askDay();
        }
        if (chance < 82) {
            return askFuture();
        }
        return askRest();
    }

    private char someSign() {
        if (random.nextInt(150) == 0) {
            return (char) (32 + random.nextInt(96));
        }
        String pool = random.nextInt(3) == 0 ? ".:.." : "0123abcdef---";
        return pool.charAt(random.nextInt(pool.length()));
    }

    /** Says a sign or, mostly, a whole part that may stand there; all answers but the last are compared here. */
    private long[] sayParts() {
        int chance = random.nextInt(40);
        if (chance == 0) {
            int sign = pick(33, 126);
            return pair("say(" + sign + ")", x.say(sign), y.say(sign));
        }
        if (chance == 1) {
            int sign = someSign();
            return pair("say(" + sign + ")", x.say(sign), y.say(sign));
        }
        if (chance < 14) {
            int sign = random.nextInt(4) == 0 ? ':' : '.';
            return pair("say(" + sign + ")", x.say(sign), y.say(sign));
        }
        int row = '0' + random.nextInt(y.told(1));
        due.is("say(" + row + ")", x.say(row), y.say(row));
        calls++;
        if (calls == CALLS) {
            return new long[2];
        }
        int sign = random.nextInt(5) < 2 ? '-' : 'a' + random.nextInt(6);
        return pair("say(" + sign + ")", x.say(sign), y.say(sign));
    }

    private long[] change() {
        switch (random.nextInt(12)) {
            case 0: {
                if (random.nextInt(4) != 0) {
                    return pair("fault()", x.fault(), y.fault());
                }
                int rows = pick(1, 4);
                int places = pick(1, 6);
                return pair("oven(" + rows + ", " + places + ")", x.oven(rows, places), y.oven(rows, places));
            }
            case 1: case 2: {
                int which = pick(0, 2);
                int v = which == 0 ? pick(0, 99) : pick(0, 9);
                return pair("set(" + which + ", " + v + ")", x.set(which, v), y.set(which, v));
            }
            case 3: {
                int heat = mood == 1 ? pick(0, 12) : pick(20, 99);
                return pair("set(0, " + heat + ")", x.set(0, heat), y.set(0, heat));
            }
            case 4: case 5: {
                int place = pick(0, y.told(2) - 1);
                int v = pick(0, 9);
                return pair("less(" + place + ", " + v + ")", x.less(place, v), y.less(place, v));
            }
            case 6: case 7:
                return callSort(someSort());
            case 8: case 9: {
                int sort = someSort();
                int other = someSort();
                boolean is = random.nextInt(3) != 0;
                return pair("apart(" + sort + ", " + other + ")", x.apart(sort, other, is), y.apart(sort, other, is));
            }
            case 10: {
                int k = pick(0, 1);
                return pair("image(" + k + ")", x.image(k), y.image(k));
            }
            default: {
                int k = pick(0, 1);
                return pair("restore(" + k + ")", x.restore(k), y.restore(k));
            }
        }
    }

    private long[] askDay() {
        switch (random.nextInt(11)) {
            case 0: case 1: case 2: {
                int what = pick(0, 5);
                return pair("judge(" + what + ")", x.judge(what), y.judge(what));
            }
            case 3:
                return pair("heat()", x.heat(), y.heat());
            case 4: case 5: {
                int row = pick(0, y.told(1) - 1);
                int place = pick(0, y.told(2) - 1);
                int what = pick(0, 1);
                return pair("behind(" + row + ", " + place + ", " + what + ")",
                    x.behind(row, place, what), y.behind(row, place, what));
            }
            case 6:
                return pair("done()", x.done(), y.done());
            case 7: {
                int what = pick(0, 3);
                return pair("out(" + what + ")", x.out(what), y.out(what));
            }
            case 8: {
                int row = pick(0, y.told(1) - 1);
                int place = pick(0, y.told(2) - 1);
                int what = pick(0, 1);
                return pair("state(" + row + ", " + place + ", " + what + ")",
                    x.state(row, place, what), y.state(row, place, what));
            }
            case 9:
                return pair("spoilt()", x.spoilt(), y.spoilt());
            default: {
                boolean stuck = y.judge(2) < 0;
                return stuck ? pair("wipe()", x.wipe(), y.wipe()) : pair("fault()", x.fault(), y.fault());
            }
        }
    }

    private long[] askFuture() {
        switch (random.nextInt(9)) {
            case 0: case 1: {
                int sort = someSort();
                int place = pick(0, y.told(2) - 1);
                int what = pick(0, 1);
                return pair("ripe(" + sort + ", " + place + ", " + what + ")",
                    x.ripe(sort, place, what), y.ripe(sort, place, what));
            }
            case 2: {
                int below = pick(0, 99);
                return pair("hot(" + below + ")", x.hot(below), y.hot(below));
            }
            case 3: {
                int m = random.nextInt(4) == 0 ? pick(0, 999) : pick(0, 40);
                return pair("still(" + m + ")", x.still(m), y.still(m));
            }
            case 4: case 5: {
                int loaves = someLoaves(Math.min(6, y.told(2) + random.nextInt(2)));
                int what = pick(0, 2);
                return pair("orders(" + loaves + ", " + what + ")", x.orders(loaves, what), y.orders(loaves, what));
            }
            case 6: case 7: {
                int loaves = someLoaves(random.nextInt(8) == 0 ? 6 : 4);
                int what = pick(0, 2);
                return pair("two(" + loaves + ", " + what + ")", x.two(loaves, what), y.two(loaves, what));
            }
            default: {
                int loaves = someLoaves(Math.min(random.nextInt(20) == 0 ? 6 : 4, y.told(2)));
                return pair("warm(" + loaves + ")", x.warm(loaves), y.warm(loaves));
            }
        }
    }

    private int someBaked() {
        if (random.nextInt(3) == 0) {
            return pick(0, 5000);
        }
        // what a loaf gets in some minutes, so that it fits now and then
        int heat = Math.max(0, y.told(3) - Math.max(0, y.told(10 + random.nextInt(y.told(2)))));
        int sum = 0;
        for (int minutes = random.nextInt(12); minutes >= 0; minutes--) {
            sum += heat;
            heat = Math.max(0, heat - y.told(4));
        }
        return sum;
    }

    private long[] askRest() {
        switch (random.nextInt(10)) {
            case 0: case 1: {
                int baked = someBaked();
                return pair("seen(" + baked + ")", x.seen(baked), y.seen(baked));
            }
            case 2:
                return random.nextInt(3) == 0 ? pair("forget()", x.forget(), y.forget())
                    : pair("both()", x.both(), y.both());
            case 3: case 4: {
                int sight = pick(0, Math.max(0, y.told(7) - 1));
                int i = pick(-1, random.nextInt(5) == 0 ? 600 : 4);
                return pair("stood(" + sight + ", " + i + ")", x.stood(sight, i), y.stood(sight, i));
            }
            case 5:
                return pair("both()", x.both(), y.both());
            case 6: case 7: {
                int sort = someSort();
                int place = pick(0, y.told(2) - 1);
                int t = pick(0, 10);
                int m = pick(0, 10);
                int part = pick(0, 1);
                return pair("winds(" + sort + ", " + place + ", " + t + ", " + m + ", " + part + ")",
                    x.winds(sort, place, t, m, part), y.winds(sort, place, t, m, part));
            }
            case 8: {
                int seed = pick(0, 9999);
                int m = pick(1, 99);
                int what = pick(0, 3);
                return pair("year(" + seed + ", " + m + ", " + what + ")",
                    x.year(seed, m, what), y.year(seed, m, what));
            }
            default: {
                int what = pick(0, 80);
                return pair("told(" + what + ")", x.told(what), y.told(what));
            }
        }
    }
}
