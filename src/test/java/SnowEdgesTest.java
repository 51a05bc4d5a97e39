/** The edges of promises 1 to 6: a new object, setWeather, pump, run, fill, groom; and of 12 and 13: part, count. */
public final class SnowEdgesTest {
    private static final Class<IndexOutOfBoundsException> INDEX = IndexOutOfBoundsException.class;
    private static final Class<IllegalArgumentException> ARGUMENT = IllegalArgumentException.class;
    private static final Class<IllegalStateException> STATE = IllegalStateException.class;

    private static final Check check = new Check();

    public static void main(String[] args) {
        promise1TwoObjects();
        promise1TwoObjectsInTurn();
        promise1ForeseenInTurn();
        promise2EachBound();
        promise2OneHourAlone();
        promise2OrderOfExceptions();
        promise2TheRefusedOneLeavesTheTables();
        promise3EachBound();
        promise3OrderOfExceptions();
        promise4WithoutPumps();
        promise4OfOneAndOfFive();
        promise5EachBound();
        promise5HeldAt9999();
        promise6WhatCannotBeSpread();
        promise6OnePart();
        promise6FirstAndLastParts();
        promise6NothingAndAll();
        promise6IceIsGone();
        promise6IceWithoutSnow();
        promise6OrderOfExceptions();
        promise12EachBound();
        promise12PumpsThere();
        promise12AFallNow();
        promise13OfANewObject();
        promise13OfAFullOne();
        promise13WhatIsAsked();
        promise13ThoseThatRun();
        check.finish();
    }

    private static void snow(String what, SnowPumps x, int from, int... want) {
        for (int k = 0; k < want.length; k++) {
            check.due(what + ": snow of " + (from + k), x.part(from + k, 0), want[k]);
        }
    }

    private static void counts(String what, SnowPumps x, int... want) {
        for (int k = 0; k < want.length; k++) {
            check.due(what + ": count(" + k + ")", x.count(k), want[k]);
        }
    }

    // Promise 1: "a bare hill without pumps, in the hour 0", whatever became of another one.
    private static void promise1TwoObjects() {
        long bare = new SnowPumps().digest();
        SnowPumps before = new SnowPumps();
        Hills.full();
        Hills.busy();
        check.due("an object of before", before.digest(), bare);
        check.due("an object of now", new SnowPumps().digest(), bare);
        counts("a new object", new SnowPumps(), 0, 0, -10, 0, 0, 0, 0, 0, 0, 0, 0);
    }

    private static final int STEPS = 30;

    /** Something of all, other for each kind: each step makes a jump, the first five a pump as well. */
    private static void step(SnowPumps x, int kind, int step) {
        if (step < 5) {
            x.pump((3 + 7 * kind + 4 * step) % 20, 1 + (2 + 5 * kind + step) % 9);
            x.run(step);
        }
        x.setWeather((step + kind) % 24, 3 * kind - step % 9, (40 * kind + 7 * step) % 101, (step + kind) % 19 - 9);
        x.judge(step % 5, (step + 2 * kind) % 5);
        x.fill(20 + 30 * kind + step);
        x.pass(1 + kind);
        x.jump((step + 3 * kind) % 10, 1 + (step + 5 * kind) % 20, (4 + 9 * kind + step) % 21);
        x.groom((step + kind) % 19, (step + kind) % 19 + 1);
    }

    // Each object is one of its own: two that are used in turn are as they are when used one behind the other.
    private static void promise1TwoObjectsInTurn() {
        long[][] alone = new long[2][STEPS];
        for (int kind = 0; kind < 2; kind++) {
            SnowPumps x = new SnowPumps();
            for (int step = 0; step < STEPS; step++) {
                step(x, kind, step);
                alone[kind][step] = x.digest();
            }
        }
        SnowPumps[] both = {new SnowPumps(), new SnowPumps()};
        for (int step = 0; step < STEPS; step++) {
            for (int kind = 0; kind < 2; kind++) {
                step(both[kind], kind, step);
            }
            for (int kind = 0; kind < 2; kind++) {
                check.due("kind " + kind + ", step " + step, both[kind].digest(), alone[kind][step]);
            }
        }
    }

    // What is foreseen of one hill does not stay for another one, nor for the next question.
    private static void promise1ForeseenInTurn() {
        SnowPumps x = Hills.busy();
        SnowPumps y = Hills.full();
        int snow = x.foresee(20, 7);
        int hours = x.enough(5, 200);
        int pump = x.advise(9);
        for (int round = 0; round < 3; round++) {
            y.foresee(96, 7);
            check.due("foresee", x.foresee(20, 7), snow);
            y.enough(4, 300);
            check.due("enough", x.enough(5, 200), hours);
            y.advise(96);
            check.due("advise", x.advise(9), pump);
            x.foresee(96, 8);
        }
    }

    // Promise 2: the last values that are allowed, and what they do.
    private static void promise2EachBound() {
        SnowPumps x = new SnowPumps();
        check.due("the first hour", x.setWeather(0, -1, 100, 1), -1);
        check.due("the last hour", x.setWeather(23, -3, 100, 2), -3);
        check.due("the least warmth", x.setWeather(1, -30, 100, 3), -30);
        check.due("the greatest warmth", x.setWeather(2, 20, 100, 4), 20);
        check.due("the least damp", x.setWeather(3, 0, 0, 5), -10);
        check.due("the greatest damp", x.setWeather(4, 0, 100, 6), 0);
        check.due("the least gust", x.setWeather(5, 0, 50, -9), -5);
        check.due("the greatest gust", x.setWeather(6, 0, 50, 9), -5);
        int[] cold = {-1, -30, 20, -10, 0, -5, -5, -10};
        int[] gust = {1, 3, 4, 5, 6, -9, 9, 0};
        for (int hour = 0; hour < cold.length; hour++) {
            check.due("wet cold of " + hour, x.count(2), cold[hour]);
            check.due("gust of " + hour, x.count(3), gust[hour]);
            x.pass(1);
        }
        x.pass(15);
        check.due("wet cold of 23", x.count(2), -3);
        check.due("gust of 23", x.count(3), 2);
    }

    private static void promise2OneHourAlone() {
        for (int hour : new int[] {0, 1, 12, 22, 23}) {
            SnowPumps x = new SnowPumps();
            x.setWeather(hour, 7, 85, -8);
            for (int now = 0; now < 24; now++) {
                check.due("hour " + hour + ", wet cold of " + now, x.count(2), now == hour ? 6 : -10);
                check.due("hour " + hour + ", gust of " + now, x.count(3), now == hour ? -8 : 0);
                x.pass(1);
            }
        }
    }

    private static void promise2OrderOfExceptions() {
        SnowPumps x = new SnowPumps();
        for (int hour : new int[] {-1, 24}) {
            check.refused("hour " + hour, x, INDEX, () -> x.setWeather(hour, 0, 0, 0));
            check.refused("hour " + hour + ", warmth -31", x, INDEX, () -> x.setWeather(hour, -31, 0, 0));
            check.refused("hour " + hour + ", warmth 21", x, INDEX, () -> x.setWeather(hour, 21, 0, 0));
            check.refused("hour " + hour + ", damp -1", x, INDEX, () -> x.setWeather(hour, 0, -1, 0));
            check.refused("hour " + hour + ", damp 101", x, INDEX, () -> x.setWeather(hour, 0, 101, 0));
            check.refused("hour " + hour + ", gust -10", x, INDEX, () -> x.setWeather(hour, 0, 0, -10));
            check.refused("hour " + hour + ", gust 10", x, INDEX, () -> x.setWeather(hour, 0, 0, 10));
        }
    }

    private static void promise2TheRefusedOneLeavesTheTables() {
        SnowPumps x = new SnowPumps();
        x.setWeather(0, -7, 75, 4);
        int[][] wrong = {
            {-31, 1, 1}, {21, 1, 1}, {1, -1, 1}, {1, 101, 1}, {1, 1, -10}, {1, 1, 10},
        };
        for (int[] row : wrong) {
            check.refused("weather " + row[0] + ", " + row[1] + ", " + row[2], x, ARGUMENT,
                    () -> x.setWeather(0, row[0], row[1], row[2]));
            check.due("wet cold", x.count(2), -9);
            check.due("gust", x.count(3), 4);
        }
    }

    // Promise 3: the last values that are allowed, and the first that are not.
    private static void promise3EachBound() {
        int[][] rows = {{0, 1}, {0, 9}, {19, 1}, {19, 9}, {10, 5}};
        SnowPumps all = new SnowPumps();
        for (int pump = 0; pump < rows.length; pump++) {
            int part = rows[pump][0];
            int flow = rows[pump][1];
            check.due("pump(" + part + ", " + flow + ")", all.pump(part, flow), pump);
            SnowPumps x = Hills.withPump(part, flow, 9);
            x.pass(1);
            check.due("its part", x.part(part, 0), 4 * flow);
            check.due("its flow", x.count(4), 9 - flow);
        }
        SnowPumps x = new SnowPumps();
        check.refused("part -1", x, INDEX, () -> x.pump(-1, 1));
        check.refused("part 20", x, INDEX, () -> x.pump(20, 1));
        check.refused("flow 0", x, ARGUMENT, () -> x.pump(0, 0));
        check.refused("flow 10", x, ARGUMENT, () -> x.pump(0, 10));
        check.due("the first one has the number 0 still", x.pump(0, 1), 0);
    }

    private static void promise3OrderOfExceptions() {
        SnowPumps x = new SnowPumps();
        check.refused("part and flow", x, INDEX, () -> x.pump(-1, 0));
        check.refused("part and flow", x, INDEX, () -> x.pump(20, 10));
        for (int pump = 0; pump < 5; pump++) {
            x.pump(pump, 1);
        }
        check.refused("5 are there", x, STATE, () -> x.pump(0, 1));
        check.refused("5, and a wrong part", x, INDEX, () -> x.pump(20, 1));
        check.refused("5, and a wrong flow", x, ARGUMENT, () -> x.pump(0, 10));
        check.refused("5, a wrong part and a wrong flow", x, INDEX, () -> x.pump(-1, 0));
        check.due("5 pumps", x.count(5), 5);
    }

    // Promise 4: "if there is no such pump"
    private static void promise4WithoutPumps() {
        SnowPumps x = new SnowPumps();
        check.refused("run(0) of none", x, INDEX, () -> x.run(0));
        check.refused("run(-1) of none", x, INDEX, () -> x.run(-1));
        x.pump(4, 4);
        check.due("it did not start by that", x.count(6), 0);
        check.refused("run(1) of one", x, INDEX, () -> x.run(1));
        x.pump(4, 4);
        check.due("nor did the next", x.count(6), 0);
    }

    // "Has a pump run, or stops it, if it runs."
    private static void promise4OfOneAndOfFive() {
        SnowPumps x = new SnowPumps();
        for (int pumps = 1; pumps <= 5; pumps++) {
            int next = pumps;
            x.pump(19, 1);
            check.refused("run(" + pumps + ") of " + pumps, x, INDEX, () -> x.run(next));
            check.refused("run(-1) of " + pumps, x, INDEX, () -> x.run(-1));
            check.due("the last of " + pumps, x.run(pumps - 1), true);
            check.due("those that run", x.count(6), 1);
            check.due("stopped", x.run(pumps - 1), false);
            check.due("those that run", x.count(6), 0);
        }
        for (int pump = 0; pump < 5; pump++) {
            check.due("run(" + pump + ")", x.run(pump), true);
            check.due("those that run", x.count(6), pump + 1);
        }
        for (int pump = 0; pump < 5; pump++) {
            check.due("run(" + pump + ") stops it", x.run(pump), false);
            check.due("those that run", x.count(6), 4 - pump);
            check.due("run(" + pump + ") starts it", x.run(pump), true);
            check.due("run(" + pump + ") stops it again", x.run(pump), false);
        }
        SnowPumps dry = Hills.withPump(0, 9, 1);
        dry.pass(1);
        check.due("one without water enough runs, and stops", dry.run(0), false);
    }

    // Promise 5: "IllegalArgumentException if water is not 1 to 9999"
    private static void promise5EachBound() {
        SnowPumps x = new SnowPumps();
        check.refused("fill(0)", x, ARGUMENT, () -> x.fill(0));
        check.refused("fill(-1)", x, ARGUMENT, () -> x.fill(-1));
        check.refused("fill(10000)", x, ARGUMENT, () -> x.fill(10000));
        check.due("the least", x.fill(1), 1);
        check.refused("fill(0)", x, ARGUMENT, () -> x.fill(0));
        check.refused("fill(10000)", x, ARGUMENT, () -> x.fill(10000));
        check.due("the most", new SnowPumps().fill(9999), 9999);
        SnowPumps full = new SnowPumps();
        full.fill(9999);
        check.refused("fill(0) of a full one", full, ARGUMENT, () -> full.fill(0));
        check.refused("fill(10000) of a full one", full, ARGUMENT, () -> full.fill(10000));
        check.due("a full one may be filled", full.fill(1), 9999);
    }

    // "Returns how much there is then, at most 9999."
    private static void promise5HeldAt9999() {
        int[][] rows = {
            {1, 9997, 9998}, {1, 9998, 9999}, {1, 9999, 9999}, {9998, 1, 9999}, {9999, 1, 9999}, {9999, 9999, 9999},
            {5000, 4998, 9998}, {5000, 4999, 9999}, {5000, 5000, 9999}, {9997, 1, 9998},
        };
        for (int[] row : rows) {
            SnowPumps x = new SnowPumps();
            x.fill(row[0]);
            check.due(row[0] + " and " + row[1], x.fill(row[1]), row[2]);
            check.due("count(4)", x.count(4), row[2]);
        }
    }

    // Promise 6: "spread over them alike; what cannot be, lies in the first ones, 1 more in each"
    private static void promise6WhatCannotBeSpread() {
        for (int more = 0; more <= 5; more++) {
            // 40 on each part, and 3 less by each jump.
            SnowPumps x = Hills.even(40);
            for (int jump = 0; jump < more; jump++) {
                x.jump(0, 10, 0);
            }
            int all = 160 - 3 * more;
            check.due("their snow, with " + more + " jumps", x.groom(7, 10), all);
            for (int k = 0; k < 4; k++) {
                check.due("snow of " + (7 + k) + " of " + all, x.part(7 + k, 0), all / 4 + (k < all % 4 ? 1 : 0));
            }
            snow("before it", x, 6, 40);
            snow("behind it", x, 11, 40);
        }
        SnowPumps few = Hills.withPump(9, 1, 1);
        few.setWeather(0, -4, 100, 0);
        few.pass(1);
        check.due("less snow than parts", few.groom(6, 12), 4);
        snow("less snow than parts", few, 5, 0, 1, 1, 1, 1, 0, 0, 0, 0);
        check.due("one snow for two", few.groom(9, 10), 1);
        snow("one snow for two", few, 9, 1, 0);
        check.due("none for two", few.groom(11, 12), 0);
        snow("none for two", few, 11, 0, 0);
    }

    // from is to
    private static void promise6OnePart() {
        for (int part : new int[] {0, 10, 19}) {
            SnowPumps x = Hills.icy(37, part, 3);
            check.due("groom(" + part + ", " + part + ")", x.groom(part, part), 37);
            check.due("its snow", x.part(part, 0), 37);
            check.due("its ice", x.part(part, 1), 0);
            check.due("all snow", x.count(7), 740);
        }
    }

    private static void promise6FirstAndLastParts() {
        SnowPumps x = Hills.withPump(0, 9, 9);
        x.pass(1);
        check.due("the first two", x.groom(0, 1), 54);
        snow("the first two", x, 0, 27, 27, 0);
        SnowPumps y = Hills.withPump(19, 9, 9);
        y.pass(1);
        check.due("the last two", y.groom(18, 19), 54);
        snow("the last two", y, 17, 0, 27, 27);
        check.due("all parts", y.groom(0, 19), 54);
        for (int part = 0; part < 20; part++) {
            snow("all parts", y, part, part < 14 ? 3 : 2);
        }
        check.due("all but the first and the last", y.groom(1, 18), 3 * 13 + 2 * 5);
        snow("all but the first and the last", y, 0, 3, 3, 3, 3, 3, 3, 3, 3, 3, 3, 3, 3, 3, 3, 2, 2, 2, 2, 2, 2);
    }

    private static void promise6NothingAndAll() {
        SnowPumps bare = new SnowPumps();
        long before = bare.digest();
        check.due("a bare hill", bare.groom(0, 19), 0);
        check.unchanged("groom of a bare hill", bare, before);
        SnowPumps full = Hills.full();
        check.due("a full hill", full.groom(0, 19), 6000);
        check.due("it stays full", full.count(7), 6000);
        snow("it stays full", full, 0, 300, 300, 300, 300, 300);
        check.due("without ice", full.count(8), 0);
    }

    // "their ice is gone", that of the parts beside them is not.
    private static void promise6IceIsGone() {
        for (int from = 4; from <= 8; from++) {
            for (int to = from; to <= 8; to++) {
                SnowPumps x = Hills.even(40);
                Hills.setAllHours(x, 0, 100, 0);
                for (int pump = 1; pump <= 3; pump++) {
                    x.pump(4 + pump, 1);
                    x.run(pump);
                }
                x.pass(12);
                x.groom(from, to);
                for (int part = 5; part <= 7; part++) {
                    boolean groomed = from <= part && part <= to;
                    check.due("groom(" + from + ", " + to + "): ice of " + part, x.part(part, 1), groomed ? 0 : 12);
                    check.due("a fall there", x.part(part, 3), groomed ? 0 : 1);
                }
            }
        }
    }

    // "their ice is gone", be there snow or not.
    private static void promise6IceWithoutSnow() {
        SnowPumps x = new SnowPumps();
        Hills.setAllHours(x, 0, 100, 0);
        x.fill(9999);
        for (int pump = 0; pump < 3; pump++) {
            x.pump(4 + pump, 1);
            x.run(pump);
        }
        x.pass(12);
        check.due("snow of one bare part", x.groom(5, 5), 0);
        check.due("its ice", x.part(5, 1), 0);
        check.due("ice before it", x.part(4, 1), 12);
        check.due("ice behind it", x.part(6, 1), 12);
        check.due("snow of a bare hill", x.groom(0, 19), 0);
        check.due("all ice", x.count(8), 0);
    }

    private static void promise6OrderOfExceptions() {
        SnowPumps x = Hills.busy();
        check.refused("groom(-1, 0)", x, INDEX, () -> x.groom(-1, 0));
        check.refused("groom(20, 20)", x, INDEX, () -> x.groom(20, 20));
        check.refused("groom(0, 20)", x, INDEX, () -> x.groom(0, 20));
        check.refused("groom(-1, -1)", x, INDEX, () -> x.groom(-1, -1));
        check.refused("from is greater than to, and is 20", x, INDEX, () -> x.groom(20, 0));
        check.refused("from is greater than to, which is -1", x, INDEX, () -> x.groom(0, -1));
        check.refused("from is greater than to by 1", x, ARGUMENT, () -> x.groom(1, 0));
        check.refused("from is greater than to by 1", x, ARGUMENT, () -> x.groom(19, 18));
        check.refused("from is greater than to by all", x, ARGUMENT, () -> x.groom(19, 0));
    }

    // Promise 12: "part is not 0 to 19, or what is not 0 to 3"
    private static void promise12EachBound() {
        SnowPumps x = Hills.full();
        int[][] rows = {{0, 300, 0, 0, 0}, {18, 300, 50, 1, 1}, {19, 300, 0, 0, 0}};
        for (int[] row : rows) {
            for (int what = 0; what < 4; what++) {
                check.due("part(" + row[0] + ", " + what + ")", x.part(row[0], what), row[1 + what]);
            }
        }
        int[][] wrong = {{-1, 0}, {20, 0}, {0, -1}, {0, 4}, {19, -1}, {19, 4}, {-1, 3}, {20, 3}, {-1, -1}, {20, 4}};
        for (int[] row : wrong) {
            check.refused("part(" + row[0] + ", " + row[1] + ")", x, INDEX, () -> x.part(row[0], row[1]));
        }
    }

    // "2 pumps there", none, some and all, running or not.
    private static void promise12PumpsThere() {
        for (int part : new int[] {0, 19}) {
            SnowPumps x = new SnowPumps();
            for (int pump = 0; pump < 5; pump++) {
                check.due("pumps at " + part, x.part(part, 2), pump);
                x.pump(part, 1);
                x.run(pump);
            }
            check.due("all 5 pumps", x.part(part, 2), 5);
            check.due("none at the other end", x.part(19 - part, 2), 0);
            check.due("none beside it", x.part(part == 0 ? 1 : 18, 2), 0);
            x.run(3);
            check.due("one that rests is there too", x.part(part, 2), 5);
        }
    }

    // "3 1 if a jumper who lands there falls now, else 0"
    private static void promise12AFallNow() {
        int[][] rows = {
            // snow, ice, fall
            {0, 0, 1}, {29, 0, 1}, {30, 0, 0}, {31, 0, 0}, {30, 9, 0}, {30, 10, 1}, {40, 11, 1}, {29, 10, 1}, {29, 9, 1},
        };
        for (int[] row : rows) {
            for (int part : new int[] {0, 19}) {
                SnowPumps x = Hills.icy(row[0], part, row[1]);
                check.due("snow " + row[0] + ", ice " + row[1], x.part(part, 3), row[2]);
            }
        }
        SnowPumps x = Hills.even(32);
        x.jump(0, 10, 0);
        check.due("snow 29 by a jump", x.part(8, 3), 1);
        check.due("the part beside it", x.part(9, 3), 0);
        x.groom(8, 9);
        check.due("snow 31 and 30 by grooming", x.part(8, 3) + x.part(9, 3), 0);
    }

    // Promise 13: nothing there yet, and as much as there can be.
    private static void promise13OfANewObject() {
        counts("nothing there yet", new SnowPumps(), 0, 0, -10, 0, 0, 0, 0, 0, 0, 0, 0);
    }

    private static void promise13OfAFullOne() {
        SnowPumps x = Hills.full();
        Hills.setThisHour(x, -30, 0, -9);
        counts("as much as there can be", x, 290, 2, -40, -9, 9999, 5, 5, 6000, 250, 30, 30);
        Hills.setThisHour(x, 20, 100, 9);
        counts("the warmest hour", x, 290, 2, 20, 9, 9999, 5, 5, 6000, 250, 30, 30);
    }

    // "what is not 0 to 10"
    private static void promise13WhatIsAsked() {
        for (SnowPumps x : new SnowPumps[] {new SnowPumps(), Hills.busy(), Hills.full()}) {
            check.refused("count(-1)", x, INDEX, () -> x.count(-1));
            check.refused("count(11)", x, INDEX, () -> x.count(11));
            check.due("count(10) is the last one", x.count(10) <= x.count(9), true);
        }
        counts("something of all", Hills.busy(), 30, 6, 1, -4, 330, 2, 1, 897, 2, 3, 2);
    }

    // "5 pumps, 6 those that run"
    private static void promise13ThoseThatRun() {
        SnowPumps x = Hills.full();
        for (int pump = 0; pump < 5; pump++) {
            x.run(pump);
            check.due("those that run", x.count(6), 4 - pump);
            check.due("pumps", x.count(5), 5);
        }
    }
}
