/** Promises 12 and 13: part, count. */
public final class WhatIsThereTest {
    private static final Class<IndexOutOfBoundsException> INDEX = IndexOutOfBoundsException.class;
    private static final int LEAST = Integer.MIN_VALUE;
    private static final int MOST = Integer.MAX_VALUE;

    private static final Check check = new Check();

    public static void main(String[] args) {
        promise12Part();
        promise12OneFalls();
        promise12Refused();
        promise13Count();
        promise13TheHour();
        promise13Refused();
        check.finish();
    }

    private static void parts(SnowPumps x, int what, int from, int... want) {
        for (int k = 0; k < want.length; k++) {
            check.due("part(" + (from + k) + ", " + what + ")", x.part(from + k, what), want[k]);
        }
    }

    private static void promise12Part() {
        SnowPumps x = new SnowPumps();
        x.pump(8, 3);
        x.pump(8, 1);
        x.pump(9, 2);
        x.run(0);
        x.run(2);
        x.fill(500);
        x.pass(1);
        parts(x, 0, 6, 0, 6, 16, 14, 4, 0);
        parts(x, 2, 6, 0, 0, 2, 1, 0, 0);
        x.setWeather(1, -1, 100, 0);
        x.setWeather(2, -1, 100, 0);
        x.pass(2);
        parts(x, 1, 6, 0, 0, 2, 2, 0, 0);
        parts(x, 0, 6, 0, 6, 16, 14, 4, 0);
    }

    private static void promise12OneFalls() {
        SnowPumps x = new SnowPumps();
        x.pump(0, 5);
        x.pump(19, 1);
        x.run(0);
        x.fill(9999);
        x.setWeather(0, -6, 100, 0);
        x.pass(1);
        parts(x, 0, 0, 15, 7, 0);
        parts(x, 3, 0, 1, 1, 1);
        x.setWeather(1, -6, 100, 0);
        x.pass(1);
        parts(x, 0, 0, 30, 14, 0);
        parts(x, 3, 0, 0, 1, 1);
        x.setWeather(2, 1, 100, 0);
        x.pass(1);
        parts(x, 0, 0, 29, 13, 0);
        parts(x, 3, 0, 1, 1, 1);
        x.pass(1);
        for (int ice = 1; ice <= 11; ice++) {
            parts(x, 3, 0, 0);
            x.setWeather(x.count(1), 0, 100, 0);
            x.pass(1);
            x.setWeather(x.count(1), -30, 0, 0);
            x.run(0);
            x.pass(1);
            x.run(0);
            if (x.part(0, 1) >= 10) {
                break;
            }
        }
        check.due("ice", x.part(0, 1), 10);
        parts(x, 3, 0, 1);
    }

    private static void promise12Refused() {
        SnowPumps x = new SnowPumps();
        for (int wrong : new int[] {-1, 20, LEAST, MOST}) {
            check.refused("part(" + wrong + ", 0)", x, INDEX, () -> x.part(wrong, 0));
            check.refused("part(" + wrong + ", 4)", x, INDEX, () -> x.part(wrong, 4));
        }
        for (int wrong : new int[] {-1, 4, LEAST, MOST}) {
            check.refused("part(0, " + wrong + ")", x, INDEX, () -> x.part(0, wrong));
        }
    }

    private static void counts(SnowPumps x, int... want) {
        for (int what = 0; what < want.length; what++) {
            check.due("count(" + what + ")", x.count(what), want[what]);
        }
    }

    private static void promise13Count() {
        SnowPumps x = new SnowPumps();
        x.pump(4, 6);
        x.pump(10, 2);
        x.pump(19, 8);
        x.run(2);
        x.run(0);
        x.fill(100);
        counts(x, 0, 0, -10, 0, 100, 3, 2, 0, 0, 0, 0);
        x.pass(1);
        counts(x, 1, 1, -10, 0, 86, 3, 2, 48 + 48, 0, 0, 0);
        x.setWeather(1, 0, 85, -7);
        counts(x, 1, 1, -1, -7, 86, 3, 2, 96, 0, 0, 0);
        x.pass(1);
        counts(x, 2, 2, -10, 0, 72, 3, 2, 96, 2, 0, 0);
        x.pass(1);
        x.jump(1, 19, 18);
        counts(x, 3, 3, -10, 0, 58, 3, 2, 192, 2, 1, 1);
        x.jump(1, 20, 18);
        counts(x, 3, 3, -10, 0, 58, 3, 2, 192, 2, 2, 2);
        x.jump(1, 5, 4);
        counts(x, 3, 3, -10, 0, 58, 3, 2, 189, 2, 3, 2);
    }

    private static void promise13TheHour() {
        SnowPumps x = new SnowPumps();
        x.pass(23);
        check.due("hour", x.count(0), 23);
        check.due("hour of the day", x.count(1), 23);
        x.pass(1);
        check.due("hour", x.count(0), 24);
        check.due("hour of the day", x.count(1), 0);
        for (int k = 0; k < 300; k++) {
            x.pass(95);
        }
        check.due("hour", x.count(0), 24 + 300 * 95);
        check.due("hour of the day", x.count(1), (24 + 300 * 95) % 24);
    }

    private static void promise13Refused() {
        SnowPumps x = new SnowPumps();
        for (int wrong : new int[] {-1, 11, LEAST, MOST}) {
            check.refused("count(" + wrong + ")", x, INDEX, () -> x.count(wrong));
        }
    }
}
