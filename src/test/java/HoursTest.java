/** Promises 14 to 19: pass, enough, foresee, gate, advise, mean. */
public final class HoursTest {
    private static final Class<IndexOutOfBoundsException> INDEX = IndexOutOfBoundsException.class;
    private static final Class<IllegalArgumentException> ARGUMENT = IllegalArgumentException.class;
    private static final int LEAST = Integer.MIN_VALUE;
    private static final int MOST = Integer.MAX_VALUE;
    private static final int[] WRONG_HOURS = {0, 97, -1, LEAST, MOST};

    private static final Check check = new Check();

    public static void main(String[] args) {
        promise14Snow();
        promise14AtTheEdges();
        promise14ByTheWetCold();
        promise14WaterByNumbers();
        promise14IsHeld();
        promise14Melts();
        promise14Refused();
        promise15Enough();
        promise15WaitsFor240Hours();
        promise15Refused();
        promise16Foresee();
        promise16Refused();
        promise17Gate();
        promise17Refused();
        promise18Advise();
        promise18OfFive();
        promise18ShortOfWater();
        promise18NoMore();
        promise18Refused();
        promise19Mean();
        check.finish();
    }

    private static void snow(String what, SnowPumps x, int from, int... want) {
        for (int k = 0; k < want.length; k++) {
            check.due(what + ": snow of " + (from + k), x.part(from + k, 0), want[k]);
        }
    }

    private static void promise14Snow() {
        SnowPumps x = Hills.withPump(7, 9, 9999);
        check.due("pass(1)", x.pass(1), 72);
        snow("one hour", x, 5, 0, 18, 36, 18, 0);
        check.due("pass(2)", x.pass(2), 144);
        snow("three hours", x, 5, 0, 54, 108, 54, 0);
        check.due("hour", x.count(0), 3);
        check.due("water", x.count(4), 9999 - 27);
        SnowPumps y = Hills.withPump(7, 1, 9999);
        y.setWeather(0, -7, 100, 0);
        check.due("pass(1) of 7, cut", y.pass(1), 3 + 1 + 1);
        snow("7, cut", y, 5, 0, 1, 3, 1, 0);
    }

    private static void promise14AtTheEdges() {
        SnowPumps x = Hills.withPump(0, 2, 9999);
        check.due("at the first part", x.pass(1), 12);
        snow("at the first part", x, 0, 8, 4, 0);
        check.due("the last part gets none of it", x.part(19, 0), 0);
        SnowPumps y = Hills.withPump(19, 2, 9999);
        check.due("at the last part", y.pass(1), 12);
        snow("at the last part", y, 17, 0, 4, 8);
        check.due("the first part gets none of it", y.part(0, 0), 0);
    }

    private static void promise14ByTheWetCold() {
        int[][] rows = {
            // warmth, damp, snow of the part, its ice
            {-1, 100, 0, 1}, {-2, 100, 8, 0}, {-3, 100, 12, 0}, {-8, 100, 32, 0}, {-9, 100, 32, 0}, {-30, 0, 32, 0},
            {0, 81, 0, 1}, {0, 80, 8, 0}, {0, 100, 0, 1}, {-1, 91, 0, 1}, {-1, 90, 8, 0},
        };
        for (int[] row : rows) {
            SnowPumps x = Hills.withPump(3, 8, 8);
            x.setWeather(0, row[0], row[1], 0);
            x.pass(1);
            String what = "warmth " + row[0] + ", damp " + row[1];
            check.due(what + ": snow", x.part(3, 0), row[2]);
            check.due(what + ": ice", x.part(3, 1), row[3]);
            check.due(what + ": ice beside it", x.part(4, 1), 0);
            check.due(what + ": water", x.count(4), 0);
        }
    }

    private static void promise14WaterByNumbers() {
        SnowPumps x = new SnowPumps();
        x.pump(2, 9);
        x.pump(8, 5);
        x.pump(14, 2);
        x.run(2);
        x.run(1);
        x.run(0);
        x.fill(11);
        check.due("9, not 5, and 2", x.pass(1), 72 + 16);
        snow("at 8", x, 7, 0, 0, 0);
        check.due("water", x.count(4), 0);
        check.due("without water", x.pass(5), 0);
        check.due("they still run", x.count(6), 3);
        x.fill(8);
        check.due("not 9, 5 and 2", x.pass(1), 40 + 16);
        check.due("water", x.count(4), 1);
        x.fill(8);
        check.due("just 9", x.pass(1), 72);
        check.due("water", x.count(4), 0);
        x.fill(1);
        x.setWeather(x.count(1), 0, 100, 0);
        x.pass(1);
        check.due("without enough water no ice", x.count(8), 0);
        x.setWeather(x.count(1), 0, 100, 0);
        x.fill(4);
        x.pass(1);
        check.due("ice takes water too", x.count(4), 0);
        check.due("ice of one pump", x.count(8), 1);
    }

    private static void promise14IsHeld() {
        SnowPumps x = Hills.withPump(10, 9, 9999);
        check.due("pass(8)", x.pass(8), 8 * 72);
        snow("8 hours", x, 9, 144, 288, 144);
        check.due("the part is full", x.pass(1), 12 + 36);
        snow("9 hours", x, 9, 162, 300, 162);
        check.due("pass(96)", x.pass(96), 900 - 624);
        snow("full", x, 8, 0, 300, 300, 300, 0);
        check.due("water goes on", x.count(4), 9999 - 105 * 9);
        check.due("nothing more", x.pass(1), 0);
        Hills.setAllHours(x, 0, 100, 0);
        x.pass(49);
        check.due("ice", x.part(10, 1), 49);
        x.pass(1);
        check.due("ice", x.part(10, 1), 50);
        x.pass(1);
        check.due("ice is held", x.part(10, 1), 50);
        check.due("ice beside it", x.part(9, 1) + x.part(11, 1), 0);
    }

    private static void promise14Melts() {
        SnowPumps x = Hills.withPump(10, 9, 9999);
        x.pass(1);
        x.run(0);
        x.setWeather(1, 1, 50, 0);
        check.due("warmth 1", x.pass(1), -3);
        snow("warmth 1", x, 8, 0, 17, 35, 17, 0);
        x.setWeather(2, 0, 50, 0);
        check.due("warmth 0", x.pass(1), 0);
        x.setWeather(3, 20, 50, 0);
        check.due("warmth 20", x.pass(1), -54);
        snow("warmth 20", x, 8, 0, 0, 15, 0, 0);
        x.run(0);
        x.setWeather(4, 0, 100, 0);
        x.setWeather(5, -1, 100, 0);
        x.pass(2);
        check.due("ice", x.part(10, 1), 2);
        x.run(0);
        x.setWeather(6, 3, 50, 0);
        check.due("warmth 3", x.pass(1), -3);
        check.due("1 less ice", x.part(10, 1), 1);
        x.pass(1);
        check.due("cold leaves ice", x.part(10, 1), 1);
        x.setWeather(8, 1, 100, 0);
        x.setWeather(9, 1, 100, 0);
        x.pass(2);
        check.due("ice is at least 0", x.count(8), 0);
        snow("at last", x, 9, 0, 10, 0);
        SnowPumps dry = Hills.withPump(10, 4, 9999);
        dry.setWeather(0, 5, 0, 0);
        check.due("warm and dry: made first, then it melts", dry.pass(1), 5);
        snow("warm and dry", dry, 9, 0, 5, 0);
        SnowPumps wet = Hills.withPump(10, 4, 9999);
        wet.setWeather(0, 5, 100, 0);
        wet.pass(1);
        check.due("ice is made first, then it melts", wet.count(8), 0);
        check.due("water is taken", wet.count(4), 9995);
        SnowPumps full = Hills.withPump(10, 9, 9999);
        full.pass(96);
        full.setWeather(0, 6, 0, 0);
        full.setWeather(1, 6, 0, 0);
        check.due("held first, then it melts", full.pass(1), -18);
        check.due("and again", full.pass(1), 0);
    }

    private static void promise14Refused() {
        SnowPumps x = Hills.withPump(10, 9, 9999);
        for (int hours : WRONG_HOURS) {
            check.refused("pass(" + hours + ")", x, ARGUMENT, () -> x.pass(hours));
        }
        check.due("pass(96)", x.pass(96), 900);
        check.due("hour", x.count(0), 96);
    }

    private static void enough(SnowPumps x, int part, int snow, int want) {
        long before = x.digest();
        check.due("enough(" + part + ", " + snow + ")", x.enough(part, snow), want);
        check.unchanged("enough(" + part + ", " + snow + ")", x, before);
    }

    private static void promise15Enough() {
        SnowPumps x = Hills.withPump(5, 9, 9999);
        x.pass(1);
        enough(x, 5, 36, 0);
        enough(x, 5, 1, 0);
        enough(x, 5, 37, 1);
        enough(x, 5, 72, 1);
        enough(x, 5, 73, 2);
        enough(x, 4, 18, 0);
        enough(x, 6, 300, 16);
        enough(x, 5, 300, 8);
        enough(x, 7, 1, -1);
        enough(x, 19, 1, -1);
        SnowPumps melting = Hills.withPump(5, 9, 20);
        melting.setWeather(2, 20, 100, 0);
        enough(melting, 5, 72, 2);
        enough(melting, 5, 73, -1);
        enough(melting, 5, 300, -1);
        SnowPumps later = Hills.withPump(0, 9, 9999);
        Hills.setAllHours(later, 0, 100, 0);
        later.setWeather(17, -8, 100, 0);
        later.pass(20);
        enough(later, 0, 36, 0);
        enough(later, 0, 37, 22);
        enough(later, 0, 73, 46);
    }

    private static void promise15WaitsFor240Hours() {
        SnowPumps x = Hills.withPump(5, 1, 9999);
        Hills.setAllHours(x, -2, 100, 0);
        enough(x, 5, 1, 1);
        enough(x, 5, 239, 239);
        enough(x, 5, 240, 240);
        enough(x, 5, 241, -1);
        x.pass(60);
        enough(x, 5, 300, 240);
    }

    private static void promise15Refused() {
        SnowPumps x = Hills.withPump(5, 9, 9999);
        for (int part : new int[] {-1, 20, LEAST, MOST}) {
            check.refused("enough(" + part + ", 1)", x, INDEX, () -> x.enough(part, 1));
            check.refused("enough(" + part + ", 0)", x, INDEX, () -> x.enough(part, 0));
        }
        for (int snow : new int[] {0, 301, -1, LEAST, MOST}) {
            check.refused("enough(0, " + snow + ")", x, ARGUMENT, () -> x.enough(0, snow));
        }
    }

    private static void foresee(SnowPumps x, int hours, int what, int want) {
        long before = x.digest();
        check.due("foresee(" + hours + ", " + what + ")", x.foresee(hours, what), want);
        check.unchanged("foresee(" + hours + ", " + what + ")", x, before);
    }

    private static void promise16Foresee() {
        SnowPumps x = Hills.withPump(5, 9, 40);
        x.setWeather(2, 0, 100, 0);
        x.setWeather(4, 1, 100, 0);
        foresee(x, 1, 4, 31);
        foresee(x, 1, 7, 72);
        foresee(x, 1, 8, 0);
        foresee(x, 3, 4, 13);
        foresee(x, 3, 7, 144);
        foresee(x, 3, 8, 1);
        foresee(x, 5, 4, 4);
        foresee(x, 5, 7, 213);
        foresee(x, 5, 8, 0);
        foresee(x, 96, 4, 4);
        foresee(x, 96, 7, 213 - 9);
        int water = x.foresee(7, 4);
        int snow = x.foresee(7, 7);
        int ice = x.foresee(7, 8);
        x.pass(7);
        check.due("water came true", x.count(4), water);
        check.due("snow came true", x.count(7), snow);
        check.due("ice came true", x.count(8), ice);
    }

    private static void promise16Refused() {
        SnowPumps x = Hills.withPump(5, 9, 40);
        for (int hours : WRONG_HOURS) {
            check.refused("foresee(" + hours + ", 4)", x, ARGUMENT, () -> x.foresee(hours, 4));
            check.refused("foresee(" + hours + ", 5)", x, ARGUMENT, () -> x.foresee(hours, 5));
        }
        for (int what : new int[] {-1, 0, 1, 2, 3, 5, 6, 9, 10, 11, LEAST, MOST}) {
            check.refused("foresee(1, " + what + ")", x, INDEX, () -> x.foresee(1, what));
            check.refused("foresee(96, " + what + ")", x, INDEX, () -> x.foresee(96, what));
        }
    }

    private static void gate(SnowPumps x, int style, int want) {
        long before = x.digest();
        check.due("gate(" + style + ")", x.gate(style), want);
        check.unchanged("gate(" + style + ")", x, before);
    }

    private static void promise17Gate() {
        SnowPumps x = new SnowPumps();
        gate(x, 0, 0);
        gate(x, 20, 0);
        x.pump(10, 9);
        x.run(0);
        x.fill(9999);
        x.pass(1);
        gate(x, 0, 13);
        gate(x, 8, 13);
        gate(x, 11, 13);
        gate(x, 12, 12);
        gate(x, 20, 12);
        x.setWeather(1, -5, 50, 9);
        gate(x, 0, 9);
        x.setWeather(1, -5, 50, -9);
        gate(x, 0, 18);
        gate(x, 20, 16);
        x.setWeather(1, -5, 50, 0);
        x.pass(1);
        gate(x, 0, 14);
        x.groom(9, 11);
        gate(x, 0, 14);
        x.setWeather(2, 20, 100, 0);
        x.pass(1);
        gate(x, 0, 0);
        SnowPumps edges = Hills.withPump(19, 9, 9999);
        edges.pump(0, 9);
        edges.run(1);
        edges.pass(1);
        gate(edges, 19, 0);
        gate(edges, 4, 0);
        gate(edges, 3, 1);
        edges.setWeather(1, -5, 50, 9);
        gate(edges, 20, 20);
        edges.setWeather(1, -5, 50, -9);
        gate(edges, 0, 5);
        gate(edges, 20, 4);
    }

    private static void promise17Refused() {
        SnowPumps x = Hills.withPump(10, 9, 9999);
        for (int style : new int[] {-1, 21, LEAST, MOST}) {
            check.refused("gate(" + style + ")", x, ARGUMENT, () -> x.gate(style));
        }
    }

    private static void advise(SnowPumps x, int hours, int want) {
        long before = x.digest();
        check.due("advise(" + hours + ")", x.advise(hours), want);
        check.unchanged("advise(" + hours + ")", x, before);
    }

    private static void promise18Advise() {
        SnowPumps x = new SnowPumps();
        advise(x, 5, -1);
        x.pump(3, 4);
        x.pump(9, 6);
        x.pump(15, 6);
        x.pump(0, 7);
        advise(x, 5, -1);
        x.fill(9999);
        advise(x, 5, 1);
        x.run(1);
        advise(x, 5, 2);
        x.run(2);
        advise(x, 5, 3);
        x.run(3);
        advise(x, 5, 0);
        x.run(0);
        advise(x, 5, -1);
        x.run(1);
        advise(x, 5, 1);
        SnowPumps full = new SnowPumps();
        full.pump(0, 9);
        full.pump(10, 4);
        full.fill(9999);
        // The first one brings more for a while, then its two parts are full and the other's three go on.
        advise(full, 1, 0);
        advise(full, 18, 0);
        advise(full, 20, 1);
    }

    private static void promise18OfFive() {
        SnowPumps x = new SnowPumps();
        int[] parts = {2, 6, 10, 14, 18};
        for (int pump = 0; pump < 5; pump++) {
            x.pump(parts[pump], 1 + pump);
        }
        x.fill(9999);
        for (int pump = 4; pump >= 0; pump--) {
            advise(x, 3, pump);
            x.run(pump);
        }
        advise(x, 3, -1);
    }

    private static void promise18ShortOfWater() {
        SnowPumps x = new SnowPumps();
        x.pump(0, 9);
        x.pump(10, 8);
        x.run(1);
        x.fill(24);
        // It would take the water of the one that runs, and loses a quarter beside the hill.
        advise(x, 3, -1);
        advise(x, 1, 0);
        x.fill(9);
        advise(x, 2, 0);
        advise(x, 3, -1);
        x.fill(18);
        advise(x, 3, 0);
        SnowPumps warm = new SnowPumps();
        warm.pump(0, 9);
        warm.fill(100);
        Hills.setAllHours(warm, 0, 100, 0);
        advise(warm, 10, -1);
        warm.setWeather(9, -2, 100, 0);
        advise(warm, 9, -1);
        advise(warm, 10, 0);
    }

    private static void promise18NoMore() {
        SnowPumps x = new SnowPumps();
        x.pump(5, 9);
        x.pump(5, 9);
        x.run(0);
        x.fill(9999);
        advise(x, 1, 1);
        x.pass(30);
        check.due("all three parts are full", x.count(7), 900);
        advise(x, 1, -1);
        advise(x, 96, -1);
    }

    private static void promise18Refused() {
        SnowPumps x = Hills.withPump(10, 9, 9999);
        for (int hours : WRONG_HOURS) {
            check.refused("advise(" + hours + ")", x, ARGUMENT, () -> x.advise(hours));
        }
    }

    private static void promise19Mean() {
        SnowPumps x = new SnowPumps();
        check.due("mean() without jumps", x.mean(), 0.0);
        x.jump(1, 3, 0);
        check.due("mean() of 12", x.mean(), 12.0);
        x.jump(1, 4, 4);
        check.due("mean() of 12 and 17", x.mean(), 14.5);
        x.jump(2, 5, 0);
        check.due("mean() of 12, 17 and 20", x.mean(), 49.0 / 3.0);
        SnowPumps y = new SnowPumps();
        y.setWeather(0, 0, 0, -9);
        y.jump(0, 1, 0);
        check.due("mean() of 0", y.mean(), 0.0);
    }
}
