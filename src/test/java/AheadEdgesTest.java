import java.math.BigInteger;

/** The edges of promises 14 to 20: pass, enough, foresee, gate, advise, mean, digest. */
public final class AheadEdgesTest {
    private static final Class<IndexOutOfBoundsException> INDEX = IndexOutOfBoundsException.class;
    private static final Class<IllegalArgumentException> ARGUMENT = IllegalArgumentException.class;

    private static final Check check = new Check();

    public static void main(String[] args) {
        promise14From1To96();
        promise14MoreAndLess();
        promise14OverTheEndOfTheDay();
        promise15From1To300();
        promise15NoHour();
        promise15SoMuchOrMore();
        promise15AtMost240();
        promise15OnTheWay();
        promise15OverTheEndOfTheDay();
        promise15TillTheWaterEnds();
        promise15OrderOfExceptions();
        promise16From1To96();
        promise16OverTheEndOfTheDay();
        promise16NothingAndAll();
        promise16PumpsThatRest();
        promise16OrderOfExceptions();
        promise17TheHighestGate();
        promise17NoGate();
        promise17OfTheHeldLength();
        promise17BySnowAndIce();
        promise17OfTheHourOfTheDay();
        promise17EachBound();
        promise18WithoutPumpsThatRest();
        promise18OfSeveral();
        promise18NoMore();
        promise18From1To96();
        promise18OverTheEndOfTheDay();
        promise18TakesWaterFromOthers();
        promise19();
        promise19OfMuch();
        promise20NothingAndAll();
        promise20PumpsThatRest();
        promise20WrapsAround();
        promise20TellsOfEverything();
        check.finish();
    }

    private static void enough(String what, SnowPumps x, int part, int snow, int want) {
        long before = x.digest();
        check.due(what + ": enough(" + part + ", " + snow + ")", x.enough(part, snow), want);
        check.unchanged(what + ": enough", x, before);
    }

    private static void foresee(String what, SnowPumps x, int hours, int of, int want) {
        long before = x.digest();
        check.due(what + ": foresee(" + hours + ", " + of + ")", x.foresee(hours, of), want);
        check.unchanged(what + ": foresee", x, before);
    }

    private static void gate(String what, SnowPumps x, int style, int want) {
        long before = x.digest();
        check.due(what + ": gate(" + style + ")", x.gate(style), want);
        check.unchanged(what + ": gate", x, before);
    }

    private static void advise(String what, SnowPumps x, int hours, int want) {
        long before = x.digest();
        check.due(what + ": advise(" + hours + ")", x.advise(hours), want);
        check.unchanged(what + ": advise", x, before);
    }

    /** Just 1 more snow at part 9 in each hour. */
    private static SnowPumps slow() {
        SnowPumps x = Hills.withPump(9, 1, 9999);
        Hills.setAllHours(x, -2, 100, 0);
        return x;
    }

    // "IllegalArgumentException if hours is not 1 to 96"
    private static void promise14From1To96() {
        SnowPumps x = slow();
        check.refused("pass(0)", x, ARGUMENT, () -> x.pass(0));
        check.refused("pass(-1)", x, ARGUMENT, () -> x.pass(-1));
        check.refused("pass(97)", x, ARGUMENT, () -> x.pass(97));
        check.due("pass(1)", x.pass(1), 1);
        check.due("hour", x.count(0), 1);
        check.due("pass(96)", x.pass(96), 96);
        check.due("hour", x.count(0), 97);
        check.refused("pass(0)", x, ARGUMENT, () -> x.pass(0));
        check.refused("pass(97)", x, ARGUMENT, () -> x.pass(97));
        check.due("water", x.count(4), 9999 - 97);
    }

    // "how much more snow there is then; less than 0, if there is less"
    private static void promise14MoreAndLess() {
        SnowPumps x = slow();
        check.due("more", x.pass(10), 10);
        x.setWeather(11, 3, 100, 0);
        check.due("3 less, 4 more", x.pass(5), 4 - 3);
        x.setWeather(15, 1, 100, 0);
        check.due("1 less, 1 more", x.pass(2), 0);
        x.setWeather(17, 9, 100, 0);
        check.due("less", x.pass(1), -9);
        x.setWeather(18, 20, 100, 0);
        check.due("all of it", x.pass(1), -2);
        x.setWeather(19, 20, 100, 0);
        check.due("none there", x.pass(1), 0);
        check.due("a bare hill", new SnowPumps().pass(96), 0);
        SnowPumps full = Hills.full();
        check.due("a full hill", full.pass(1), 0);
        Hills.setAllHours(full, 20, 100, 0);
        check.due("a full hill melts", full.pass(15), -6000);
    }

    private static void promise14OverTheEndOfTheDay() {
        SnowPumps x = Hills.withPump(9, 1, 9999);
        Hills.setAllHours(x, -2, 100, 0);
        x.setWeather(23, -4, 100, 0);
        x.setWeather(0, -8, 100, 0);
        check.due("from 0 to 22", x.pass(23), 8 + 22);
        check.due("23 and 0", x.pass(2), 4 + 8);
        check.due("4 days", x.pass(96), 4 * (22 + 4 + 8));
        check.due("hour of the day", x.count(1), 1);
    }

    // "if snow is not 1 to 300"
    private static void promise15From1To300() {
        SnowPumps x = Hills.withPump(9, 9, 9999);
        check.refused("enough(9, 0)", x, ARGUMENT, () -> x.enough(9, 0));
        check.refused("enough(9, 301)", x, ARGUMENT, () -> x.enough(9, 301));
        enough("the least", x, 9, 1, 1);
        enough("the most", x, 9, 300, 9);
        enough("the first part", x, 0, 1, -1);
        enough("the last part", x, 19, 1, -1);
        SnowPumps ends = Hills.withPump(0, 9, 9999);
        ends.pump(19, 9);
        ends.run(1);
        enough("the first part", ends, 0, 300, 9);
        enough("the last part", ends, 19, 300, 9);
        enough("beside the first", ends, 1, 300, 17);
        enough("beside the last", ends, 18, 300, 17);
    }

    // "0 if it has"
    private static void promise15NoHour() {
        SnowPumps x = Hills.even(40);
        enough("even", x, 0, 1, 0);
        enough("even", x, 19, 39, 0);
        enough("even", x, 19, 40, 0);
        enough("even", x, 19, 41, -1);
        Hills.setThisHour(x, 20, 100, 0);
        enough("though it melts", x, 19, 40, 0);
        SnowPumps full = Hills.full();
        enough("full", full, 0, 300, 0);
        enough("full", full, 19, 300, 0);
    }

    // "so much, or more"
    private static void promise15SoMuchOrMore() {
        SnowPumps x = Hills.withPump(9, 9, 9999);
        int[][] rows = {{35, 1}, {36, 1}, {37, 2}, {72, 2}, {73, 3}, {288, 8}, {289, 9}, {299, 9}, {300, 9}};
        for (int[] row : rows) {
            enough("36 in an hour", x, 9, row[0], row[1]);
        }
    }

    // "at most 240; -1 if not by then"
    private static void promise15AtMost240() {
        SnowPumps x = slow();
        enough("1 in an hour", x, 9, 1, 1);
        enough("1 in an hour", x, 9, 96, 96);
        enough("1 in an hour", x, 9, 97, 97);
        enough("1 in an hour", x, 9, 239, 239);
        enough("1 in an hour", x, 9, 240, 240);
        enough("1 in an hour", x, 9, 241, -1);
        enough("1 in an hour", x, 9, 300, -1);
        enough("0 in an hour", x, 8, 1, -1);
        x.pass(59);
        enough("59, and 1 in an hour", x, 9, 299, 240);
        enough("59, and 1 in an hour", x, 9, 300, -1);
        x.pass(1);
        enough("60, and 1 in an hour", x, 9, 300, 240);
        x.run(0);
        enough("nothing runs", x, 9, 60, 0);
        enough("nothing runs", x, 9, 61, -1);
    }

    // It has so much behind some hours, though less behind more.
    private static void promise15OnTheWay() {
        SnowPumps x = Hills.withPump(9, 9, 18);
        x.setWeather(2, 20, 100, 0);
        enough("2 hours of snow, then it melts", x, 9, 36, 1);
        enough("2 hours of snow, then it melts", x, 9, 72, 2);
        enough("2 hours of snow, then it melts", x, 9, 73, -1);
        SnowPumps within = Hills.withPump(9, 9, 9999);
        Hills.setAllHours(within, 6, 0, 0);
        enough("made and melted in one hour", within, 9, 12, 1);
        enough("made and melted in one hour", within, 9, 13, 2);
    }

    private static void promise15OverTheEndOfTheDay() {
        SnowPumps x = Hills.withPump(9, 9, 9999);
        Hills.setAllHours(x, -1, 100, 0);
        x.setWeather(0, -8, 100, 0);
        x.pass(23);
        enough("once in a day", x, 9, 37, 2);
        enough("once in a day", x, 9, 73, 26);
        enough("once in a day", x, 9, 300, 8 * 24 - 22);
        x.setWeather(23, -8, 100, 0);
        enough("in the last hour too", x, 9, 37, 1);
        enough("in the last hour too", x, 9, 73, 2);
    }

    private static void promise15TillTheWaterEnds() {
        SnowPumps x = Hills.withPump(9, 9, 26);
        enough("26 water", x, 9, 72, 2);
        enough("26 water", x, 9, 73, -1);
        x.fill(1);
        enough("27 water", x, 9, 73, 3);
        enough("27 water", x, 9, 109, -1);
    }

    private static void promise15OrderOfExceptions() {
        SnowPumps x = Hills.busy();
        check.refused("enough(-1, 0)", x, INDEX, () -> x.enough(-1, 0));
        check.refused("enough(20, 301)", x, INDEX, () -> x.enough(20, 301));
        check.refused("enough(-1, 1)", x, INDEX, () -> x.enough(-1, 1));
        check.refused("enough(20, 1)", x, INDEX, () -> x.enough(20, 1));
        check.refused("enough(0, 0)", x, ARGUMENT, () -> x.enough(0, 0));
        check.refused("enough(19, 301)", x, ARGUMENT, () -> x.enough(19, 301));
    }

    // "hours: how many, 1 to 96"
    private static void promise16From1To96() {
        SnowPumps x = slow();
        foresee("slow", x, 1, 4, 9998);
        foresee("slow", x, 1, 7, 1);
        foresee("slow", x, 1, 8, 0);
        foresee("slow", x, 95, 4, 9904);
        foresee("slow", x, 96, 4, 9903);
        foresee("slow", x, 96, 7, 96);
        check.refused("foresee(0, 4)", x, ARGUMENT, () -> x.foresee(0, 4));
        check.refused("foresee(97, 4)", x, ARGUMENT, () -> x.foresee(97, 4));
        Hills.setAllHours(x, -1, 100, 0);
        foresee("ice", x, 1, 8, 1);
        foresee("ice", x, 49, 8, 49);
        foresee("ice", x, 50, 8, 50);
        foresee("ice", x, 51, 8, 50);
        foresee("ice", x, 96, 8, 50);
        foresee("ice", x, 96, 7, 0);
    }

    private static void promise16OverTheEndOfTheDay() {
        SnowPumps x = Hills.withPump(9, 8, 9999);
        Hills.setAllHours(x, -1, 100, 0);
        x.setWeather(23, -3, 100, 0);
        x.setWeather(0, -5, 100, 0);
        x.setWeather(1, 7, 100, 0);
        x.pass(23);
        check.due("snow of the hour 0, melted in the hour 1", x.count(7), 40 - 3 * 7);
        check.due("ice of the hours from 2 on", x.count(8), 21);
        foresee("the last hour of the day", x, 1, 7, 19 + 24);
        foresee("the hour behind it", x, 2, 7, 19 + 24 + 40);
        foresee("the next one", x, 3, 7, 19 + 24 + 40 - 3 * 7);
        foresee("the last hour of the day", x, 1, 8, 21);
        foresee("the third hour behind it", x, 4, 8, 22);
        foresee("the last hour of the day", x, 1, 4, 9999 - 24 * 8);
    }

    private static void promise16NothingAndAll() {
        SnowPumps bare = new SnowPumps();
        SnowPumps full = Hills.full();
        for (int what : new int[] {4, 7, 8}) {
            foresee("bare", bare, 1, what, 0);
            foresee("bare", bare, 96, what, 0);
        }
        foresee("full", full, 1, 4, 9999 - 45);
        foresee("full", full, 96, 4, 9999 - 96 * 45);
        foresee("full", full, 96, 7, 6000);
        foresee("full", full, 96, 8, 250);
        Hills.setAllHours(full, 20, 100, 0);
        foresee("full, melting", full, 1, 7, 5600);
        foresee("full, melting", full, 14, 7, 400);
        foresee("full, melting", full, 15, 7, 0);
        foresee("full, melting", full, 96, 7, 0);
        foresee("full, with ice made and melted", full, 1, 8, 245);
        foresee("full, with ice made and melted", full, 96, 8, 245);
        SnowPumps dry = Hills.withPump(9, 9, 8);
        foresee("too little water", dry, 96, 4, 8);
        foresee("too little water", dry, 96, 7, 0);
    }

    // "if nothing is done": those that rest go on to rest.
    private static void promise16PumpsThatRest() {
        SnowPumps x = Hills.withPump(5, 4, 100);
        x.pump(12, 9);
        foresee("one of two runs", x, 1, 4, 96);
        foresee("one of two runs", x, 1, 7, 32);
        foresee("one of two runs", x, 3, 4, 88);
        foresee("one of two runs", x, 3, 7, 96);
        foresee("one of two runs", x, 3, 8, 0);
        enough("one of two runs", x, 12, 1, -1);
        Hills.setAllHours(x, 0, 100, 0);
        foresee("ice of one of two", x, 5, 8, 5);
        foresee("its water", x, 5, 4, 80);
        x.run(0);
        foresee("both rest", x, 96, 4, 100);
        foresee("both rest", x, 96, 8, 0);
        Hills.setAllHours(x, -5, 50, 0);
        foresee("both rest", x, 96, 7, 0);
        x.run(1);
        foresee("the other one runs", x, 2, 4, 82);
        foresee("the other one runs", x, 2, 7, 2 * 72);
    }

    private static void promise16OrderOfExceptions() {
        SnowPumps x = Hills.busy();
        for (int what : new int[] {-1, 0, 1, 2, 3, 5, 6, 9, 10, 11}) {
            check.refused("foresee(1, " + what + ")", x, INDEX, () -> x.foresee(1, what));
            check.refused("foresee(0, " + what + ")", x, ARGUMENT, () -> x.foresee(0, what));
            check.refused("foresee(97, " + what + ")", x, ARGUMENT, () -> x.foresee(97, what));
        }
    }

    // "the highest gate from which one with this style would jump now without a fall"
    private static void promise17TheHighestGate() {
        SnowPumps x = Hills.even(40);
        for (int style = 0; style <= 20; style++) {
            gate("all parts will do", x, style, 20);
        }
        x.jump(0, 20, 0);
        x.jump(0, 20, 0);
        x.jump(0, 20, 0);
        x.jump(0, 20, 0);
        gate("with 28 on part 16", x, 0, 19);
        gate("with 28 on part 16", x, 19, 18);
        gate("with 28 on part 16, on to part 17", x, 20, 20);
        SnowPumps one = Hills.even(29);
        one.pump(9, 1);
        one.run(1);
        Hills.setThisHour(one, -2, 100, 0);
        one.pass(1);
        gate("one part alone, 45 to 49", one, 0, 12);
        gate("one part alone", one, 4, 12);
        gate("one part alone", one, 8, 11);
        gate("one part alone", one, 20, 11);
    }

    // "0 if there is none"
    private static void promise17NoGate() {
        for (int style : new int[] {0, 10, 20}) {
            gate("bare", new SnowPumps(), style, 0);
            gate("29 on each part", Hills.even(29), style, 0);
            gate("30 on each part", Hills.even(30), style, 20);
        }
        // With part 0 alone: the lowest gate, if the style is less than 4.
        SnowPumps first = Hills.withPump(0, 7, 7);
        first.pass(1);
        check.due("snow of the first part", first.part(0, 0), 28);
        gate("28 on part 0", first, 0, 0);
        first.fill(7);
        first.pass(1);
        check.due("snow of the first two", first.part(0, 0) + first.part(1, 0), 56 + 28);
        gate("28 on part 1", first, 0, 1);
        gate("28 on part 1", first, 3, 1);
        gate("28 on part 1", first, 4, 0);
        gate("28 on part 1", first, 20, 0);
    }

    private static void promise17OfTheHeldLength() {
        SnowPumps x = Hills.withPump(19, 9, 9);
        x.pass(1);
        gate("part 19 is too far", x, 20, 0);
        x.setWeather(1, -5, 50, 9);
        gate("the length is held at 99", x, 20, 20);
        gate("the length is held at 99", x, 4, 20);
        gate("98", x, 0, 20);
        x.setWeather(1, -5, 50, 7);
        gate("94 is not enough", x, 0, 0);
        gate("94 is not enough", x, 3, 0);
        gate("95 is", x, 4, 20);
        SnowPumps y = Hills.withPump(0, 9, 9);
        y.pass(1);
        y.setWeather(1, -5, 50, -9);
        gate("the length is held at 0", y, 20, 4);
        gate("the length is held at 0", y, 0, 5);
        gate("3, and 7", y, 4, 5);
        gate("4, and 8", y, 8, 5);
        gate("1, and 5", y, 12, 4);
    }

    private static void promise17BySnowAndIce() {
        for (int ice : new int[] {0, 9, 10, 50}) {
            SnowPumps x = Hills.icy(40, 16, ice);
            gate("ice " + ice + " on part 16", x, 0, ice < 10 ? 20 : 19);
        }
        for (int snow : new int[] {29, 30, 31}) {
            gate("snow " + snow, Hills.even(snow), 7, snow < 30 ? 0 : 20);
        }
        SnowPumps x = Hills.icy(40, 16, 10);
        x.groom(16, 16);
        gate("groomed", x, 0, 20);
    }

    private static void promise17OfTheHourOfTheDay() {
        SnowPumps x = Hills.withPump(9, 9, 9);
        x.setWeather(23, -5, 50, 9);
        x.setWeather(0, -5, 50, -9);
        x.pass(23);
        gate("the last hour of the day", x, 0, 7);
        x.pass(1);
        gate("the hour behind it", x, 0, 16);
        x.pass(1);
        gate("the next one", x, 0, 12);
    }

    // "if style is not 0 to 20"
    private static void promise17EachBound() {
        for (SnowPumps x : new SnowPumps[] {new SnowPumps(), Hills.even(40), Hills.full()}) {
            check.refused("gate(-1)", x, ARGUMENT, () -> x.gate(-1));
            check.refused("gate(21)", x, ARGUMENT, () -> x.gate(21));
        }
        // There may be no jump any more, but it is told from where one would.
        SnowPumps full = Hills.full();
        gate("behind 30 jumps", full, 0, 20);
        gate("behind 30 jumps", full, 7, 20);
    }

    // "of the pumps that do not run"
    private static void promise18WithoutPumpsThatRest() {
        SnowPumps x = new SnowPumps();
        x.fill(9999);
        advise("no pumps", x, 1, -1);
        for (int pump = 0; pump < 5; pump++) {
            x.pump(4 * pump + 1, 9);
            advise("the one that rests", x, 1, pump);
            x.run(pump);
            advise("all run", x, 1, -1);
            advise("all run", x, 96, -1);
        }
        for (int pump = 0; pump < 5; pump++) {
            x.run(pump);
            advise("one rests", x, 1, pump);
            x.run(pump);
        }
    }

    // "of several the one with the smallest number"
    private static void promise18OfSeveral() {
        SnowPumps x = new SnowPumps();
        x.fill(9999);
        int[] parts = {1, 5, 9, 13, 17};
        for (int part : parts) {
            x.pump(part, 4);
        }
        for (int pump = 0; pump < 5; pump++) {
            advise("as much by each", x, 7, pump);
            x.run(pump);
        }
        for (int first = 0; first < 5; first++) {
            SnowPumps y = new SnowPumps();
            y.fill(9999);
            for (int pump = 0; pump < 5; pump++) {
                y.pump(parts[pump], pump < first ? 3 : 4);
            }
            advise("less by those before " + first, y, 1, first);
        }
        SnowPumps last = new SnowPumps();
        last.fill(9999);
        for (int pump = 0; pump < 5; pump++) {
            last.pump(parts[pump], pump == 4 ? 5 : 4);
        }
        advise("more by the last one", last, 1, 4);
    }

    // "-1 if there is no more by any"
    private static void promise18NoMore() {
        SnowPumps x = new SnowPumps();
        x.pump(9, 9);
        advise("no water", x, 96, -1);
        x.fill(8);
        advise("too little water", x, 96, -1);
        x.fill(1);
        advise("just enough water", x, 1, 0);
        advise("just enough water", x, 96, 0);
        Hills.setAllHours(x, -1, 100, 0);
        advise("too warm", x, 96, -1);
        Hills.setAllHours(x, -2, 100, 0);
        advise("cold enough", x, 96, 0);
        Hills.setAllHours(x, 9, 0, 0);
        advise("dry, but too warm", x, 96, -1);
        Hills.setAllHours(x, 8, 0, 0);
        advise("1 snow stays till the water is gone", x, 1, 0);
        advise("all of it melts then", x, 2, -1);
        SnowPumps full = Hills.full();
        full.run(3);
        advise("a full hill", full, 96, -1);
    }

    // "hours is not 1 to 96"
    private static void promise18From1To96() {
        SnowPumps x = new SnowPumps();
        x.pump(12, 1);
        x.pump(5, 3);
        x.pump(5, 9);
        x.run(2);
        x.fill(9999);
        x.pass(96);
        x.run(2);
        check.due("three parts are full", x.count(7), 900);
        Hills.setAllHours(x, -2, 100, 0);
        x.setWeather(0, 2, 100, 0);
        x.pass(1);
        x.setWeather(0, -2, 100, 0);
        for (int jump = 0; jump < 30; jump++) {
            x.jump(0, 6, 4);
        }
        check.due("room for 96", x.count(7), 900 - 96);
        // Pump 0 brings 1 in an hour, pump 1 and pump 2 bring 96 in all.
        advise("the first hour", x, 1, 2);
        advise("all hours but the last two", x, 94, 1);
        advise("all hours but the last one", x, 95, 1);
        advise("all hours", x, 96, 0);
        check.refused("advise(0)", x, ARGUMENT, () -> x.advise(0));
        check.refused("advise(97)", x, ARGUMENT, () -> x.advise(97));
        SnowPumps bare = new SnowPumps();
        check.refused("advise(0) without pumps", bare, ARGUMENT, () -> bare.advise(0));
        check.refused("advise(97) without pumps", bare, ARGUMENT, () -> bare.advise(97));
    }

    private static void promise18OverTheEndOfTheDay() {
        SnowPumps x = new SnowPumps();
        x.pump(5, 3);
        x.pump(10, 9);
        x.fill(9);
        Hills.setAllHours(x, -1, 100, 0);
        x.setWeather(23, -2, 100, 0);
        x.setWeather(0, -8, 100, 0);
        x.pass(22);
        advise("an hour before the last one", x, 1, -1);
        advise("the water of pump 1 is gone too early", x, 2, 0);
        x.pass(1);
        advise("the last hour of the day", x, 1, 1);
        advise("the hour behind it too", x, 2, 0);
        x.pass(1);
        advise("the hour behind it", x, 1, 1);
        x.pass(1);
        x.fill(9990);
        advise("up to the hour 22", x, 22, -1);
        advise("up to the hour 23", x, 23, 1);
    }

    // The snow of all counts, not of the one that would run.
    private static void promise18TakesWaterFromOthers() {
        SnowPumps x = new SnowPumps();
        x.pump(0, 9);
        x.pump(10, 9);
        x.pump(15, 1);
        x.run(1);
        x.fill(9);
        advise("pump 0 would take it all, pump 2 would get none", x, 1, -1);
        x.fill(1);
        advise("pump 2 takes what is left", x, 1, 2);
        x.fill(8);
        advise("enough for all", x, 1, 0);
        advise("in two hours both would take too much", x, 2, -1);
    }

    // Promise 19: "the mean points of all jumps; 0 if there are none"
    private static void promise19() {
        SnowPumps x = new SnowPumps();
        check.due("without a jump", x.mean(), 0.0);
        check.refused("a jump that is refused", x, ARGUMENT, () -> x.jump(0, 0, 0));
        check.due("without a jump still", x.mean(), 0.0);
        x.jump(0, 1, 0);
        check.due("one", x.mean(), 4.0);
        x.jump(9, 1, 4);
        check.due("two", x.mean(), 4.5);
        x.jump(9, 1, 0);
        check.due("three", x.mean(), 13.0 / 3.0);
        for (int jump = 3; jump < 30; jump++) {
            x.jump(jump % 10, 20, 3);
        }
        check.due("thirty", x.mean(), (13.0 + 27 * 80) / 30.0);
        SnowPumps most = Hills.even(100);
        most.setWeather(0, -5, 50, 9);
        for (int judge = 0; judge < 5; judge++) {
            most.judge(judge, 0);
        }
        most.jump(5, 20, 20);
        check.due("the greatest length", most.mean(), 99.0 + 33.0);
        SnowPumps none = new SnowPumps();
        none.setWeather(0, -5, 50, -9);
        none.jump(5, 1, 0);
        check.due("no points", none.mean(), 0.0);
        none.jump(5, 5, 0);
        check.due("2, and none", none.mean(), 1.0);
    }

    private static void promise19OfMuch() {
        SnowPumps x = Hills.even(100);
        for (int judge = 0; judge < 5; judge++) {
            x.judge(judge, 0);
        }
        for (int jump = 0; jump < 30; jump++) {
            x.jump(jump % 3, jump < 15 ? 20 : 19, 20);
        }
        check.due("no falls", x.count(10), 0);
        check.due("of much", x.mean(), (15 * (85 + 60) + 15 * (81 + 60)) / 30.0);
    }

    /** The checksum as it is told, by numbers of any size. */
    private BigInteger d = BigInteger.valueOf(1181);

    private void add(int... numbers) {
        for (int x : numbers) {
            d = d.multiply(BigInteger.valueOf(31)).add(BigInteger.valueOf(x));
        }
    }

    private void addFirstWeatherAndJudges() {
        for (int hour = 0; hour < 24; hour++) {
            add(-5, 50, 0);
        }
        add(0, 1, 2, 3, 4);
    }

    private static AheadEdgesTest ofNothing() {
        AheadEdgesTest want = new AheadEdgesTest();
        want.add(0, 0, -10, 0, 0, 0, 0, 0, 0, 0, 0);
        for (int part = 0; part < 20; part++) {
            want.add(0, 0, 0, 1);
        }
        want.addFirstWeatherAndJudges();
        want.add(0, 0, 0, 0, 0, 0, 0, 0, 0, 0);
        return want;
    }

    private static AheadEdgesTest ofAll() {
        AheadEdgesTest want = new AheadEdgesTest();
        want.add(290, 2, -10, 0, 9999, 5, 5, 6000, 250, 30, 30);
        for (int part = 0; part < 20; part++) {
            want.add(300);
            want.add(part % 4 == 2 ? new int[] {50, 1, 1} : new int[] {0, 0, 0});
        }
        want.addFirstWeatherAndJudges();
        for (int pump = 0; pump < 5; pump++) {
            want.add(2 + 4 * pump, 9, 1);
        }
        int[] first = new int[10];
        int[] second = new int[10];
        for (int jump = 0; jump < 30; jump++) {
            int style = jump % 21;
            int length = 4 * (1 + jump % 20) + style / 4;
            int points = length + Math.max(0, style - 9) + Math.max(0, style - 10) + Math.max(0, style - 11);
            want.add(jump % 10, length, points, 1, 0);
            int jumper = jump % 10;
            second[jumper] = Math.max(second[jumper], Math.min(first[jumper], points));
            first[jumper] = Math.max(first[jumper], points);
        }
        for (int jumper = 0; jumper < 10; jumper++) {
            want.add(first[jumper] + second[jumper]);
        }
        return want;
    }

    // Promise 20: nothing there yet, and as much as there can be.
    private static void promise20NothingAndAll() {
        check.due("a new object", new SnowPumps().digest(), ofNothing().d.longValue());
        check.due("a full one", Hills.full().digest(), ofAll().d.longValue());
    }

    // "for each pump its part, its flow, and 1 if it runs, else 0"
    private static void promise20PumpsThatRest() {
        SnowPumps x = new SnowPumps();
        x.pump(19, 1);
        x.pump(0, 9);
        x.run(1);
        x.setWeather(0, -30, 0, -9);
        x.setWeather(23, 20, 100, 9);
        AheadEdgesTest want = new AheadEdgesTest();
        want.add(0, 0, -40, -9, 0, 2, 1, 0, 0, 0, 0);
        for (int part = 0; part < 20; part++) {
            want.add(0, 0, part == 0 || part == 19 ? 1 : 0, 1);
        }
        want.add(-30, 0, -9);
        for (int hour = 1; hour < 23; hour++) {
            want.add(-5, 50, 0);
        }
        want.add(20, 100, 9);
        want.add(0, 1, 2, 3, 4);
        want.add(19, 1, 0, 0, 9, 1);
        want.add(0, 0, 0, 0, 0, 0, 0, 0, 0, 0);
        check.due("pumps, and no jumps", x.digest(), want.d.longValue());
    }

    // "which wraps around as a 64-bit integer"
    private static void promise20WrapsAround() {
        BigInteger all = BigInteger.ONE.shiftLeft(64);
        BigInteger whole = ofNothing().d;
        check.due("far beyond 64 bits", whole.bitLength() > 64, true);
        BigInteger got = BigInteger.valueOf(new SnowPumps().digest());
        check.due("by as much as wraps around", whole.subtract(got).mod(all).signum(), 0);
    }

    private interface Change {
        void make(SnowPumps x);
    }

    private static void tells(String what, SnowPumps x, Change change) {
        long before = x.digest();
        change.make(x);
        check.due("digest() tells of " + what, x.digest() != before, true);
    }

    private static void promise20TellsOfEverything() {
        SnowPumps x = Hills.busy();
        tells("the warmth of an hour", x, y -> y.setWeather(22, -4, 50, 0));
        tells("the damp of an hour", x, y -> y.setWeather(22, -4, 51, 0));
        tells("the gust of an hour", x, y -> y.setWeather(22, -4, 51, 1));
        tells("a pump", x, y -> y.pump(19, 1));
        tells("one that runs", x, y -> y.run(2));
        tells("water", x, y -> y.fill(1));
        tells("an hour", x, y -> y.pass(1));
        tells("snow", x, y -> y.groom(3, 4));
        tells("a judge", x, y -> y.judge(4, 3));
        tells("a jump", x, y -> y.jump(0, 1, 0));
        long before = x.digest();
        x.told(0, 2);
        x.score(3);
        x.leader();
        x.part(5, 3);
        x.count(7);
        x.enough(5, 300);
        x.foresee(96, 7);
        x.gate(20);
        x.advise(96);
        x.mean();
        x.digest();
        check.unchanged("what only asks", x, before);
    }
}
