/** The edges of the section "Terms": the hill, the weather, the pumps, and how an hour goes. */
public final class HourEdgesTest {
    private static final Check check = new Check();

    public static void main(String[] args) {
        timeFromZero();
        theHourBehindTheLastOneOfTheDay();
        manyDays();
        partsFrom0To19();
        snowFrom0To300();
        snowIsHeldByTwoPumpsAtOnce();
        snowBesideIsHeld();
        iceFrom0To50();
        iceIsHeldByTwoPumpsAtOnce();
        weatherAtFirst();
        wetColdIsCut();
        pumpsByTheirNumbers();
        pumpsRestAtFirst();
        waterFrom0To9999();
        aFlowGreaterThanTheWater();
        aFlowGreaterThanTheWaterLeavesItToTheNext();
        wetColdForSnow();
        coldCountsTo8();
        halfAndQuarterAreCut();
        besideTheFirstAndTheLastPart();
        iceOfOnePartAlone();
        meltingByWarmth();
        meltingByTheWarmthOfThisHour();
        meltingDownToNothing();
        iceMeltsDownToNothing();
        eachPartMelts();
        snowMeltsBehindThePumps();
        heldBeforeItMelts();
        theHourIsGreaterAtTheEnd();
        check.finish();
    }

    private static void parts(String what, SnowPumps x, int of, int from, int... want) {
        for (int k = 0; k < want.length; k++) {
            check.due(what + ": part(" + (from + k) + ", " + of + ")", x.part(from + k, of), want[k]);
        }
    }

    // "Time is told in hours, from 0"
    private static void timeFromZero() {
        SnowPumps x = new SnowPumps();
        check.due("the first hour", x.count(0), 0);
        check.due("the first hour of the day", x.count(1), 0);
        x.pass(1);
        check.due("the second hour", x.count(0), 1);
        check.due("the second hour of the day", x.count(1), 1);
    }

    // "the hour of the day is the remainder of it by 24"
    private static void theHourBehindTheLastOneOfTheDay() {
        SnowPumps x = new SnowPumps();
        x.setWeather(22, -4, 100, 2);
        x.setWeather(23, -6, 100, 3);
        x.setWeather(0, -7, 100, -3);
        x.setWeather(1, -8, 100, -5);
        x.pass(22);
        int[][] want = {{22, -4, 2}, {23, -6, 3}, {0, -7, -3}, {1, -8, -5}};
        for (int k = 0; k < want.length; k++) {
            check.due("hour", x.count(0), 22 + k);
            check.due("hour of the day", x.count(1), want[k][0]);
            check.due("its wet cold", x.count(2), want[k][1]);
            check.due("its gust", x.count(3), want[k][2]);
            x.pass(1);
        }
        SnowPumps y = new SnowPumps();
        y.pass(47);
        check.due("the last hour of the second day", y.count(1), 23);
        y.pass(1);
        check.due("the first one of the third", y.count(1), 0);
        check.due("time goes on", y.count(0), 48);
    }

    private static void manyDays() {
        SnowPumps x = new SnowPumps();
        for (int k = 0; k < 500; k++) {
            x.pass(96);
        }
        check.due("behind 2000 days", x.count(0), 48000);
        check.due("their hour of the day", x.count(1), 0);
        x.pass(23);
        x.jump(0, 1, 0);
        check.due("a jump's hour", x.told(0, 4), 48023);
        check.due("the last hour of that day", x.count(1), 23);
    }

    // "It has 20 parts, 0 to 19"
    private static void partsFrom0To19() {
        SnowPumps x = new SnowPumps();
        x.pump(0, 4);
        x.pump(19, 6);
        x.run(0);
        x.run(1);
        x.fill(100);
        x.pass(1);
        parts("both ends", x, 0, 0, 16, 8, 0, 0, 0, 0, 0, 0, 0, 0, 0, 0, 0, 0, 0, 0, 0, 0, 12, 24);
        parts("both ends", x, 2, 0, 1, 0, 0, 0, 0, 0, 0, 0, 0, 0, 0, 0, 0, 0, 0, 0, 0, 0, 0, 1);
    }

    // "snow, 0 (at first) to 300"
    private static void snowFrom0To300() {
        SnowPumps just = Hills.withPump(9, 5, 9999);
        parts("at first", just, 0, 0, new int[20]);
        just.pass(14);
        parts("14 hours", just, 0, 9, 280);
        just.pass(1);
        parts("just 300", just, 0, 9, 300);
        just.pass(1);
        parts("not more", just, 0, 9, 300);
        SnowPumps beyond = Hills.withPump(9, 1, 9999);
        Hills.setAllHours(beyond, -2, 100, 0);
        beyond.pass(96);
        beyond.pass(96);
        beyond.pass(96);
        beyond.pass(11);
        parts("299 hours of 1", beyond, 0, 9, 299);
        beyond.setWeather(beyond.count(1), -4, 100, 0);
        beyond.pass(1);
        parts("2 more, held at 300", beyond, 0, 9, 300);
    }

    private static void snowIsHeldByTwoPumpsAtOnce() {
        SnowPumps x = new SnowPumps();
        x.pump(9, 9);
        x.pump(9, 9);
        x.run(0);
        x.run(1);
        x.fill(9999);
        x.pass(4);
        parts("4 hours of two", x, 0, 8, 144, 288, 144);
        check.due("each of two brings as much as there is room for", x.pass(1), 12 + 72);
        parts("5 hours of two", x, 0, 8, 180, 300, 180);
    }

    private static void snowBesideIsHeld() {
        SnowPumps x = Hills.withPump(9, 9, 9999);
        x.pass(16);
        parts("16 hours", x, 0, 7, 0, 288, 300, 288, 0);
        check.due("the parts beside it are held", x.pass(1), 24);
        parts("17 hours", x, 0, 7, 0, 300, 300, 300, 0);
        check.due("all of them are full", x.pass(1), 0);
    }

    // "ice, 0 (at first) to 50"
    private static void iceFrom0To50() {
        SnowPumps x = Hills.withPump(9, 1, 9999);
        Hills.setAllHours(x, 0, 100, 0);
        parts("at first", x, 1, 0, new int[20]);
        x.pass(49);
        parts("49 hours", x, 1, 9, 49);
        x.pass(1);
        parts("50 hours", x, 1, 9, 50);
        x.pass(1);
        parts("51 hours", x, 1, 9, 50);
        check.due("water goes on", x.count(4), 9999 - 51);
        x.pass(96);
        parts("147 hours", x, 1, 8, 0, 50, 0);
    }

    private static void iceIsHeldByTwoPumpsAtOnce() {
        SnowPumps x = Hills.withPump(9, 1, 9999);
        Hills.setAllHours(x, 0, 100, 0);
        x.pass(47);
        x.pump(9, 9);
        x.run(1);
        x.pass(1);
        parts("two pumps at one part", x, 1, 9, 49);
        x.pass(1);
        parts("held at 50", x, 1, 9, 50);
    }

    // "a warmth, -30 to 20 (-5, at first), a damp, 0 to 100 (50, at first), and a gust, -9 to 9 (0, at first ..)"
    private static void weatherAtFirst() {
        SnowPumps x = Hills.withPump(9, 1, 9999);
        for (int hour = 0; hour < 24; hour++) {
            check.due("wet cold of " + hour, x.count(2), -10);
            check.due("gust of " + hour, x.count(3), 0);
            check.due("snow of " + hour, x.pass(1), 4 + 2 + 2);
        }
    }

    // "Wet cold of an hour: its warmth less (100 - damp) / 10." "/ is cut towards 0"
    private static void wetColdIsCut() {
        SnowPumps x = new SnowPumps();
        int[][] rows = {
            {0, 0, -10}, {0, 1, -9}, {0, 9, -9}, {0, 10, -9}, {0, 11, -8}, {0, 89, -1}, {0, 90, -1}, {0, 91, 0},
            {0, 99, 0}, {0, 100, 0}, {20, 0, 10}, {20, 100, 20}, {-30, 0, -40}, {-30, 100, -30}, {-3, 95, -3},
            {5, 55, 1}, {4, 59, 0}, {4, 50, -1},
        };
        for (int[] row : rows) {
            String what = "warmth " + row[0] + ", damp " + row[1];
            check.due(what, x.setWeather(0, row[0], row[1], 0), row[2]);
            check.due(what + ": count(2)", x.count(2), row[2]);
        }
    }

    // "There are at most 5, numbered from 0 in the order of their setting up"
    private static void pumpsByTheirNumbers() {
        SnowPumps x = new SnowPumps();
        check.due("none at first", x.count(5), 0);
        int[] parts = {19, 3, 11, 0, 7};
        for (int pump = 0; pump < 5; pump++) {
            check.due("the number of a pump", x.pump(parts[pump], 4), pump);
        }
        check.due("5 of them", x.count(5), 5);
        x.fill(9999);
        for (int pump = 0; pump < 5; pump++) {
            x.run(pump);
            x.pass(1);
            parts("pump " + pump + " alone", x, 0, parts[pump], 16);
            x.run(pump);
        }
        x.pass(1);
        parts("none of them", x, 0, 0, 16, 8, 8, 16, 8, 0, 8, 16, 8, 0, 8, 16, 8, 0, 0, 0, 0, 0, 8, 16);
    }

    // "and runs or not (not, at first)"
    private static void pumpsRestAtFirst() {
        SnowPumps x = new SnowPumps();
        x.fill(9999);
        for (int pump = 0; pump < 5; pump++) {
            x.pump(4 * pump, 9);
            check.due("those that run", x.count(6), 0);
        }
        check.due("no snow", x.pass(96), 0);
        check.due("all of the water", x.count(4), 9999);
    }

    // "There is water, 0 (at first) to 9999."
    private static void waterFrom0To9999() {
        SnowPumps x = new SnowPumps();
        check.due("none at first", x.count(4), 0);
        x.pump(9, 1);
        x.run(0);
        check.due("no snow without any", x.pass(96), 0);
        check.due("nor less than none", x.count(4), 0);
        check.due("as much as there can be", x.fill(9999), 9999);
        x.pass(1);
        check.due("1 less", x.count(4), 9998);
        check.due("1 more", x.fill(1), 9999);
        check.due("not 10000", x.fill(1), 9999);
        x.pass(1);
        check.due("2 beyond it", x.fill(3), 9999);
    }

    // "one with a flow greater than the water does nothing. Otherwise it takes its flow of water."
    private static void aFlowGreaterThanTheWater() {
        for (int flow = 1; flow <= 9; flow++) {
            for (int water = flow - 1; water <= flow + 1; water++) {
                for (int cold : new int[] {-8, 0}) {
                    SnowPumps x = new SnowPumps();
                    x.pump(9, flow);
                    x.run(0);
                    if (water > 0) {
                        x.fill(water);
                    }
                    Hills.setAllHours(x, cold, 100, 0);
                    x.pass(1);
                    boolean works = water >= flow;
                    String what = "flow " + flow + ", water " + water + ", warmth " + cold;
                    check.due(what + ": water", x.count(4), works ? water - flow : water);
                    check.due(what + ": snow", x.part(9, 0), works && cold < 0 ? 4 * flow : 0);
                    check.due(what + ": ice", x.part(9, 1), works && cold == 0 ? 1 : 0);
                    check.due(what + ": it runs", x.count(6), 1);
                }
            }
        }
    }

    // "Pumps that run, by numbers"
    private static void aFlowGreaterThanTheWaterLeavesItToTheNext() {
        int[] flows = {4, 9, 3, 2, 1};
        int[] snow = {16, 0, 12, 0, 4};
        int[][] parts = {{1, 5, 9, 13, 17}, {17, 13, 9, 5, 1}, {9, 1, 17, 5, 13}};
        for (int[] at : parts) {
            SnowPumps x = new SnowPumps();
            for (int pump = 0; pump < 5; pump++) {
                x.pump(at[pump], flows[pump]);
            }
            // Neither the order in which they are started nor that of their parts counts.
            for (int pump = 4; pump >= 0; pump--) {
                x.run(pump);
            }
            x.fill(8);
            x.pass(1);
            for (int pump = 0; pump < 5; pump++) {
                parts("8 water for 4, 9, 3, 2, 1", x, 0, at[pump], snow[pump]);
            }
            check.due("water", x.count(4), 0);
        }
    }

    // "With a wet cold of -2 or less it makes .. snow .. Otherwise its part has 1 more ice."
    private static void wetColdForSnow() {
        int[][] rows = {
            // warmth, damp, snow, ice
            {-3, 100, 12, 0}, {-2, 100, 8, 0}, {-1, 100, 0, 1}, {0, 100, 0, 1}, {1, 100, 0, 0},
            {0, 70, 12, 0}, {0, 80, 8, 0}, {0, 81, 0, 1}, {0, 90, 0, 1}, {-1, 90, 8, 0}, {-1, 91, 0, 1},
            {-12, 100, 32, 0}, {20, 100, 0, 0},
        };
        for (int[] row : rows) {
            SnowPumps x = Hills.withPump(9, 8, 8);
            x.setWeather(0, row[0], row[1], 0);
            x.pass(1);
            String what = "warmth " + row[0] + ", damp " + row[1];
            parts(what, x, 0, 9, row[2]);
            parts(what, x, 1, 8, 0, row[3], 0);
            check.due(what + ": water", x.count(4), 0);
        }
    }

    // "with n the wet cold without its sign, 8 at most"
    private static void coldCountsTo8() {
        int[] snow = {0, 0, 8, 12, 16, 20, 24, 28, 32, 32, 32};
        for (int cold = 2; cold <= 10; cold++) {
            SnowPumps x = Hills.withPump(9, 8, 8);
            x.setWeather(0, -cold, 100, 0);
            x.pass(1);
            parts("cold " + cold, x, 0, 8, snow[cold] / 2, snow[cold], snow[cold] / 2);
        }
        SnowPumps coldest = Hills.withPump(9, 8, 8);
        coldest.setWeather(0, -30, 0, 0);
        coldest.pass(1);
        parts("cold 40", coldest, 0, 8, 16, 32, 16);
    }

    // "its part has half of it (cut) more, and the parts beside it a quarter (cut) each"
    private static void halfAndQuarterAreCut() {
        int[][] rows = {
            // flow, cold, half, quarter
            {1, 2, 1, 0}, {1, 3, 1, 0}, {1, 4, 2, 1}, {1, 5, 2, 1}, {1, 6, 3, 1}, {1, 7, 3, 1}, {1, 8, 4, 2},
            {3, 2, 3, 1}, {3, 3, 4, 2}, {3, 5, 7, 3}, {5, 3, 7, 3}, {7, 2, 7, 3}, {7, 3, 10, 5}, {7, 7, 24, 12},
            {9, 2, 9, 4}, {9, 3, 13, 6}, {9, 5, 22, 11}, {9, 7, 31, 15}, {9, 8, 36, 18},
        };
        for (int[] row : rows) {
            SnowPumps x = Hills.withPump(9, row[0], 9);
            x.setWeather(0, -row[1], 100, 0);
            String what = "flow " + row[0] + ", cold " + row[1];
            check.due(what, x.pass(1), row[2] + 2 * row[3]);
            parts(what, x, 0, 7, 0, row[3], row[2], row[3], 0);
        }
    }

    // "as far as there are some"
    private static void besideTheFirstAndTheLastPart() {
        int[][] rows = {
            // part, its snow, that of the first three, that of the last three
            {0, 36, 36, 18, 0, 0, 0, 0}, {1, 36, 18, 36, 18, 0, 0, 0},
            {18, 36, 0, 0, 0, 18, 36, 18}, {19, 36, 0, 0, 0, 0, 18, 36},
        };
        for (int[] row : rows) {
            SnowPumps x = Hills.withPump(row[0], 9, 9);
            String what = "a pump at " + row[0];
            boolean isAtAnEnd = row[0] == 0 || row[0] == 19;
            check.due(what, x.pass(1), isAtAnEnd ? 54 : 72);
            parts(what, x, 0, row[0], row[1]);
            parts(what, x, 0, 0, row[2], row[3], row[4]);
            parts(what, x, 0, 17, row[5], row[6], row[7]);
        }
    }

    // "Otherwise its part has 1 more ice."
    private static void iceOfOnePartAlone() {
        for (int part : new int[] {0, 1, 10, 18, 19}) {
            for (int flow : new int[] {1, 9}) {
                SnowPumps x = Hills.withPump(part, flow, 20);
                Hills.setAllHours(x, -1, 100, 0);
                check.due("no snow", x.pass(2), 0);
                check.due("ice of " + part, x.part(part, 1), 2);
                check.due("all ice", x.count(8), 2);
                check.due("water", x.count(4), 20 - 2 * flow);
            }
        }
    }

    // "With a warmth of more than 0 each part has that much less snow"
    private static void meltingByWarmth() {
        int[][] rows = {{-30, 0}, {-1, 0}, {0, 0}, {1, 1}, {2, 2}, {19, 19}, {20, 20}};
        for (int[] row : rows) {
            for (int damp : new int[] {0, 100}) {
                SnowPumps x = Hills.icy(40, 8, 5);
                x.setWeather(0, row[0], damp, 0);
                check.due("warmth " + row[0], x.pass(1), -20 * row[1]);
                parts("warmth " + row[0], x, 0, 0, 40 - row[1]);
                parts("warmth " + row[0], x, 1, 8, row[0] > 0 ? 4 : 5);
            }
        }
    }

    // "with the weather of the hour of the day": of this one, not of those beside it.
    private static void meltingByTheWarmthOfThisHour() {
        SnowPumps x = Hills.even(40);
        int[] warmth = {3, 7, 0, 1, -2, 12};
        for (int hour = 0; hour < warmth.length; hour++) {
            x.setWeather(hour, warmth[hour], 100, 0);
        }
        x.setWeather(23, 2, 100, 0);
        int[] want = {37, 30, 30, 29, 29, 17};
        for (int hour = 0; hour < want.length; hour++) {
            x.pass(1);
            parts("behind the hour " + hour, x, 0, 0, want[hour], want[hour]);
        }
        x.pass(17);
        parts("behind the cold ones", x, 0, 19, 17);
        x.pass(1);
        parts("behind the last one of the day", x, 0, 19, 15);
        x.pass(1);
        parts("behind the first one of the next", x, 0, 19, 12);
    }

    // "that much less snow (at least 0)"
    private static void meltingDownToNothing() {
        for (int warmth : new int[] {19, 20}) {
            for (int snow = warmth - 1; snow <= warmth + 1; snow++) {
                SnowPumps x = Hills.even(snow);
                x.setWeather(0, warmth, 100, 0);
                int left = snow < warmth ? 0 : snow - warmth;
                check.due("warmth " + warmth + ", snow " + snow, x.pass(1), 20 * (left - snow));
                parts("warmth " + warmth + ", snow " + snow, x, 0, 0, left, left, left);
            }
        }
        SnowPumps bare = new SnowPumps();
        bare.setWeather(0, 20, 100, 0);
        check.due("a bare hill", bare.pass(1), 0);
        parts("a bare hill", bare, 0, 0, new int[20]);
    }

    // "and 1 less ice (at least 0)"
    private static void iceMeltsDownToNothing() {
        int[][] rows = {{0, 0}, {1, 0}, {2, 1}, {50, 49}};
        for (int[] row : rows) {
            SnowPumps x = Hills.icy(0, 8, row[0]);
            x.setWeather(0, 20, 100, 0);
            x.pass(1);
            check.due("ice " + row[0], x.part(8, 1), row[1]);
            check.due("all ice of " + row[0], x.count(8), row[1]);
        }
    }

    private static void eachPartMelts() {
        SnowPumps x = Hills.full();
        Hills.setThisHour(x, 20, 100, 0);
        for (int pump = 0; pump < 5; pump++) {
            x.run(pump);
        }
        check.due("a full hill", x.pass(1), -400);
        for (int part = 0; part < 20; part++) {
            parts("a full hill", x, 0, part, 280);
            parts("a full hill", x, 1, part, part % 4 == 2 ? 49 : 0);
        }
    }

    // 1. before 2.: it is warm and dry enough for both in one hour.
    private static void snowMeltsBehindThePumps() {
        SnowPumps x = Hills.withPump(9, 9, 9);
        x.setWeather(0, 8, 0, 0);
        check.due("made, then it melts", x.pass(1), 1);
        parts("made, then it melts", x, 0, 8, 0, 1, 0);
        SnowPumps wet = Hills.withPump(9, 9, 9);
        wet.setWeather(0, 1, 100, 0);
        wet.pass(1);
        check.due("ice is made, then it melts", wet.count(8), 0);
        SnowPumps none = Hills.withPump(9, 9, 9);
        none.setWeather(0, 9, 0, 0);
        none.pass(1);
        check.due("with a wet cold of -1 there is none", none.count(7), 0);
    }

    // "Snow is held at 300, ice at 50", and then it melts.
    private static void heldBeforeItMelts() {
        SnowPumps snow = Hills.withPump(9, 9, 9999);
        snow.pass(40);
        Hills.setThisHour(snow, 8, 0, 0);
        check.due("snow", snow.pass(1), -24);
        parts("snow", snow, 0, 8, 292, 292, 292);
        SnowPumps ice = Hills.withPump(9, 9, 9999);
        Hills.setAllHours(ice, 0, 100, 0);
        ice.pass(60);
        Hills.setThisHour(ice, 1, 100, 0);
        ice.pass(1);
        parts("ice", ice, 1, 9, 49);
    }

    // "with the weather of the hour of the day"; "The hour is 1 greater", as the last of it all.
    private static void theHourIsGreaterAtTheEnd() {
        SnowPumps x = Hills.withPump(9, 8, 9999);
        Hills.setAllHours(x, 0, 100, 0);
        x.setWeather(23, -4, 100, 0);
        x.setWeather(0, -5, 100, 0);
        x.setWeather(1, 3, 100, 0);
        int[] want = {20 + 10 + 10, -9};
        for (int hour = 0; hour < 2; hour++) {
            check.due("hour " + hour, x.pass(1), want[hour]);
        }
        check.due("the hours to the last one of the day", x.pass(21), 0);
        check.due("the last one of the day", x.pass(1), 16 + 8 + 8);
        check.due("the one behind it", x.pass(1), 40);
        check.due("and the next", x.pass(1), -9);
        check.due("time", x.count(0), 26);
    }
}
