/** Promises 1 to 6: a new object, setWeather, pump, run, fill, groom. */
public final class WeatherAndPumpsTest {
    private static final Class<IndexOutOfBoundsException> INDEX = IndexOutOfBoundsException.class;
    private static final Class<IllegalArgumentException> ARGUMENT = IllegalArgumentException.class;
    private static final Class<IllegalStateException> STATE = IllegalStateException.class;
    private static final int LEAST = Integer.MIN_VALUE;
    private static final int MOST = Integer.MAX_VALUE;

    private static final Check check = new Check();

    public static void main(String[] args) {
        promise1ANewObject();
        promise2SetWeather();
        promise2OfEachHour();
        promise2Refused();
        promise3Pump();
        promise3Refused();
        promise4Run();
        promise5Fill();
        promise6Groom();
        promise6Refused();
        check.finish();
    }

    private static void promise1ANewObject() {
        SnowPumps x = new SnowPumps();
        int[] counts = {0, 0, -10, 0, 0, 0, 0, 0, 0, 0, 0};
        for (int what = 0; what < counts.length; what++) {
            check.due("new: count(" + what + ")", x.count(what), counts[what]);
        }
        for (int part = 0; part < 20; part++) {
            check.due("new: snow of " + part, x.part(part, 0), 0);
            check.due("new: ice of " + part, x.part(part, 1), 0);
            check.due("new: pumps at " + part, x.part(part, 2), 0);
            check.due("new: one falls at " + part, x.part(part, 3), 1);
        }
        for (int jumper = 0; jumper < 10; jumper++) {
            check.due("new: score(" + jumper + ")", x.score(jumper), 0);
        }
        for (int judge = 0; judge < 5; judge++) {
            check.due("new: judge(" + judge + ", 0)", x.judge(judge, 0), judge);
        }
        check.due("new: leader()", x.leader(), -1);
        check.due("new: mean()", x.mean(), 0.0);
        check.due("new: another one is bare too", new SnowPumps().judge(4, 4), 4);
    }

    private static void promise2SetWeather() {
        SnowPumps x = new SnowPumps();
        check.due("setWeather(0, -5, 50, 0)", x.setWeather(0, -5, 50, 0), -10);
        check.due("setWeather(0, 20, 100, 9)", x.setWeather(0, 20, 100, 9), 20);
        check.due("setWeather(23, -30, 0, -9)", x.setWeather(23, -30, 0, -9), -40);
        check.due("setWeather(0, 0, 91, 0), cut", x.setWeather(0, 0, 91, 0), 0);
        check.due("setWeather(0, 0, 90, 0)", x.setWeather(0, 0, 90, 0), -1);
        check.due("setWeather(0, 3, 81, 0), cut", x.setWeather(0, 3, 81, 0), 2);
        check.due("setWeather(0, -7, 1, 4), cut", x.setWeather(0, -7, 1, 4), -16);
        check.due("the wet cold is of the hour", x.count(2), -16);
        check.due("the gust is of the hour", x.count(3), 4);
        check.due("no time goes by", x.count(0), 0);
    }

    private static void promise2OfEachHour() {
        SnowPumps x = new SnowPumps();
        for (int hour = 0; hour < 24; hour++) {
            check.due("setWeather of " + hour, x.setWeather(hour, hour - 12, 10 * (hour % 11), hour % 10 - 5),
                    hour - 12 - (10 - hour % 11));
        }
        for (int hour = 0; hour < 48; hour++) {
            int ofDay = hour % 24;
            check.due("wet cold of " + hour, x.count(2), ofDay - 12 - (10 - ofDay % 11));
            check.due("gust of " + hour, x.count(3), ofDay % 10 - 5);
            x.pass(1);
        }
    }

    private static void promise2Refused() {
        SnowPumps x = new SnowPumps();
        for (int hour : new int[] {-1, 24, LEAST, MOST}) {
            check.refused("setWeather of " + hour, x, INDEX, () -> x.setWeather(hour, 0, 0, 0));
            check.refused("setWeather of " + hour + ", all wrong", x, INDEX, () -> x.setWeather(hour, 21, 101, 10));
        }
        for (int warmth : new int[] {-31, 21, LEAST, MOST}) {
            check.refused("warmth " + warmth, x, ARGUMENT, () -> x.setWeather(3, warmth, 0, 0));
        }
        for (int damp : new int[] {-1, 101, LEAST, MOST}) {
            check.refused("damp " + damp, x, ARGUMENT, () -> x.setWeather(3, 7, damp, 3));
        }
        for (int gust : new int[] {-10, 10, LEAST, MOST}) {
            check.refused("gust " + gust, x, ARGUMENT, () -> x.setWeather(3, 7, 7, gust));
        }
    }

    private static void promise3Pump() {
        SnowPumps x = new SnowPumps();
        int[] parts = {0, 19, 7, 7, 0};
        int[] flows = {1, 9, 5, 5, 2};
        for (int pump = 0; pump < 5; pump++) {
            check.due("pump " + pump, x.pump(parts[pump], flows[pump]), pump);
            check.due("pumps then", x.count(5), pump + 1);
        }
        check.due("none of them runs", x.count(6), 0);
        check.due("pumps at 0", x.part(0, 2), 2);
        check.due("pumps at 7", x.part(7, 2), 2);
        check.due("pumps at 19", x.part(19, 2), 1);
        check.due("pumps at 1", x.part(1, 2), 0);
        check.due("fill(100)", x.fill(100), 100);
        check.due("without one that runs there is no snow", x.pass(5), 0);
        check.due("nor does water go", x.count(4), 100);
    }

    private static void promise3Refused() {
        SnowPumps x = new SnowPumps();
        for (int count = 0; count <= 5; count++) {
            for (int part : new int[] {-1, 20, LEAST, MOST}) {
                check.refused("pump at " + part, x, INDEX, () -> x.pump(part, 5));
                check.refused("pump at " + part + ", flow 0", x, INDEX, () -> x.pump(part, 0));
            }
            for (int flow : new int[] {0, 10, -1, LEAST, MOST}) {
                check.refused("pump with flow " + flow, x, ARGUMENT, () -> x.pump(3, flow));
            }
            if (count < 5) {
                check.due("pump " + count, x.pump(19 - count, 9 - count), count);
            }
        }
        check.refused("a sixth pump", x, STATE, () -> x.pump(0, 1));
        check.refused("a sixth pump again", x, STATE, () -> x.pump(19, 9));
    }

    private static void promise4Run() {
        SnowPumps x = new SnowPumps();
        for (int pump : new int[] {0, -1, 4, LEAST, MOST}) {
            check.refused("run(" + pump + ") without pumps", x, INDEX, () -> x.run(pump));
        }
        x.pump(3, 2);
        x.pump(12, 4);
        check.due("run(1)", x.run(1), true);
        check.due("those that run", x.count(6), 1);
        check.due("run(0)", x.run(0), true);
        check.due("those that run", x.count(6), 2);
        check.due("run(1) stops it", x.run(1), false);
        check.due("those that run", x.count(6), 1);
        for (int pump : new int[] {2, 3, -1, 5, LEAST, MOST}) {
            check.refused("run(" + pump + ") of two", x, INDEX, () -> x.run(pump));
        }
        x.fill(100);
        x.pass(1);
        check.due("the one that runs makes snow", x.part(3, 0), 8);
        check.due("the one that stopped doesn't", x.part(12, 0), 0);
        check.due("run(1) once more", x.run(1), true);
        x.pass(1);
        check.due("it makes snow now", x.part(12, 0), 16);
    }

    private static void promise5Fill() {
        SnowPumps x = new SnowPumps();
        for (int water : new int[] {0, -1, 10000, LEAST, MOST}) {
            check.refused("fill(" + water + ")", x, ARGUMENT, () -> x.fill(water));
        }
        check.due("fill(1)", x.fill(1), 1);
        check.due("fill(9997)", x.fill(9997), 9998);
        check.due("fill(1) to the brim", x.fill(1), 9999);
        check.due("fill(1) beyond it", x.fill(1), 9999);
        check.due("fill(9999)", x.fill(9999), 9999);
        check.due("water", x.count(4), 9999);
        check.refused("fill(10000)", x, ARGUMENT, () -> x.fill(10000));
        check.due("fill(9999) of a new one", new SnowPumps().fill(9999), 9999);
    }

    private static void promise6Groom() {
        SnowPumps x = new SnowPumps();
        check.due("groom of a bare hill", x.groom(0, 19), 0);
        x.pump(5, 9);
        x.run(0);
        x.fill(9999);
        x.pass(1);
        check.due("groom(5, 5) alone", x.groom(5, 5), 36);
        check.due("its snow stays", x.part(5, 0), 36);
        check.due("groom(4, 8)", x.groom(4, 8), 72);
        int[] snow = {0, 15, 15, 14, 14, 14, 0};
        for (int k = 0; k < snow.length; k++) {
            check.due("snow of " + (3 + k), x.part(3 + k, 0), snow[k]);
        }
        check.due("groom(0, 19)", x.groom(0, 19), 72);
        check.due("first of 20", x.part(0, 0), 4);
        check.due("the 12th of 20", x.part(11, 0), 4);
        check.due("the 13th of 20", x.part(12, 0), 3);
        check.due("the last of 20", x.part(19, 0), 3);
        x.setWeather(1, 0, 100, 0);
        x.pump(6, 1);
        x.run(1);
        x.pass(1);
        check.due("ice at 5", x.part(5, 1), 1);
        check.due("ice at 6", x.part(6, 1), 1);
        check.due("groom(6, 7)", x.groom(6, 7), 8);
        check.due("ice at 6 is gone", x.part(6, 1), 0);
        check.due("ice at 5 is not", x.part(5, 1), 1);
        check.due("groom(5, 5)", x.groom(5, 5), 4);
        check.due("ice at 5 is gone", x.part(5, 1), 0);
        check.due("its snow is not", x.part(5, 0), 4);
        check.due("no time goes by", x.count(0), 2);
        for (int k = 0; k < 3; k++) {
            x.pass(96);
        }
        check.due("groom of full parts", x.groom(4, 6), 900);
        check.due("they stay full", x.part(4, 0), 300);
    }

    private static void promise6Refused() {
        SnowPumps x = new SnowPumps();
        x.pump(5, 9);
        x.run(0);
        x.fill(9999);
        x.pass(2);
        for (int part : new int[] {-1, 20, LEAST, MOST}) {
            check.refused("groom(" + part + ", 5)", x, INDEX, () -> x.groom(part, 5));
            check.refused("groom(5, " + part + ")", x, INDEX, () -> x.groom(5, part));
            check.refused("groom(" + part + ", " + part + ")", x, INDEX, () -> x.groom(part, part));
        }
        check.refused("groom(20, 19)", x, INDEX, () -> x.groom(20, 19));
        check.refused("groom(0, -1)", x, INDEX, () -> x.groom(0, -1));
        check.refused("groom(5, 4)", x, ARGUMENT, () -> x.groom(5, 4));
        check.refused("groom(19, 0)", x, ARGUMENT, () -> x.groom(19, 0));
    }
}
