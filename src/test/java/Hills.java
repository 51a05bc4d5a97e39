/** Hills in the states that tests begin with. */
final class Hills {
    private static final int PARTS = 20;

    private Hills() {
    }

    /** A bare hill with one pump, which runs. */
    static SnowPumps withPump(int part, int flow, int water) {
        SnowPumps x = new SnowPumps();
        x.pump(part, flow);
        x.run(0);
        x.fill(water);
        return x;
    }

    static void setAllHours(SnowPumps x, int warmth, int damp, int gust) {
        for (int hour = 0; hour < 24; hour++) {
            x.setWeather(hour, warmth, damp, gust);
        }
    }

    static void setThisHour(SnowPumps x, int warmth, int damp, int gust) {
        x.setWeather(x.count(1), warmth, damp, gust);
    }

    /** A hill with just this much snow, up to 100, on each part, in an hour 0 of the day, with one pump that rests. */
    static SnowPumps even(int snow) {
        SnowPumps x = withPump(5, 5, 9999);
        // An hour brings 40 snow: 2 for each part.
        for (int hours = (snow + 1) / 2; hours > 0; hours -= 10) {
            x.pass(Math.min(hours, 10));
            x.groom(0, PARTS - 1);
        }
        x.run(0);
        if (snow % 2 == 1) {
            int hour = x.count(1);
            x.setWeather(hour, 1, 100, 0);
            x.pass(1);
            x.setWeather(hour, -5, 50, 0);
        }
        x.pass(24 - x.count(1));
        return x;
    }

    /** The same with as much ice, up to 50, on one part, by a second pump, which rests then too. */
    static SnowPumps icy(int snow, int part, int ice) {
        SnowPumps x = even(snow);
        x.pump(part, 1);
        setAllHours(x, 0, 100, 0);
        if (ice > 0) {
            x.run(1);
            x.pass(ice);
            x.run(1);
        }
        setAllHours(x, -5, 50, 0);
        x.pass(24 - x.count(1));
        return x;
    }

    /** As much as there can be: 300 snow on each part, 50 ice at each of 5 pumps that run, 9999 water, 30 jumps. */
    static SnowPumps full() {
        SnowPumps x = new SnowPumps();
        for (int jump = 0; jump < 30; jump++) {
            x.jump(jump % 10, 1 + jump % 20, jump % 21);
        }
        for (int pump = 0; pump < 5; pump++) {
            x.pump(2 + 4 * pump, 9);
            x.run(pump);
        }
        // Of two parts the first one gets what cannot be spread alike, so the parts 0, 4, .. come up to 300 as well.
        for (int round = 0; round < 10; round++) {
            x.fill(9999);
            x.pass(20);
            for (int part = 0; part < PARTS; part += 4) {
                x.groom(part, part + 1);
            }
        }
        x.fill(9999);
        x.pass(40);
        setAllHours(x, 0, 100, 0);
        x.pass(50);
        setAllHours(x, -5, 50, 0);
        x.fill(9999);
        return x;
    }

    /** Something of all, and room for more: 2 pumps, one of which runs, snow, ice, 3 jumps, in the hour 30. */
    static SnowPumps busy() {
        SnowPumps x = withPump(5, 9, 600);
        x.pump(12, 4);
        x.setWeather(3, -1, 100, 7);
        x.setWeather(6, 2, 90, -4);
        x.judge(2, 0);
        x.pass(30);
        x.jump(3, 8, 15);
        x.jump(7, 5, 20);
        x.jump(3, 20, 1);
        return x;
    }
}
