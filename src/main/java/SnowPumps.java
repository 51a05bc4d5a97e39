/** Snow makers of a ski jump. */
public final class SnowPumps {
    private static final int PARTS = 20;
    private static final int MOST_SNOW = 300;
    private static final int MOST_ICE = 50;
    private static final int SNOW_TO_STAND = 30;
    private static final int ICE_TO_FALL = 10;
    private static final int SNOW_LOST_BY_JUMP = 3;

    private static final int HOURS_OF_DAY = 24;
    private static final int LEAST_WARMTH = -30;
    private static final int MOST_WARMTH = 20;
    private static final int FIRST_WARMTH = -5;
    private static final int MOST_DAMP = 100;
    private static final int FIRST_DAMP = 50;
    private static final int MOST_GUST = 9;

    private static final int MOST_PUMPS = 5;
    private static final int MOST_FLOW = 9;
    private static final int MOST_WATER = 9999;
    private static final int WARMEST_WET_COLD_FOR_SNOW = -2;
    private static final int MOST_COLD_THAT_COUNTS = 8;

    private static final int JUDGES = 5;
    private static final int MOST_STRICT = 4;
    private static final int MOST_MARK = 20;
    private static final int MARK_LOST_BY_FALL = 8;

    private static final int MOST_JUMPS = 30;
    private static final int JUMPERS = 10;
    private static final int GATES = 20;
    private static final int MOST_STYLE = 20;
    private static final int MOST_LENGTH = 99;
    private static final int LENGTH_OF_PART = 5;

    private static final int MOST_HOURS = 96;
    private static final int MOST_HOURS_TO_WAIT = 240;

    private static final int WHATS_OF_COUNT = 11;
    private static final int WHATS_OF_PART = 4;
    private static final int WHATS_OF_JUMP = 5;
    private static final int COUNT_WATER = 4;
    private static final int COUNT_SNOW = 7;
    private static final int COUNT_ICE = 8;

    private final Weather weather;
    private final Pumps pumps;
    private final Hill hill;
    // Hours that are only foreseen go by on this one; it is made once and used again.
    private final Hill ahead;
    private final Jury jury;
    private final Jumps jumps;

    /** Creates a bare hill without pumps, in the hour 0. */
    public SnowPumps() {
        weather = new Weather();
        pumps = new Pumps();
        hill = new Hill(weather, pumps);
        ahead = new Hill(weather, pumps);
        jury = new Jury();
        jumps = new Jumps();
    }

    // ---- weather and pumps

    /** Sets the weather of an hour of the day and returns its wet cold then. */
    public int setWeather(int hour, int warmth, int damp, int gust)
            throws IndexOutOfBoundsException, IllegalArgumentException {
        if (isOutside(hour, 0, HOURS_OF_DAY - 1)) {
            throw new IndexOutOfBoundsException("hour is not 0 to 23");
        }
        if (isOutside(warmth, LEAST_WARMTH, MOST_WARMTH)) {
            throw new IllegalArgumentException("warmth is not -30 to 20");
        }
        if (isOutside(damp, 0, MOST_DAMP)) {
            throw new IllegalArgumentException("damp is not 0 to 100");
        }
        if (isOutside(gust, -MOST_GUST, MOST_GUST)) {
            throw new IllegalArgumentException("gust is not -9 to 9");
        }
        weather.warmth[hour] = warmth;
        weather.damp[hour] = damp;
        weather.gust[hour] = gust;
        return weather.wetCold(hour);
    }

    /** Sets up a new pump at a part and returns its number. */
    public int pump(int part, int flow)
            throws IndexOutOfBoundsException, IllegalArgumentException, IllegalStateException {
        if (isOutside(part, 0, PARTS - 1)) {
            throw new IndexOutOfBoundsException("part is not 0 to 19");
        }
        if (isOutside(flow, 1, MOST_FLOW)) {
            throw new IllegalArgumentException("flow is not 1 to 9");
        }
        if (pumps.count >= MOST_PUMPS) {
            throw new IllegalStateException("there are 5 pumps");
        }
        return pumps.setUp(part, flow);
    }

    /** Has a pump run, or stops it, if it runs; returns whether it runs then. */
    public boolean run(int pump) throws IndexOutOfBoundsException {
        if (isOutside(pump, 0, pumps.count - 1)) {
            throw new IndexOutOfBoundsException("there is no such pump");
        }
        hill.runs[pump] = !hill.runs[pump];
        return hill.runs[pump];
    }

    /** Lets water come in and returns how much there is then. */
    public int fill(int water) throws IllegalArgumentException {
        if (isOutside(water, 1, MOST_WATER)) {
            throw new IllegalArgumentException("water is not 1 to 9999");
        }
        hill.water = Math.min(hill.water + water, MOST_WATER);
        return hill.water;
    }

    /** Spreads the snow of the parts over them alike, takes their ice, and returns their snow, added. */
    public int groom(int from, int to) throws IndexOutOfBoundsException, IllegalArgumentException {
        if (isOutside(from, 0, PARTS - 1)) {
            throw new IndexOutOfBoundsException("from is not 0 to 19");
        }
        if (isOutside(to, 0, PARTS - 1)) {
            throw new IndexOutOfBoundsException("to is not 0 to 19");
        }
        if (from > to) {
            throw new IllegalArgumentException("from is greater than to");
        }
        return hill.spreadSnow(from, to);
    }

    // ---- jumps

    /** Says by how much a judge is strict from now on; returns by how much before. */
    public int judge(int judge, int strict) throws IndexOutOfBoundsException, IllegalArgumentException {
        if (isOutside(judge, 0, JUDGES - 1)) {
            throw new IndexOutOfBoundsException("judge is not 0 to 4");
        }
        if (isOutside(strict, 0, MOST_STRICT)) {
            throw new IllegalArgumentException("strict is not 0 to 4");
        }
        int before = jury.strict[judge];
        jury.strict[judge] = strict;
        return before;
    }

    /** Has a jumper jump and returns the number of the jump. */
    public int jump(int jumper, int gate, int style) throws IllegalArgumentException, IllegalStateException {
        if (isOutside(jumper, 0, JUMPERS - 1)) {
            throw new IllegalArgumentException("jumper is not 0 to 9");
        }
        if (isOutside(gate, 1, GATES)) {
            throw new IllegalArgumentException("gate is not 1 to 20");
        }
        if (isOutside(style, 0, MOST_STYLE)) {
            throw new IllegalArgumentException("style is not 0 to 20");
        }
        if (jumps.count >= MOST_JUMPS) {
            throw new IllegalStateException("there are 30 jumps");
        }
        int gust = weather.gust[hill.hourOfDay()];
        int length = lengthFrom(gate, gust, style);
        int landing = length / LENGTH_OF_PART;
        boolean fall = hill.fallsAt(landing);
        hill.takeSnow(landing, SNOW_LOST_BY_JUMP);
        return jumps.add(jumper, length, length + jury.marks(style, gust, fall), fall, hill.hour);
    }

    /** Returns what is asked of a jump. */
    public int told(int jump, int what) throws IndexOutOfBoundsException {
        if (isOutside(jump, 0, jumps.count - 1)) {
            throw new IndexOutOfBoundsException("there is no such jump");
        }
        if (isOutside(what, 0, WHATS_OF_JUMP - 1)) {
            throw new IndexOutOfBoundsException("what is not 0 to 4");
        }
        return jumps.tell(jump, what);
    }

    /** Returns the points of the best two jumps of a jumper, added. */
    public int score(int jumper) throws IndexOutOfBoundsException {
        if (isOutside(jumper, 0, JUMPERS - 1)) {
            throw new IndexOutOfBoundsException("jumper is not 0 to 9");
        }
        return jumps.bestTwo(jumper);
    }

    /** Returns the jumper with the greatest score; -1 if there was no jump. */
    public int leader() {
        if (jumps.count == 0) {
            return -1;
        }
        int first = 0;
        int most = jumps.bestTwo(0);
        for (int jumper = 1; jumper < JUMPERS; jumper++) {
            int has = jumps.bestTwo(jumper);
            if (has > most) {
                most = has;
                first = jumper;
            }
        }
        return first;
    }

    // ---- what is there

    /** Returns what is asked of a part. */
    public int part(int part, int what) throws IndexOutOfBoundsException {
        if (isOutside(part, 0, PARTS - 1)) {
            throw new IndexOutOfBoundsException("part is not 0 to 19");
        }
        if (isOutside(what, 0, WHATS_OF_PART - 1)) {
            throw new IndexOutOfBoundsException("what is not 0 to 3");
        }
        return tellPart(part, what);
    }

    /** Returns what is asked of the whole. */
    public int count(int what) throws IndexOutOfBoundsException {
        if (isOutside(what, 0, WHATS_OF_COUNT - 1)) {
            throw new IndexOutOfBoundsException("what is not 0 to 10");
        }
        return tellCount(what);
    }

    // ---- hours and what would be

    /** Lets hours go by and returns how much more snow there is then. */
    public int pass(int hours) throws IllegalArgumentException {
        if (isOutside(hours, 1, MOST_HOURS)) {
            throw new IllegalArgumentException("hours is not 1 to 96");
        }
        int before = hill.allSnow();
        hill.letHoursGoBy(hours);
        return hill.allSnow() - before;
    }

    /** Returns behind how many hours a part has so much snow; -1 if not within 240. */
    public int enough(int part, int snow) throws IndexOutOfBoundsException, IllegalArgumentException {
        if (isOutside(part, 0, PARTS - 1)) {
            throw new IndexOutOfBoundsException("part is not 0 to 19");
        }
        if (isOutside(snow, 1, MOST_SNOW)) {
            throw new IllegalArgumentException("snow is not 1 to 300");
        }
        ahead.becomeLike(hill);
        for (int hours = 0; hours <= MOST_HOURS_TO_WAIT; hours++) {
            if (ahead.snow[part] >= snow) {
                return hours;
            }
            ahead.letHourGoBy();
        }
        return -1;
    }

    /** Returns the water, all snow or all ice, as there would be behind so many hours. */
    public int foresee(int hours, int what) throws IllegalArgumentException, IndexOutOfBoundsException {
        if (isOutside(hours, 1, MOST_HOURS)) {
            throw new IllegalArgumentException("hours is not 1 to 96");
        }
        if (what != COUNT_WATER && what != COUNT_SNOW && what != COUNT_ICE) {
            throw new IndexOutOfBoundsException("what is not 4, 7 or 8");
        }
        ahead.becomeLike(hill);
        ahead.letHoursGoBy(hours);
        if (what == COUNT_WATER) {
            return ahead.water;
        }
        return what == COUNT_SNOW ? ahead.allSnow() : ahead.allIce();
    }

    /** Returns the highest gate from which one would jump now without a fall; 0 if there is none. */
    public int gate(int style) throws IllegalArgumentException {
        if (isOutside(style, 0, MOST_STYLE)) {
            throw new IllegalArgumentException("style is not 0 to 20");
        }
        int gust = weather.gust[hill.hourOfDay()];
        for (int gate = GATES; gate >= 1; gate--) {
            if (!hill.fallsAt(lengthFrom(gate, gust, style) / LENGTH_OF_PART)) {
                return gate;
            }
        }
        return 0;
    }

    /** Returns the resting pump that would bring the most snow, ran it from now on; -1 if none brings more. */
    public int advise(int hours) throws IllegalArgumentException {
        if (isOutside(hours, 1, MOST_HOURS)) {
            throw new IllegalArgumentException("hours is not 1 to 96");
        }
        ahead.becomeLike(hill);
        ahead.letHoursGoBy(hours);
        int most = ahead.allSnow();
        int best = -1;
        for (int pump = 0; pump < pumps.count; pump++) {
            if (!hill.runs[pump]) {
                int snow = snowWithPump(pump, hours);
                if (snow > most) {
                    most = snow;
                    best = pump;
                }
            }
        }
        return best;
    }

    /** Returns the mean points of all jumps; 0 if there are none. */
    public double mean() {
        if (jumps.count == 0) {
            return 0.0;
        }
        return (double) jumps.allPoints() / (double) jumps.count;
    }

    /** Computes a checksum of all that can be told. */
    public long digest() {
        long d = 1181L;
        for (int what = 0; what < WHATS_OF_COUNT; what++) {
            d = d * 31L + tellCount(what);
        }
        for (int part = 0; part < PARTS; part++) {
            for (int what = 0; what < WHATS_OF_PART; what++) {
                d = d * 31L + tellPart(part, what);
            }
        }
        d = weather.addTo(d);
        d = jury.addTo(d);
        d = addPumpsTo(d);
        d = jumps.addTo(d);
        for (int jumper = 0; jumper < JUMPERS; jumper++) {
            d = d * 31L + jumps.bestTwo(jumper);
        }
        return d;
    }

    private long addPumpsTo(long digest) {
        long d = digest;
        for (int pump = 0; pump < pumps.count; pump++) {
            d = d * 31L + pumps.part[pump];
            d = d * 31L + pumps.flow[pump];
            d = d * 31L + (hill.runs[pump] ? 1 : 0);
        }
        return d;
    }

    private int tellPart(int part, int what) {
        switch (what) {
            case 0:
                return hill.snow[part];
            case 1:
                return hill.ice[part];
            case 2:
                return pumps.countAt(part);
            default:
                return hill.fallsAt(part) ? 1 : 0;
        }
    }

    private int tellCount(int what) {
        switch (what) {
            case 0:
                return hill.hour;
            case 1:
                return hill.hourOfDay();
            case 2:
                return weather.wetCold(hill.hourOfDay());
            case 3:
                return weather.gust[hill.hourOfDay()];
            case COUNT_WATER:
                return hill.water;
            case 5:
                return pumps.count;
            case 6:
                return hill.countRunning();
            case COUNT_SNOW:
                return hill.allSnow();
            case COUNT_ICE:
                return hill.allIce();
            case 9:
                return jumps.count;
            default:
                return jumps.countFalls();
        }
    }

    private int snowWithPump(int pump, int hours) {
        ahead.becomeLike(hill);
        ahead.runs[pump] = true;
        ahead.letHoursGoBy(hours);
        return ahead.allSnow();
    }

    private static int lengthFrom(int gate, int gust, int style) {
        return hold(4 * gate + 2 * gust + style / 4, 0, MOST_LENGTH);
    }

    private static boolean isOutside(int value, int least, int most) {
        return value < least || value > most;
    }

    private static int hold(int value, int least, int most) {
        return Math.max(least, Math.min(value, most));
    }

    private static int sum(int[] values) {
        int sum = 0;
        for (int value : values) {
            sum += value;
        }
        return sum;
    }

    /** The tables of the weather, by the hour of the day. */
    private static final class Weather {
        final int[] warmth = new int[HOURS_OF_DAY];
        final int[] damp = new int[HOURS_OF_DAY];
        final int[] gust = new int[HOURS_OF_DAY];

        Weather() {
            for (int hour = 0; hour < HOURS_OF_DAY; hour++) {
                warmth[hour] = FIRST_WARMTH;
                damp[hour] = FIRST_DAMP;
            }
        }

        int wetCold(int hourOfDay) {
            return warmth[hourOfDay] - (MOST_DAMP - damp[hourOfDay]) / 10;
        }

        long addTo(long digest) {
            long d = digest;
            for (int hour = 0; hour < HOURS_OF_DAY; hour++) {
                d = d * 31L + warmth[hour];
                d = d * 31L + damp[hour];
                d = d * 31L + gust[hour];
            }
            return d;
        }
    }

    /** Where the pumps are and what they take; whether they run is the hill's, as it may be tried out there. */
    private static final class Pumps {
        final int[] part = new int[MOST_PUMPS];
        final int[] flow = new int[MOST_PUMPS];
        int count;

        int setUp(int at, int taking) {
            int number = count;
            part[number] = at;
            flow[number] = taking;
            count = number + 1;
            return number;
        }

        int countAt(int at) {
            int there = 0;
            for (int pump = 0; pump < count; pump++) {
                if (part[pump] == at) {
                    there++;
                }
            }
            return there;
        }
    }

    /** All that an hour changes. */
    private static final class Hill {
        final Weather weather;
        final Pumps pumps;
        final int[] snow = new int[PARTS];
        final int[] ice = new int[PARTS];
        final boolean[] runs = new boolean[MOST_PUMPS];
        int water;
        int hour;

        Hill(Weather weather, Pumps pumps) {
            this.weather = weather;
            this.pumps = pumps;
        }

        void becomeLike(Hill other) {
            for (int part = 0; part < PARTS; part++) {
                snow[part] = other.snow[part];
                ice[part] = other.ice[part];
            }
            for (int pump = 0; pump < MOST_PUMPS; pump++) {
                runs[pump] = other.runs[pump];
            }
            water = other.water;
            hour = other.hour;
        }

        // floorMod, so that the tables have this hour even if the hours ever wrapped around.
        int hourOfDay() {
            return Math.floorMod(hour, HOURS_OF_DAY);
        }

        int allSnow() {
            return sum(snow);
        }

        int allIce() {
            return sum(ice);
        }

        int countRunning() {
            int running = 0;
            for (boolean does : runs) {
                if (does) {
                    running++;
                }
            }
            return running;
        }

        boolean fallsAt(int part) {
            return snow[part] < SNOW_TO_STAND || ice[part] >= ICE_TO_FALL;
        }

        void takeSnow(int part, int much) {
            snow[part] = Math.max(0, snow[part] - much);
        }

        int spreadSnow(int from, int to) {
            int all = 0;
            for (int part = from; part <= to; part++) {
                all += snow[part];
            }
            int parts = to - from + 1;
            if (parts < 1) {
                return all;
            }
            int each = all / parts;
            int left = all % parts;
            for (int part = from; part <= to; part++) {
                snow[part] = part - from < left ? each + 1 : each;
                ice[part] = 0;
            }
            return all;
        }

        void letHoursGoBy(int hours) {
            for (int gone = 0; gone < hours; gone++) {
                letHourGoBy();
            }
        }

        // A pump that is not set up never runs, so all of them can be gone through.
        void letHourGoBy() {
            int now = hourOfDay();
            int warmth = weather.warmth[now];
            int wetCold = weather.wetCold(now);
            for (int pump = 0; pump < MOST_PUMPS; pump++) {
                if (runs[pump]) {
                    work(pumps.part[pump], pumps.flow[pump], wetCold);
                }
            }
            if (warmth > 0) {
                melt(warmth);
            }
            hour++;
        }

        void work(int part, int flow, int wetCold) {
            if (flow > water) {
                return;
            }
            water -= flow;
            if (wetCold > WARMEST_WET_COLD_FOR_SNOW) {
                addIce(part);
                return;
            }
            int made = flow * Math.min(-wetCold, MOST_COLD_THAT_COUNTS);
            addSnow(part, made / 2);
            addSnow(part - 1, made / 4);
            addSnow(part + 1, made / 4);
        }

        // Beside the first and the last part there is nothing on one side: what goes there is lost.
        void addSnow(int part, int much) {
            if (!isOutside(part, 0, PARTS - 1)) {
                snow[part] = Math.min(snow[part] + much, MOST_SNOW);
            }
        }

        void addIce(int part) {
            if (!isOutside(part, 0, PARTS - 1)) {
                ice[part] = Math.min(ice[part] + 1, MOST_ICE);
            }
        }

        void melt(int warmth) {
            for (int part = 0; part < PARTS; part++) {
                takeSnow(part, warmth);
                ice[part] = Math.max(0, ice[part] - 1);
            }
        }
    }

    /** The five judges. */
    private static final class Jury {
        final int[] strict = new int[JUDGES];

        Jury() {
            for (int judge = 0; judge < JUDGES; judge++) {
                strict[judge] = judge;
            }
        }

        int marks(int style, int gust, boolean fall) {
            int sum = 0;
            int best = 0;
            int worst = MOST_MARK;
            int asSeen = style - Math.abs(gust) - (fall ? MARK_LOST_BY_FALL : 0);
            for (int judge = 0; judge < JUDGES; judge++) {
                int mark = hold(asSeen - strict[judge], 0, MOST_MARK);
                sum += mark;
                best = Math.max(best, mark);
                worst = Math.min(worst, mark);
            }
            return sum - best - worst;
        }

        long addTo(long digest) {
            long d = digest;
            for (int judge = 0; judge < JUDGES; judge++) {
                d = d * 31L + strict[judge];
            }
            return d;
        }
    }

    /** The jumps that were, by their numbers. */
    private static final class Jumps {
        final int[] jumper = new int[MOST_JUMPS];
        final int[] length = new int[MOST_JUMPS];
        final int[] points = new int[MOST_JUMPS];
        final int[] fall = new int[MOST_JUMPS];
        final int[] hour = new int[MOST_JUMPS];
        int count;

        int add(int who, int far, int worth, boolean fell, int when) {
            int number = count;
            jumper[number] = who;
            length[number] = far;
            points[number] = worth;
            fall[number] = fell ? 1 : 0;
            hour[number] = when;
            count = number + 1;
            return number;
        }

        int tell(int jump, int what) {
            switch (what) {
                case 0:
                    return jumper[jump];
                case 1:
                    return length[jump];
                case 2:
                    return points[jump];
                case 3:
                    return fall[jump];
                default:
                    return hour[jump];
            }
        }

        // No points are less than 0, so a jump that is missing counts like one with 0.
        int bestTwo(int who) {
            int best = 0;
            int next = 0;
            for (int jump = 0; jump < count; jump++) {
                if (jumper[jump] == who) {
                    next = Math.max(next, Math.min(best, points[jump]));
                    best = Math.max(best, points[jump]);
                }
            }
            return best + next;
        }

        int countFalls() {
            return sum(fall);
        }

        int allPoints() {
            return sum(points);
        }

        long addTo(long digest) {
            long d = digest;
            for (int jump = 0; jump < count; jump++) {
                for (int what = 0; what < WHATS_OF_JUMP; what++) {
                    d = d * 31L + tell(jump, what);
                }
            }
            return d;
        }
    }
}
