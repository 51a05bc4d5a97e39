import java.util.ArrayList;
import java.util.Arrays;
import java.util.List;
import java.util.function.Predicate;

/** The document once more, written in another way and with the whole library, to compare long runs with. */
final class PlainModel {
    static final class Part {
        int snow;
        int ice;

        boolean falls() {
            return snow < 30 || ice >= 10;
        }
    }

    static final class Pump {
        int part;
        int flow;
        boolean runs;
    }

    record Hour(int warmth, int damp, int gust) {
        int wetCold() {
            return warmth - (100 - damp) / 10;
        }
    }

    record Jump(int jumper, int length, int points, int fall, int hour) {
        int[] told() {
            return new int[] {jumper, length, points, fall, hour};
        }
    }

    private final List<Part> parts = new ArrayList<>();
    private final List<Hour> day = new ArrayList<>();
    private final List<Pump> pumps = new ArrayList<>();
    private final List<Jump> jumps = new ArrayList<>();
    private final List<Integer> strict = new ArrayList<>(List.of(0, 1, 2, 3, 4));
    private int water;
    private int time;

    PlainModel() {
        for (int k = 0; k < 20; k++) {
            parts.add(new Part());
        }
        for (int k = 0; k < 24; k++) {
            day.add(new Hour(-5, 50, 0));
        }
    }

    private PlainModel after(int hours) {
        return after(hours, -1);
    }

    private PlainModel after(int hours, int started) {
        PlainModel copy = new PlainModel();
        for (int k = 0; k < 20; k++) {
            copy.parts.get(k).snow = parts.get(k).snow;
            copy.parts.get(k).ice = parts.get(k).ice;
        }
        copy.day.clear();
        copy.day.addAll(day);
        for (int k = 0; k < pumps.size(); k++) {
            copy.pumps.add(new Pump());
            copy.pumps.get(k).part = pumps.get(k).part;
            copy.pumps.get(k).flow = pumps.get(k).flow;
            copy.pumps.get(k).runs = pumps.get(k).runs || k == started;
        }
        copy.water = water;
        copy.time = time;
        for (int k = 0; k < hours; k++) {
            copy.hour();
        }
        return copy;
    }

    private void hour() {
        Hour now = now();
        for (Pump pump : pumps) {
            if (!pump.runs || pump.flow > water) {
                continue;
            }
            water -= pump.flow;
            if (now.wetCold() > -2) {
                parts.get(pump.part).ice = Math.min(50, parts.get(pump.part).ice + 1);
                continue;
            }
            int made = pump.flow * (now.wetCold() < -8 ? 8 : -now.wetCold());
            for (int k = 0; k < 20; k++) {
                int away = Math.abs(k - pump.part);
                int more = away == 0 ? made / 2 : away == 1 ? made / 4 : 0;
                parts.get(k).snow = Math.min(300, parts.get(k).snow + more);
            }
        }
        for (Part part : parts) {
            if (now.warmth() > 0) {
                part.snow = Math.max(0, part.snow - now.warmth());
                part.ice = Math.max(0, part.ice - 1);
            }
        }
        time++;
    }

    private Hour now() {
        return day.get(time % 24);
    }

    private int allSnow() {
        return parts.stream().mapToInt(part -> part.snow).sum();
    }

    private static void index(boolean holds) {
        if (!holds) {
            throw new IndexOutOfBoundsException();
        }
    }

    private static void argument(boolean holds) {
        if (!holds) {
            throw new IllegalArgumentException();
        }
    }

    private static void state(boolean holds) {
        if (!holds) {
            throw new IllegalStateException();
        }
    }

    private static boolean in(int value, int least, int most) {
        return least <= value && value <= most;
    }

    int setWeather(int hour, int warmth, int damp, int gust) {
        index(in(hour, 0, 23));
        argument(in(warmth, -30, 20) && in(damp, 0, 100) && in(gust, -9, 9));
        day.set(hour, new Hour(warmth, damp, gust));
        return day.get(hour).wetCold();
    }

    int pump(int part, int flow) {
        index(in(part, 0, 19));
        argument(in(flow, 1, 9));
        state(pumps.size() < 5);
        Pump pump = new Pump();
        pump.part = part;
        pump.flow = flow;
        pumps.add(pump);
        return pumps.indexOf(pump);
    }

    int run(int pump) {
        index(in(pump, 0, pumps.size() - 1));
        pumps.get(pump).runs ^= true;
        return pumps.get(pump).runs ? 1 : 0;
    }

    int fill(int more) {
        argument(in(more, 1, 9999));
        water = Math.min(9999, water + more);
        return water;
    }

    int groom(int from, int to) {
        index(in(from, 0, 19) && in(to, 0, 19));
        argument(from <= to);
        List<Part> groomed = parts.subList(from, to + 1);
        int all = groomed.stream().mapToInt(part -> part.snow).sum();
        groomed.forEach(part -> part.snow = all / groomed.size());
        groomed.subList(0, all % groomed.size()).forEach(part -> part.snow++);
        groomed.forEach(part -> part.ice = 0);
        return all;
    }

    int judge(int judge, int by) {
        index(in(judge, 0, 4));
        argument(in(by, 0, 4));
        return strict.set(judge, by);
    }

    private int length(int gate, int style) {
        int length = 4 * gate + 2 * now().gust() + style / 4;
        return length < 0 ? 0 : length > 99 ? 99 : length;
    }

    int jump(int jumper, int gate, int style) {
        argument(in(jumper, 0, 9) && in(gate, 1, 20) && in(style, 0, 20));
        state(jumps.size() < 30);
        int length = length(gate, style);
        Part landing = parts.get(length / 5);
        boolean fall = landing.falls();
        int[] marks = new int[5];
        for (int k = 0; k < 5; k++) {
            int mark = style - Math.abs(now().gust()) - strict.get(k) - (fall ? 8 : 0);
            marks[k] = mark < 0 ? 0 : Math.min(mark, 20);
        }
        Arrays.sort(marks);
        jumps.add(new Jump(jumper, length, length + marks[1] + marks[2] + marks[3], fall ? 1 : 0, time));
        landing.snow = landing.snow < 3 ? 0 : landing.snow - 3;
        return jumps.size() - 1;
    }

    int told(int jump, int what) {
        index(in(jump, 0, jumps.size() - 1) && in(what, 0, 4));
        return jumps.get(jump).told()[what];
    }

    int score(int jumper) {
        index(in(jumper, 0, 9));
        return jumps.stream().filter(jump -> jump.jumper() == jumper).mapToInt(jump -> -jump.points())
                .sorted().limit(2).sum() * -1;
    }

    int leader() {
        int leader = jumps.isEmpty() ? -1 : 9;
        for (int jumper = 8; jumper >= 0 && leader >= 0; jumper--) {
            leader = score(jumper) >= score(leader) ? jumper : leader;
        }
        return leader;
    }

    int part(int part, int what) {
        index(in(part, 0, 19) && in(what, 0, 3));
        int there = (int) pumps.stream().filter(pump -> pump.part == part).count();
        return new int[] {parts.get(part).snow, parts.get(part).ice, there, parts.get(part).falls() ? 1 : 0}[what];
    }

    int count(int what) {
        index(in(what, 0, 10));
        Predicate<Pump> runs = pump -> pump.runs;
        return new int[] {time, time % 24, now().wetCold(), now().gust(), water, pumps.size(),
            (int) pumps.stream().filter(runs).count(), allSnow(), parts.stream().mapToInt(part -> part.ice).sum(),
            jumps.size(), jumps.stream().mapToInt(Jump::fall).sum()}[what];
    }

    int pass(int hours) {
        argument(in(hours, 1, 96));
        int before = allSnow();
        for (int k = 0; k < hours; k++) {
            hour();
        }
        return allSnow() - before;
    }

    int enough(int part, int snow) {
        index(in(part, 0, 19));
        argument(in(snow, 1, 300));
        PlainModel then = after(0);
        int hours = 0;
        while (hours <= 240 && then.parts.get(part).snow < snow) {
            then.hour();
            hours++;
        }
        return hours > 240 ? -1 : hours;
    }

    int foresee(int hours, int what) {
        argument(in(hours, 1, 96));
        index(what == 4 || what == 7 || what == 8);
        return after(hours).count(what);
    }

    int gate(int style) {
        argument(in(style, 0, 20));
        int best = 0;
        for (int gate = 1; gate <= 20; gate++) {
            best = parts.get(length(gate, style) / 5).falls() ? best : gate;
        }
        return best;
    }

    int advise(int hours) {
        argument(in(hours, 1, 96));
        int[] snow = new int[pumps.size()];
        for (int k = 0; k < snow.length; k++) {
            snow[k] = pumps.get(k).runs ? -1 : after(hours, k).allSnow();
        }
        int most = Arrays.stream(snow).max().orElse(-1);
        if (most <= after(hours).allSnow()) {
            return -1;
        }
        int best = 0;
        while (snow[best] != most) {
            best++;
        }
        return best;
    }

    double mean() {
        return jumps.stream().mapToInt(Jump::points).average().orElse(0.0);
    }

    long digest() {
        List<Integer> all = new ArrayList<>();
        for (int what = 0; what <= 10; what++) {
            all.add(count(what));
        }
        for (int part = 0; part < 20; part++) {
            for (int what = 0; what <= 3; what++) {
                all.add(part(part, what));
            }
        }
        day.forEach(hour -> all.addAll(List.of(hour.warmth(), hour.damp(), hour.gust())));
        all.addAll(strict);
        pumps.forEach(pump -> all.addAll(List.of(pump.part, pump.flow, pump.runs ? 1 : 0)));
        jumps.forEach(jump -> Arrays.stream(jump.told()).forEach(all::add));
        for (int jumper = 0; jumper < 10; jumper++) {
            all.add(score(jumper));
        }
        long d = 1181;
        for (int x : all) {
            d = d * 31 + x;
        }
        return d;
    }
}
