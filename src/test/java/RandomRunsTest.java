import java.util.Random;
import java.util.function.LongSupplier;

/** Long runs of calls, right and wrong ones, each compared with the plain model; the same ones every time. */
public final class RandomRunsTest {
    private static final int RUNS = 1500;
    private static final int CALLS = 512;
    private static final int[] FAR = {Integer.MIN_VALUE, Integer.MIN_VALUE + 1, -100, 1000000, Integer.MAX_VALUE};

    private static final Check check = new Check();

    private final Random random;
    private final SnowPumps x = new SnowPumps();
    private final PlainModel model = new PlainModel();
    private final int wrongOf100;
    private final int warmest;

    private RandomRunsTest(int seed) {
        random = new Random(seed);
        wrongOf100 = seed % 3 == 0 ? 0 : 4;
        warmest = seed % 4 == 0 ? 20 : seed % 4 == 1 ? 3 : -2;
    }

    public static void main(String[] args) {
        for (int run = 0; run < RUNS; run++) {
            new RandomRunsTest(run).run(run);
        }
        check.finish();
    }

    private void run(int run) {
        for (int call = 0; call < CALLS; call++) {
            String what = "run " + run + ", call " + call;
            if (call % 8 == 7) {
                check.due(what + ": digest()", x.digest(), model.digest());
            } else {
                call(what);
            }
        }
    }

    /** A number from least to most, often one of both; at times one beyond. */
    private int number(int least, int most) {
        int kind = random.nextInt(100);
        if (kind < wrongOf100) {
            int beyond = random.nextInt(4);
            return beyond == 0 ? least - 1 : beyond == 1 ? most + 1 : FAR[random.nextInt(FAR.length)];
        }
        if (kind < 10) {
            return random.nextBoolean() ? least : most;
        }
        return least + random.nextInt(most - least + 1);
    }

    private void call(String at) {
        int kind = random.nextInt(40);
        if (kind < 20) {
            change(at, kind);
        } else {
            ask(at, kind);
        }
    }

    private void change(String at, int kind) {
        if (kind < 4) {
            int hour = number(0, 23);
            int warmth = random.nextInt(8) == 0 ? number(-30, 20) : number(-12, warmest);
            int damp = number(0, 100);
            int gust = number(-9, 9);
            same(at + ": setWeather(" + hour + ", " + warmth + ", " + damp + ", " + gust + ")",
                    () -> x.setWeather(hour, warmth, damp, gust), () -> model.setWeather(hour, warmth, damp, gust));
        } else if (kind < 5) {
            int part = number(0, 19);
            int flow = number(1, 9);
            same(at + ": pump(" + part + ", " + flow + ")", () -> x.pump(part, flow), () -> model.pump(part, flow));
        } else if (kind < 7) {
            int pump = number(0, 4);
            same(at + ": run(" + pump + ")", () -> x.run(pump) ? 1 : 0, () -> model.run(pump));
        } else if (kind < 9) {
            int water = random.nextInt(4) == 0 ? number(1, 9999) : number(1, 60);
            same(at + ": fill(" + water + ")", () -> x.fill(water), () -> model.fill(water));
        } else if (kind < 11) {
            int from = number(0, 19);
            int to = random.nextInt(4) == 0 ? number(0, 19) : number(Math.min(19, Math.max(0, from)), 19);
            same(at + ": groom(" + from + ", " + to + ")", () -> x.groom(from, to), () -> model.groom(from, to));
        } else if (kind < 12) {
            int judge = number(0, 4);
            int strict = number(0, 4);
            same(at + ": judge(" + judge + ", " + strict + ")",
                    () -> x.judge(judge, strict), () -> model.judge(judge, strict));
        } else if (kind < 15) {
            int jumper = number(0, 9);
            int gate = number(1, 20);
            int style = number(0, 20);
            same(at + ": jump(" + jumper + ", " + gate + ", " + style + ")",
                    () -> x.jump(jumper, gate, style), () -> model.jump(jumper, gate, style));
        } else {
            int hours = random.nextInt(6) == 0 ? number(1, 96) : number(1, 6);
            same(at + ": pass(" + hours + ")", () -> x.pass(hours), () -> model.pass(hours));
        }
    }

    private void ask(String at, int kind) {
        if (kind < 22) {
            int jump = number(0, 29);
            int what = number(0, 4);
            same(at + ": told(" + jump + ", " + what + ")", () -> x.told(jump, what), () -> model.told(jump, what));
        } else if (kind < 24) {
            int jumper = number(0, 9);
            same(at + ": score(" + jumper + ")", () -> x.score(jumper), () -> model.score(jumper));
        } else if (kind < 25) {
            same(at + ": leader()", x::leader, model::leader);
        } else if (kind < 27) {
            int part = number(0, 19);
            int what = number(0, 3);
            same(at + ": part(" + part + ", " + what + ")", () -> x.part(part, what), () -> model.part(part, what));
        } else if (kind < 29) {
            int what = number(0, 10);
            same(at + ": count(" + what + ")", () -> x.count(what), () -> model.count(what));
        } else if (kind < 31) {
            int part = number(0, 19);
            int snow = random.nextBoolean() ? number(1, 300) : number(1, 60);
            same(at + ": enough(" + part + ", " + snow + ")",
                    () -> x.enough(part, snow), () -> model.enough(part, snow));
        } else if (kind < 34) {
            int hours = number(1, 96);
            int what = random.nextInt(8) == 0 ? number(0, 10) : new int[] {4, 7, 8}[random.nextInt(3)];
            same(at + ": foresee(" + hours + ", " + what + ")",
                    () -> x.foresee(hours, what), () -> model.foresee(hours, what));
        } else if (kind < 36) {
            int style = number(0, 20);
            same(at + ": gate(" + style + ")", () -> x.gate(style), () -> model.gate(style));
        } else if (kind < 39) {
            int hours = random.nextBoolean() ? number(1, 96) : number(1, 6);
            same(at + ": advise(" + hours + ")", () -> x.advise(hours), () -> model.advise(hours));
        } else {
            check.due(at + ": mean()", x.mean(), model.mean());
        }
    }

    private static void same(String what, LongSupplier got, LongSupplier want) {
        String answer = answer(got);
        String due = answer(want);
        if (!answer.equals(due)) {
            check.tell(what + " answered " + answer + ", due is " + due);
        }
    }

    private static String answer(LongSupplier call) {
        try {
            return String.valueOf(call.getAsLong());
        } catch (RuntimeException e) {
            return "throws." + e.getClass().getSimpleName();
        }
    }
}
