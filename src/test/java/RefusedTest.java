import java.util.Arrays;
import java.util.function.Function;
import java.util.function.Supplier;

/**
 * What each call allows and what it refuses: for every argument the last values that are allowed and the first that are
 * not, on both sides, and far ones, each together with each of the others; on a bare hill, a busy one and a full one.
 * A call that is refused throws the exception that is named first, and changes nothing.
 */
public final class RefusedTest {
    private static final Class<IndexOutOfBoundsException> INDEX = IndexOutOfBoundsException.class;
    private static final Class<IllegalArgumentException> ARGUMENT = IllegalArgumentException.class;
    private static final Class<IllegalStateException> STATE = IllegalStateException.class;

    private static final Check check = new Check();

    interface Call {
        void make(SnowPumps x, int[] a);
    }

    /** The exception that is due, or null if the call is allowed. */
    interface Due {
        Class<? extends RuntimeException> of(int[] a);
    }

    public static void main(String[] args) {
        HillKind[] kinds = {
            new HillKind("bare", SnowPumps::new, 0, 0), new HillKind("busy", Hills::busy, 2, 3),
            new HillKind("full", Hills::full, 5, 30),
        };
        for (HillKind kind : kinds) {
            check.due(kind.name + ": pumps", kind.make.get().count(5), kind.pumps);
            check.due(kind.name + ": jumps", kind.make.get().count(9), kind.jumps);
            weatherAndPumps(kind);
            jumps(kind);
            whatIsThere(kind);
            hours(kind);
        }
        check.finish();
    }

    record HillKind(String name, Supplier<SnowPumps> make, int pumps, int jumps) {
    }

    private static boolean in(int value, int least, int most) {
        return least <= value && value <= most;
    }

    /** Both last ones that are allowed, both first ones that are not, one between, and the farthest ones. */
    private static int[] around(int least, int most) {
        return new int[] {
            Integer.MIN_VALUE, least - 1, least, (least + most) / 2, most, most + 1, Integer.MAX_VALUE,
        };
    }

    private static void weatherAndPumps(HillKind kind) {
        each(kind, "setWeather", (x, a) -> x.setWeather(a[0], a[1], a[2], a[3]),
                a -> !in(a[0], 0, 23) ? INDEX
                        : !in(a[1], -30, 20) || !in(a[2], 0, 100) || !in(a[3], -9, 9) ? ARGUMENT : null,
                around(0, 23), around(-30, 20), around(0, 100), around(-9, 9));
        each(kind, "pump", (x, a) -> x.pump(a[0], a[1]),
                a -> !in(a[0], 0, 19) ? INDEX : !in(a[1], 1, 9) ? ARGUMENT : kind.pumps == 5 ? STATE : null,
                around(0, 19), around(1, 9));
        each(kind, "run", (x, a) -> x.run(a[0]), a -> !in(a[0], 0, kind.pumps - 1) ? INDEX : null,
                around(0, kind.pumps - 1));
        each(kind, "run", (x, a) -> x.run(a[0]), a -> !in(a[0], 0, kind.pumps - 1) ? INDEX : null, around(0, 4));
        each(kind, "fill", (x, a) -> x.fill(a[0]), a -> !in(a[0], 1, 9999) ? ARGUMENT : null, around(1, 9999));
        each(kind, "groom", (x, a) -> x.groom(a[0], a[1]),
                a -> !in(a[0], 0, 19) || !in(a[1], 0, 19) ? INDEX : a[0] > a[1] ? ARGUMENT : null,
                around(0, 19), around(0, 19));
        int[] middle = {8, 9, 10};
        each(kind, "groom", (x, a) -> x.groom(a[0], a[1]), a -> a[0] > a[1] ? ARGUMENT : null, middle, middle);
    }

    private static void jumps(HillKind kind) {
        each(kind, "judge", (x, a) -> x.judge(a[0], a[1]),
                a -> !in(a[0], 0, 4) ? INDEX : !in(a[1], 0, 4) ? ARGUMENT : null, around(0, 4), around(0, 4));
        each(kind, "jump", (x, a) -> x.jump(a[0], a[1], a[2]),
                a -> !in(a[0], 0, 9) || !in(a[1], 1, 20) || !in(a[2], 0, 20) ? ARGUMENT
                        : kind.jumps == 30 ? STATE : null,
                around(0, 9), around(1, 20), around(0, 20));
        Due told = a -> !in(a[0], 0, kind.jumps - 1) || !in(a[1], 0, 4) ? INDEX : null;
        each(kind, "told", (x, a) -> x.told(a[0], a[1]), told, around(0, kind.jumps - 1), around(0, 4));
        each(kind, "told", (x, a) -> x.told(a[0], a[1]), told, around(0, 29), around(0, 4));
        each(kind, "score", (x, a) -> x.score(a[0]), a -> !in(a[0], 0, 9) ? INDEX : null, around(0, 9));
    }

    private static void whatIsThere(HillKind kind) {
        each(kind, "part", (x, a) -> x.part(a[0], a[1]),
                a -> !in(a[0], 0, 19) || !in(a[1], 0, 3) ? INDEX : null, around(0, 19), around(0, 3));
        each(kind, "count", (x, a) -> x.count(a[0]), a -> !in(a[0], 0, 10) ? INDEX : null, around(0, 10));
    }

    private static void hours(HillKind kind) {
        each(kind, "pass", (x, a) -> x.pass(a[0]), a -> !in(a[0], 1, 96) ? ARGUMENT : null, around(1, 96));
        each(kind, "enough", (x, a) -> x.enough(a[0], a[1]),
                a -> !in(a[0], 0, 19) ? INDEX : !in(a[1], 1, 300) ? ARGUMENT : null, around(0, 19), around(1, 300));
        int[] whats = {Integer.MIN_VALUE, -1, 0, 1, 2, 3, 4, 5, 6, 7, 8, 9, 10, 11, Integer.MAX_VALUE};
        each(kind, "foresee", (x, a) -> x.foresee(a[0], a[1]),
                a -> !in(a[0], 1, 96) ? ARGUMENT : a[1] != 4 && a[1] != 7 && a[1] != 8 ? INDEX : null,
                around(1, 96), whats);
        each(kind, "gate", (x, a) -> x.gate(a[0]), a -> !in(a[0], 0, 20) ? ARGUMENT : null, around(0, 20));
        each(kind, "advise", (x, a) -> x.advise(a[0]), a -> !in(a[0], 1, 96) ? ARGUMENT : null, around(1, 96));
    }

    /** Makes the call with each choice of the values; a hill is used again as long as nothing may have changed it. */
    private static void each(HillKind kind, String name, Call call, Due due, int[]... values) {
        Function<int[], String> what = a -> kind.name + ": " + name + Arrays.toString(a);
        int choices = 1;
        for (int[] of : values) {
            choices *= of.length;
        }
        SnowPumps x = kind.make.get();
        int refused = 0;
        for (int choice = 0; choice < choices; choice++) {
            int[] a = new int[values.length];
            int rest = choice;
            for (int k = 0; k < a.length; k++) {
                a[k] = values[k][rest % values[k].length];
                rest /= values[k].length;
            }
            Class<? extends RuntimeException> kindOfException = due.of(a);
            if (kindOfException == null) {
                allowed(what.apply(a), kind.make.get(), call, a);
                continue;
            }
            // An object is good for 512 calls, of which each refused one takes 3 here.
            if (++refused % 100 == 0) {
                x = kind.make.get();
            }
            SnowPumps hill = x;
            check.refused(what.apply(a), hill, kindOfException, () -> call.make(hill, a));
        }
    }

    private static void allowed(String what, SnowPumps x, Call call, int[] a) {
        try {
            call.make(x, a);
        } catch (RuntimeException e) {
            check.tell(what + " threw " + e + ", due is an answer");
        }
    }
}
