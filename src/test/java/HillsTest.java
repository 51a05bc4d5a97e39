/** The hills that other tests begin with are as they say. */
public final class HillsTest {
    private static final Check check = new Check();

    public static void main(String[] args) {
        for (int snow : new int[] {0, 1, 2, 27, 28, 29, 30, 31, 40, 70, 99, 100}) {
            even(snow);
        }
        for (int ice : new int[] {0, 1, 9, 10, 49, 50}) {
            icy(ice);
        }
        full();
        check.finish();
    }

    private static void even(int snow) {
        SnowPumps x = Hills.even(snow);
        for (int part = 0; part < 20; part++) {
            check.due("even(" + snow + "): snow of " + part, x.part(part, 0), snow);
        }
        check.due("even(" + snow + "): ice", x.count(8), 0);
        check.due("even(" + snow + "): hour of the day", x.count(1), 0);
        check.due("even(" + snow + "): pumps that run", x.count(6), 0);
    }

    private static void icy(int ice) {
        SnowPumps x = Hills.icy(40, 8, ice);
        check.due("icy: all snow", x.count(7), 800);
        check.due("icy: ice of 8", x.part(8, 1), ice);
        check.due("icy: all ice", x.count(8), ice);
        check.due("icy: hour of the day", x.count(1), 0);
        check.due("icy: pumps that run", x.count(6), 0);
    }

    private static void full() {
        SnowPumps x = Hills.full();
        for (int part = 0; part < 20; part++) {
            check.due("full: snow of " + part, x.part(part, 0), 300);
            check.due("full: ice of " + part, x.part(part, 1), part % 4 == 2 ? 50 : 0);
        }
        check.due("full: water", x.count(4), 9999);
        check.due("full: pumps", x.count(5), 5);
        check.due("full: pumps that run", x.count(6), 5);
        check.due("full: jumps", x.count(9), 30);
        check.due("full: falls", x.count(10), 30);
    }
}
