/** Promise 20: digest. */
public final class DigestTest {
    private static final Check check = new Check();

    private long d = 1181;

    public static void main(String[] args) {
        ofANewObject();
        ofABusyObject();
        check.finish();
    }

    private void add(long x) {
        d = d * 31 + x;
    }

    private static void ofANewObject() {
        DigestTest want = new DigestTest();
        for (int count : new int[] {0, 0, -10, 0, 0, 0, 0, 0, 0, 0, 0}) {
            want.add(count);
        }
        for (int part = 0; part < 20; part++) {
            want.add(0);
            want.add(0);
            want.add(0);
            want.add(1);
        }
        for (int hour = 0; hour < 24; hour++) {
            want.add(-5);
            want.add(50);
            want.add(0);
        }
        for (int judge = 0; judge < 5; judge++) {
            want.add(judge);
        }
        for (int jumper = 0; jumper < 10; jumper++) {
            want.add(0);
        }
        check.due("digest() of a new object", new SnowPumps().digest(), want.d);
    }

    private static void ofABusyObject() {
        SnowPumps x = new SnowPumps();
        int[][] weather = new int[24][];
        for (int hour = 0; hour < 24; hour++) {
            weather[hour] = new int[] {hour - 15, 4 * hour, hour % 7 - 3};
            x.setWeather(hour, weather[hour][0], weather[hour][1], weather[hour][2]);
        }
        int[][] pumps = {{3, 4, 1}, {17, 9, 0}, {4, 1, 1}};
        for (int pump = 0; pump < pumps.length; pump++) {
            x.pump(pumps[pump][0], pumps[pump][1]);
            if (pumps[pump][2] == 1) {
                x.run(pump);
            }
        }
        x.fill(700);
        x.pass(31);
        x.judge(2, 4);
        x.judge(4, 1);
        x.jump(8, 4, 17);
        x.jump(8, 15, 20);
        x.jump(0, 5, 3);
        DigestTest want = new DigestTest();
        for (int what = 0; what < 11; what++) {
            want.add(x.count(what));
        }
        for (int part = 0; part < 20; part++) {
            for (int what = 0; what < 4; what++) {
                want.add(x.part(part, what));
            }
        }
        for (int[] hour : weather) {
            want.addAll(hour);
        }
        want.addAll(0, 1, 4, 3, 1);
        for (int[] pump : pumps) {
            want.addAll(pump);
        }
        for (int jump = 0; jump < 3; jump++) {
            for (int what = 0; what < 5; what++) {
                want.add(x.told(jump, what));
            }
        }
        for (int jumper = 0; jumper < 10; jumper++) {
            want.add(x.score(jumper));
        }
        long first = x.digest();
        check.due("digest() of a busy object", first, want.d);
        check.due("digest() changes nothing", x.digest(), first);
        x.run(1);
        check.due("digest() tells of a change", x.digest() == first, false);
        x.run(1);
        check.due("and of its end", x.digest(), first);
    }

    private void addAll(int... numbers) {
        for (int number : numbers) {
            add(number);
        }
    }
}
