/** Promises 7 to 11: judge, jump, told, score, leader. */
public final class JumpsTest {
    private static final Class<IndexOutOfBoundsException> INDEX = IndexOutOfBoundsException.class;
    private static final Class<IllegalArgumentException> ARGUMENT = IllegalArgumentException.class;
    private static final Class<IllegalStateException> STATE = IllegalStateException.class;
    private static final int LEAST = Integer.MIN_VALUE;
    private static final int MOST = Integer.MAX_VALUE;

    private static final Check check = new Check();

    public static void main(String[] args) {
        promise7Judge();
        promise7Refused();
        promise8Jump();
        promise8TheLengthIsHeld();
        promise8ByTheGust();
        promise8MarksAreHeld();
        promise8BestAndWorst();
        promise8FallsByIce();
        promise8FallsBySnow();
        promise8Refused();
        promise9Told();
        promise10Score();
        promise11Leader();
        promise11ByScoreOfTwo();
        check.finish();
    }

    private static void jumps(SnowPumps x, int gate, int style, int length, int points, int fall) {
        int jump = x.jump(3, gate, style);
        String what = "gate " + gate + ", style " + style + ": ";
        check.due(what + "length", x.told(jump, 1), length);
        check.due(what + "points", x.told(jump, 2), points);
        check.due(what + "fall", x.told(jump, 3), fall);
    }

    private static void promise7Judge() {
        SnowPumps x = new SnowPumps();
        for (int judge = 0; judge < 5; judge++) {
            check.due("judge(" + judge + ", " + (4 - judge) + ")", x.judge(judge, 4 - judge), judge);
        }
        for (int judge = 0; judge < 5; judge++) {
            check.due("judge(" + judge + ", 0)", x.judge(judge, 0), 4 - judge);
        }
        SnowPumps y = Hills.even(40);
        jumps(y, 5, 15, 23, 23 + 14 + 13 + 12, 0);
        y.judge(1, 4);
        jumps(y, 10, 15, 43, 43 + 13 + 12 + 11, 0);
        check.due("the jump before keeps its points", y.told(0, 2), 62);
    }

    private static void promise7Refused() {
        SnowPumps x = new SnowPumps();
        for (int judge : new int[] {-1, 5, LEAST, MOST}) {
            check.refused("judge(" + judge + ", 0)", x, INDEX, () -> x.judge(judge, 0));
            check.refused("judge(" + judge + ", 5)", x, INDEX, () -> x.judge(judge, 5));
        }
        for (int strict : new int[] {-1, 5, LEAST, MOST}) {
            check.refused("judge(2, " + strict + ")", x, ARGUMENT, () -> x.judge(2, strict));
        }
    }

    private static void promise8Jump() {
        SnowPumps x = Hills.even(40);
        int hour = x.count(0);
        check.due("jump(7, 10, 18)", x.jump(7, 10, 18), 0);
        check.due("its length", x.told(0, 1), 44);
        check.due("its points", x.told(0, 2), 44 + 17 + 16 + 15);
        check.due("the part of the landing has less", x.part(8, 0), 37);
        check.due("the part before it doesn't", x.part(7, 0), 40);
        check.due("the part behind it doesn't", x.part(9, 0), 40);
        check.due("a jump takes no hour", x.count(0), hour);
        check.due("jumps", x.count(9), 1);
        check.due("falls", x.count(10), 0);
        check.due("the next one", x.jump(7, 1, 3), 1);
        check.due("style / 4 is cut", x.told(1, 1), 4);
        check.due("length 4 is part 0", x.part(0, 0), 37);
        check.due("one more", x.jump(7, 1, 4), 2);
        check.due("style / 4", x.told(2, 1), 5);
        check.due("length 5 is part 1", x.part(1, 0), 37);
    }

    private static void promise8TheLengthIsHeld() {
        SnowPumps x = Hills.even(40);
        x.setWeather(0, -5, 50, 9);
        jumps(x, 20, 20, 99, 99 + 10 + 9 + 8, 0);
        check.due("landed on the last part", x.part(19, 0), 37);
        jumps(x, 20, 3, 98, 98, 0);
        jumps(x, 20, 4, 99, 99, 0);
        jumps(x, 20, 8, 99, 99, 0);
        check.due("all of them did", x.part(19, 0), 28);
        x.setWeather(0, -5, 50, -9);
        jumps(x, 4, 8, 0, 0, 0);
        jumps(x, 5, 0, 2, 2, 0);
        jumps(x, 1, 20, 0, 10 + 9 + 8, 0);
        check.due("landed on the first part", x.part(0, 0), 31);
    }

    private static void promise8ByTheGust() {
        SnowPumps x = Hills.even(40);
        x.setWeather(0, -5, 50, 3);
        x.setWeather(1, -5, 50, -4);
        jumps(x, 10, 16, 50, 50 + 12 + 11 + 10, 0);
        x.pass(1);
        jumps(x, 10, 16, 36, 36 + 11 + 10 + 9, 0);
        x.pass(1);
        jumps(x, 10, 16, 44, 44 + 15 + 14 + 13, 0);
        x.pass(22);
        jumps(x, 10, 16, 50, 50 + 12 + 11 + 10, 0);
    }

    private static void promise8MarksAreHeld() {
        SnowPumps x = Hills.even(40);
        jumps(x, 1, 2, 4, 4 + 1, 0);
        for (int judge = 0; judge < 5; judge++) {
            x.judge(judge, 0);
        }
        jumps(x, 4, 20, 21, 21 + 60, 0);
        SnowPumps bare = new SnowPumps();
        jumps(bare, 4, 9, 18, 18, 1);
        jumps(bare, 4, 10, 18, 18 + 1, 1);
        jumps(bare, 4, 20, 21, 21 + 11 + 10 + 9, 1);
        check.due("falls", bare.count(10), 3);
        check.due("snow is at least 0", bare.part(3, 0), 0);
    }

    private static void promise8BestAndWorst() {
        SnowPumps x = Hills.even(40);
        int[] strict = {2, 2, 0, 4, 4};
        for (int judge = 0; judge < 5; judge++) {
            x.judge(judge, strict[judge]);
        }
        // One of two worst ones counts.
        jumps(x, 10, 10, 42, 42 + 8 + 8 + 6, 0);
        x.judge(3, 0);
        // One of two best ones counts.
        jumps(x, 12, 10, 50, 50 + 8 + 8 + 10, 0);
    }

    private static void promise8FallsByIce() {
        SnowPumps x = Hills.even(70);
        x.pump(5, 1);
        x.run(1);
        for (int ice = 1; ice <= 11; ice++) {
            x.setWeather(x.count(1), 0, 100, 0);
            x.pass(1);
            check.due("ice", x.part(5, 1), ice);
            check.due("one falls now", x.part(5, 3), ice < 10 ? 0 : 1);
            jumps(x, 6, 18, 28, ice < 10 ? 76 : 28 + 9 + 8 + 7, ice < 10 ? 0 : 1);
        }
        check.due("falls", x.count(10), 2);
        check.due("snow enough", x.part(5, 0), 37);
    }

    private static void promise8FallsBySnow() {
        SnowPumps x = Hills.even(33);
        jumps(x, 6, 18, 28, 76, 0);
        check.due("snow", x.part(5, 0), 30);
        check.due("30 will do", x.part(5, 3), 0);
        jumps(x, 6, 18, 28, 76, 0);
        check.due("snow", x.part(5, 0), 27);
        check.due("27 won't", x.part(5, 3), 1);
        jumps(x, 6, 18, 28, 28 + 9 + 8 + 7, 1);
        check.due("a fall takes snow too", x.part(5, 0), 24);
        for (int k = 0; k < 9; k++) {
            x.jump(1, 6, 18);
        }
        check.due("snow is at least 0", x.part(5, 0), 0);
        SnowPumps y = Hills.even(30);
        jumps(y, 6, 18, 28, 76, 0);
        SnowPumps z = Hills.even(29);
        jumps(z, 6, 18, 28, 52, 1);
        check.due("falls", z.count(10), 1);
    }

    private static void promise8Refused() {
        SnowPumps x = Hills.even(40);
        for (int jump = 0; jump <= 30; jump++) {
            if (jump == 0 || jump == 30) {
                refuseWrongJumps(x);
            }
            if (jump < 30) {
                check.due("jump " + jump, x.jump(jump % 10, 1 + jump % 20, jump % 21), jump);
            }
        }
        check.refused("jump 30", x, STATE, () -> x.jump(0, 1, 0));
        check.refused("jump 30 again", x, STATE, () -> x.jump(9, 20, 20));
        check.due("jumps", x.count(9), 30);
        check.due("the last one", x.told(29, 0), 9);
    }

    private static void refuseWrongJumps(SnowPumps x) {
        for (int jumper : new int[] {-1, 10, LEAST, MOST}) {
            check.refused("jump of " + jumper, x, ARGUMENT, () -> x.jump(jumper, 1, 0));
        }
        for (int gate : new int[] {0, 21, -1, LEAST, MOST}) {
            check.refused("jump from " + gate, x, ARGUMENT, () -> x.jump(0, gate, 0));
        }
        for (int style : new int[] {-1, 21, LEAST, MOST}) {
            check.refused("jump with " + style, x, ARGUMENT, () -> x.jump(0, 1, style));
        }
    }

    private static void promise9Told() {
        SnowPumps x = new SnowPumps();
        check.refused("told(0, 0) without jumps", x, INDEX, () -> x.told(0, 0));
        check.refused("told(-1, 0) without jumps", x, INDEX, () -> x.told(-1, 0));
        x.pass(30);
        x.jump(6, 3, 15);
        x.pass(1);
        x.jump(2, 20, 0);
        int[][] want = {{6, 15, 15 + 6 + 5 + 4, 1, 30}, {2, 80, 80, 1, 31}};
        for (int jump = 0; jump < 2; jump++) {
            for (int what = 0; what < 5; what++) {
                check.due("told(" + jump + ", " + what + ")", x.told(jump, what), want[jump][what]);
            }
        }
        for (int wrong : new int[] {2, -1, 30, LEAST, MOST}) {
            check.refused("told(" + wrong + ", 0)", x, INDEX, () -> x.told(wrong, 0));
        }
        for (int wrong : new int[] {5, -1, LEAST, MOST}) {
            check.refused("told(0, " + wrong + ")", x, INDEX, () -> x.told(0, wrong));
        }
        SnowPumps y = Hills.even(40);
        y.jump(0, 10, 10);
        check.due("no fall", y.told(0, 3), 0);
    }

    private static void promise10Score() {
        SnowPumps x = new SnowPumps();
        for (int wrong : new int[] {-1, 10, LEAST, MOST}) {
            check.refused("score(" + wrong + ")", x, INDEX, () -> x.score(wrong));
        }
        check.due("score(9) without jumps", x.score(9), 0);
        x.jump(9, 5, 0);
        check.due("score(9) of one jump", x.score(9), 20);
        x.jump(9, 3, 0);
        check.due("score(9) of two", x.score(9), 32);
        x.jump(8, 20, 0);
        check.due("another's jump does not count", x.score(9), 32);
        x.jump(9, 2, 0);
        check.due("a worse third one does not count", x.score(9), 32);
        x.jump(9, 4, 0);
        check.due("a better second one does", x.score(9), 36);
        x.jump(9, 7, 0);
        check.due("a best one does", x.score(9), 48);
        x.jump(9, 7, 0);
        check.due("one as good as the best does", x.score(9), 56);
        check.due("score(8)", x.score(8), 80);
        check.due("score(0)", x.score(0), 0);
    }

    private static void promise11Leader() {
        SnowPumps x = new SnowPumps();
        check.due("leader() without jumps", x.leader(), -1);
        x.setWeather(0, -5, 50, -9);
        x.jump(4, 1, 0);
        check.due("a jump without points", x.score(4), 0);
        check.due("with scores of 0 alone", x.leader(), 0);
        x.setWeather(0, -5, 50, 0);
        x.jump(9, 1, 0);
        check.due("leader() of one with points", x.leader(), 9);
        x.jump(5, 1, 0);
        check.due("of several the smallest number", x.leader(), 5);
        x.jump(7, 2, 0);
        check.due("a greater score", x.leader(), 7);
        x.jump(0, 2, 0);
        check.due("0 has as much", x.leader(), 0);
        x.jump(9, 2, 0);
        check.due("the last one has more", x.leader(), 9);
    }

    private static void promise11ByScoreOfTwo() {
        SnowPumps x = new SnowPumps();
        x.jump(1, 10, 0);
        x.jump(2, 6, 0);
        x.jump(2, 5, 0);
        check.due("two jumps beat a longer one", x.leader(), 2);
        x.jump(3, 4, 0);
        x.jump(3, 4, 0);
        x.jump(3, 4, 0);
        check.due("a third one does not count", x.leader(), 2);
        x.jump(1, 1, 0);
        check.due("as much, and a smaller number", x.leader(), 1);
    }
}
