import java.util.Arrays;

/** The edges of how a jump goes (section "Terms"), and of promises 7 to 11. */
public final class JumpEdgesTest {
    private static final Class<IndexOutOfBoundsException> INDEX = IndexOutOfBoundsException.class;
    private static final Class<IllegalArgumentException> ARGUMENT = IllegalArgumentException.class;
    private static final Class<IllegalStateException> STATE = IllegalStateException.class;

    private static final Check check = new Check();

    public static void main(String[] args) {
        gatesFrom1To20();
        stylesFrom0To20();
        theLengthIsAtLeast0();
        theLengthIsAtMost99();
        theGustOfTheHourOfTheDay();
        theGustCountsTwice();
        thePartOfTheLanding();
        theFirstAndTheLastPart();
        fallsWithLessThan30Snow();
        fallsWithIceOf10OrMore();
        fallsOnlyByThePartOfTheLanding();
        marksLessTheGustWithoutItsSign();
        marksAreAtLeast0();
        marksAreAtMost20();
        marksLess8ForAFall();
        judgesAreStrictAtFirst();
        theBestAndTheWorstMark();
        eachJudgeCanBeTheBestOrTheWorst();
        threeLessSnow();
        aJumpTakesNoHour();
        promise7();
        promise8AtMost30();
        promise8JumpersFrom0To9();
        promise9TheFirstAndTheLastJump();
        promise9TheHour();
        promise9WhatIsToldStays();
        promise10BestTwo();
        promise10OfEachJumper();
        promise10OfThirtyJumps();
        promise11WithoutAJump();
        promise11WithScoresOf0();
        promise11OfSeveral();
        promise11OfSeveralWithMuch();
        check.finish();
    }

    /** Length, points and fall of the last jump. */
    private static void jumped(String what, SnowPumps x, int length, int points, int fall) {
        int jump = x.count(9) - 1;
        check.due(what + ": length", x.told(jump, 1), length);
        check.due(what + ": points", x.told(jump, 2), points);
        check.due(what + ": fall", x.told(jump, 3), fall);
    }

    private static void allStrict(SnowPumps x, int... strict) {
        for (int judge = 0; judge < 5; judge++) {
            x.judge(judge, strict[strict.length == 1 ? 0 : judge]);
        }
    }

    // "Jumping from a gate, 1 to 20": "the length is 4 * gate .."
    private static void gatesFrom1To20() {
        SnowPumps x = new SnowPumps();
        for (int gate = 1; gate <= 20; gate++) {
            x.jump(0, gate, 0);
            jumped("gate " + gate, x, 4 * gate, 4 * gate, 1);
        }
    }

    // "with a style, 0 to 20": ".. and style / 4", "/ is cut towards 0"
    private static void stylesFrom0To20() {
        SnowPumps x = new SnowPumps();
        int[] more = {0, 0, 0, 0, 1, 1, 1, 1, 2, 2, 2, 2, 3, 3, 3, 3, 4, 4, 4, 4, 5};
        for (int style = 0; style <= 20; style++) {
            x.jump(0, 5, style);
            check.due("style " + style, x.told(style, 1), 20 + more[style]);
        }
    }

    // "added, at least 0"
    private static void theLengthIsAtLeast0() {
        int[][] rows = {
            // gate, gust, style, length
            {1, -9, 0, 0}, {1, -9, 20, 0}, {1, -2, 0, 0}, {1, -2, 3, 0}, {1, -2, 4, 1}, {1, -3, 4, 0}, {1, -3, 8, 0},
            {1, -3, 12, 1}, {4, -9, 7, 0}, {4, -9, 8, 0}, {4, -9, 12, 1}, {5, -9, 0, 2},
        };
        lengths(rows);
    }

    // "at most 99"
    private static void theLengthIsAtMost99() {
        int[][] rows = {
            {20, 9, 0, 98}, {20, 9, 3, 98}, {20, 9, 4, 99}, {20, 9, 7, 99}, {20, 9, 8, 99}, {20, 9, 20, 99},
            {19, 9, 20, 99}, {18, 9, 20, 95}, {20, 8, 12, 99}, {20, 8, 16, 99}, {20, 8, 8, 98}, {20, 0, 0, 80},
        };
        lengths(rows);
    }

    private static void lengths(int[][] rows) {
        for (int[] row : rows) {
            SnowPumps x = Hills.even(40);
            x.setWeather(0, -5, 50, row[1]);
            x.jump(2, row[0], row[2]);
            String what = "gate " + row[0] + ", gust " + row[1] + ", style " + row[2];
            check.due(what, x.told(0, 1), row[3]);
            check.due(what + ": the part of the landing", x.part(row[3] / 5, 0), 37);
            check.due(what + ": all snow", x.count(7), 797);
        }
    }

    // "the gust of the hour of the day", and the hour behind the last one of the day
    private static void theGustOfTheHourOfTheDay() {
        SnowPumps x = new SnowPumps();
        x.setWeather(22, -5, 50, 1);
        x.setWeather(23, -5, 50, 9);
        x.setWeather(0, -5, 50, -4);
        x.setWeather(1, -5, 50, -9);
        x.pass(22);
        int[] length = {42, 58, 32, 22};
        for (int k = 0; k < 4; k++) {
            x.jump(0, 10, 0);
            jumped("hour " + (22 + k), x, length[k], length[k], 1);
            x.pass(1);
        }
    }

    // "twice the gust"
    private static void theGustCountsTwice() {
        for (int gust = -9; gust <= 9; gust++) {
            SnowPumps x = new SnowPumps();
            x.setWeather(0, -5, 50, gust);
            x.jump(0, 10, 0);
            jumped("gust " + gust, x, 40 + 2 * gust, 40 + 2 * gust, 1);
        }
    }

    // "the part of the landing is the length / 5", "/ is cut towards 0"
    private static void thePartOfTheLanding() {
        int[][] rows = {
            // gate, gust, style, part
            {1, 0, 0, 0}, {1, 0, 4, 1}, {1, 2, 4, 1}, {1, 3, 0, 2}, {12, 0, 4, 9}, {12, 0, 8, 10}, {20, 7, 0, 18},
            {20, 7, 4, 19}, {20, 9, 20, 19}, {1, -9, 0, 0},
        };
        for (int[] row : rows) {
            SnowPumps x = Hills.even(40);
            x.setWeather(0, -5, 50, row[1]);
            x.jump(0, row[0], row[2]);
            for (int part = 0; part < 20; part++) {
                check.due("landing on " + row[3] + ": snow of " + part, x.part(part, 0), part == row[3] ? 37 : 40);
            }
        }
    }

    private static void theFirstAndTheLastPart() {
        SnowPumps x = Hills.even(33);
        x.setWeather(0, -5, 50, 9);
        int[][] rows = {{20, 30, 0}, {20, 27, 0}, {20, 24, 1}};
        for (int[] row : rows) {
            x.jump(0, row[0], 20);
            check.due("snow of the last part", x.part(19, 0), row[1]);
            check.due("fall on the last part", x.told(x.count(9) - 1, 3), row[2]);
        }
        x.setWeather(0, -5, 50, -9);
        for (int[] row : rows) {
            x.jump(0, 1, 20);
            check.due("snow of the first part", x.part(0, 0), row[1]);
            check.due("fall on the first part", x.told(x.count(9) - 1, 3), row[2]);
        }
    }

    // "The jumper falls, if this part has less than 30 snow"
    private static void fallsWithLessThan30Snow() {
        int[][] rows = {{0, 1}, {1, 1}, {28, 1}, {29, 1}, {30, 0}, {31, 0}, {100, 0}};
        for (int[] row : rows) {
            SnowPumps x = Hills.even(row[0]);
            x.jump(0, 10, 20);
            jumped("snow " + row[0], x, 45, 45 + (row[1] == 1 ? 11 + 10 + 9 : 19 + 18 + 17), row[1]);
            check.due("falls", x.count(10), row[1]);
        }
        SnowPumps full = new SnowPumps();
        full.pump(9, 9);
        full.run(0);
        full.fill(9999);
        full.pass(40);
        full.jump(0, 10, 20);
        jumped("snow 300", full, 45, 45 + 54, 0);
    }

    // "or ice of 10 or more"
    private static void fallsWithIceOf10OrMore() {
        int[][] rows = {{0, 0}, {1, 0}, {9, 0}, {10, 1}, {11, 1}, {50, 1}};
        for (int[] row : rows) {
            SnowPumps x = Hills.icy(40, 9, row[0]);
            x.jump(0, 10, 20);
            jumped("ice " + row[0], x, 45, 45 + (row[1] == 1 ? 30 : 54), row[1]);
            check.due("ice stays", x.part(9, 1), row[0]);
            check.due("snow goes", x.part(9, 0), 37);
        }
        SnowPumps both = Hills.icy(29, 9, 10);
        both.jump(0, 10, 20);
        jumped("too little snow, and ice", both, 45, 45 + 30, 1);
        check.due("it is one fall", both.count(10), 1);
    }

    private static void fallsOnlyByThePartOfTheLanding() {
        SnowPumps x = Hills.icy(40, 9, 20);
        x.jump(0, 10, 19);
        jumped("before the ice", x, 44, 44 + 18 + 17 + 16, 0);
        x.jump(0, 12, 8);
        jumped("behind the ice", x, 50, 50 + 7 + 6 + 5, 0);
        x.jump(0, 12, 7);
        jumped("on the ice", x, 49, 49, 1);
    }

    // "gives the style, less the gust without its sign"
    private static void marksLessTheGustWithoutItsSign() {
        for (int gust = -9; gust <= 9; gust++) {
            SnowPumps x = Hills.even(40);
            allStrict(x, 0);
            x.setWeather(0, -5, 50, gust);
            x.jump(0, 8, 19);
            int mark = gust < 0 ? 19 + gust : 19 - gust;
            jumped("gust " + gust, x, 36 + 2 * gust, 36 + 2 * gust + 3 * mark, 0);
        }
    }

    // "held at 0 to 20": the marks, each for itself.
    private static void marksAreAtLeast0() {
        int[][] rows = {{0, 0}, {1, 0}, {2, 1}, {3, 3}, {4, 6}, {5, 9}};
        for (int[] row : rows) {
            SnowPumps x = Hills.even(40);
            x.jump(0, 5, row[0]);
            int length = 20 + row[0] / 4;
            jumped("style " + row[0], x, length, length + row[1], 0);
        }
        SnowPumps strict = Hills.even(40);
        allStrict(strict, 4);
        strict.jump(0, 5, 3);
        jumped("style 3, all strict by 4", strict, 20, 20, 0);
        strict.jump(0, 5, 4);
        jumped("style 4, all strict by 4", strict, 21, 21, 0);
        strict.jump(0, 5, 5);
        jumped("style 5, all strict by 4", strict, 21, 24, 0);
        SnowPumps least = new SnowPumps();
        allStrict(least, 4);
        least.setWeather(0, -5, 50, 9);
        least.jump(0, 5, 0);
        jumped("style 0, gust 9, strict by 4, a fall", least, 38, 38, 1);
        least.jump(0, 5, 20);
        jumped("style 20, gust 9, strict by 4, a fall", least, 43, 43, 1);
        allStrict(least, 2);
        least.jump(0, 5, 20);
        jumped("style 20, gust 9, strict by 2, a fall", least, 43, 43 + 3, 1);
    }

    private static void marksAreAtMost20() {
        SnowPumps x = Hills.even(40);
        allStrict(x, 0);
        x.jump(0, 5, 20);
        jumped("style 20", x, 25, 25 + 60, 0);
        x.jump(0, 5, 19);
        jumped("style 19", x, 24, 24 + 57, 0);
    }

    // "less 8 for a fall"
    private static void marksLess8ForAFall() {
        int[][] rows = {{7, 0}, {8, 0}, {9, 3}, {10, 6}, {20, 36}};
        for (int[] row : rows) {
            SnowPumps x = new SnowPumps();
            allStrict(x, 0);
            x.jump(0, 5, row[0]);
            int length = 20 + row[0] / 4;
            jumped("a fall with style " + row[0], x, length, length + row[1], 1);
        }
    }

    // "(0 to 4; the judge k: k, at first)"
    private static void judgesAreStrictAtFirst() {
        SnowPumps x = Hills.even(40);
        x.jump(0, 5, 10);
        jumped("10, 9, 8, 7, 6", x, 22, 22 + 9 + 8 + 7, 0);
        for (int judge = 0; judge < 5; judge++) {
            check.due("judge " + judge + " at first", new SnowPumps().judge(judge, 4 - judge), judge);
        }
    }

    // "the marks of the judges but the best and the worst one, added": one of each, be there several alike.
    private static void theBestAndTheWorstMark() {
        int[][] rows = {
            // strict of the five, marks of style 10 that count
            {0, 0, 0, 0, 0, 30}, {4, 4, 4, 4, 4, 18}, {0, 0, 0, 0, 4, 30}, {0, 4, 4, 4, 4, 18}, {0, 0, 4, 4, 4, 22},
            {0, 0, 0, 4, 4, 26}, {4, 3, 2, 1, 0, 24}, {2, 0, 4, 1, 3, 24}, {1, 1, 2, 3, 3, 24}, {4, 0, 0, 0, 0, 30},
            {4, 4, 0, 4, 4, 18},
        };
        for (int[] row : rows) {
            SnowPumps x = Hills.even(40);
            for (int judge = 0; judge < 5; judge++) {
                x.judge(judge, row[judge]);
            }
            x.jump(0, 5, 10);
            jumped("strict by " + Arrays.toString(row), x, 22, 22 + row[5], 0);
        }
    }

    private static void eachJudgeCanBeTheBestOrTheWorst() {
        for (int judge = 0; judge < 5; judge++) {
            SnowPumps best = Hills.even(40);
            allStrict(best, 3);
            best.judge(judge, 0);
            best.jump(0, 5, 10);
            jumped("judge " + judge + " is the best", best, 22, 22 + 21, 0);
            SnowPumps worst = Hills.even(40);
            allStrict(worst, 1);
            worst.judge(judge, 4);
            worst.jump(0, 5, 10);
            jumped("judge " + judge + " is the worst", worst, 22, 22 + 27, 0);
        }
    }

    // "the part of the landing has 3 less snow (at least 0)"
    private static void threeLessSnow() {
        int[][] rows = {{0, 0}, {1, 0}, {2, 0}, {3, 0}, {4, 1}, {30, 27}, {32, 29}};
        for (int[] row : rows) {
            SnowPumps x = Hills.even(row[0]);
            x.jump(0, 5, 4);
            check.due("snow " + row[0], x.part(4, 0), row[1]);
            check.due("all snow", x.count(7), 19 * row[0] + row[1]);
        }
        SnowPumps full = Hills.withPump(9, 9, 9999);
        full.pass(40);
        full.jump(0, 12, 0);
        check.due("snow 300", full.part(9, 0), 297);
    }

    // "A jump takes no hour"
    private static void aJumpTakesNoHour() {
        SnowPumps x = Hills.withPump(9, 9, 100);
        x.pass(23);
        for (int k = 0; k < 30; k++) {
            x.jump(0, 20, 20);
        }
        check.due("hour", x.count(0), 23);
        check.due("water", x.count(4), 1);
        check.due("all snow", x.count(7), 300 + 2 * 198);
    }

    // Promise 7: "by how much this one is strict from now on", "Returns by how much before."
    private static void promise7() {
        for (int judge = 0; judge < 5; judge++) {
            SnowPumps x = new SnowPumps();
            int before = judge;
            for (int strict : new int[] {0, 4, 4, 0, 2, 3, 1}) {
                check.due("judge(" + judge + ", " + strict + ")", x.judge(judge, strict), before);
                before = strict;
            }
            for (int other = 0; other < 5; other++) {
                check.due("judge " + other + " then", x.judge(other, 0), other == judge ? 1 : other);
            }
        }
        SnowPumps x = Hills.even(40);
        int judge = x.judge(0, 4);
        check.due("before", judge, 0);
        for (int wrong : new int[] {-1, 5}) {
            check.refused("judge(" + wrong + ", 0)", x, INDEX, () -> x.judge(wrong, 0));
            check.refused("judge(0, " + wrong + ")", x, ARGUMENT, () -> x.judge(0, wrong));
            check.refused("judge(" + wrong + ", " + wrong + ")", x, INDEX, () -> x.judge(wrong, wrong));
        }
        check.due("by how much before is not changed by them", x.judge(0, 0), 4);
    }

    // Promise 8: "There are at most 30, numbered likewise", "IllegalStateException if there are 30"
    private static void promise8AtMost30() {
        SnowPumps x = new SnowPumps();
        check.due("none at first", x.count(9), 0);
        for (int jump = 0; jump < 30; jump++) {
            check.due("the number of a jump", x.jump(4, 1 + jump % 20, 0), jump);
            check.due("jumps", x.count(9), jump + 1);
        }
        check.refused("a 31st jump", x, STATE, () -> x.jump(4, 1, 0));
        check.refused("a wrong jumper comes first", x, ARGUMENT, () -> x.jump(10, 1, 0));
        check.refused("a wrong gate comes first", x, ARGUMENT, () -> x.jump(4, 0, 0));
        check.refused("a wrong style comes first", x, ARGUMENT, () -> x.jump(4, 1, 21));
        check.due("jumps", x.count(9), 30);
        check.due("falls", x.count(10), 30);
        SnowPumps y = Hills.even(100);
        for (int jump = 0; jump < 30; jump++) {
            y.jump(4, 5, 0);
        }
        int snow = y.part(4, 0);
        check.due("30 jumps on one part", snow, 10);
        check.refused("a 31st jump takes no snow", y, STATE, () -> y.jump(4, 5, 0));
        check.due("snow", y.part(4, 0), snow);
    }

    // "each has a jumper, 0 to 9"
    private static void promise8JumpersFrom0To9() {
        SnowPumps x = new SnowPumps();
        for (int jumper = 0; jumper < 10; jumper++) {
            x.jump(jumper, 1 + jumper, 0);
            check.due("the jumper", x.told(jumper, 0), jumper);
            check.due("his score", x.score(jumper), 4 + 4 * jumper);
        }
    }

    // Promise 9: "if there is no such jump"
    private static void promise9TheFirstAndTheLastJump() {
        SnowPumps x = new SnowPumps();
        for (int jump = 0; jump < 30; jump++) {
            if (jump < 2 || jump > 28) {
                int next = jump;
                check.refused("told(" + next + ", 0) before it", x, INDEX, () -> x.told(next, 0));
                check.refused("told(-1, 0)", x, INDEX, () -> x.told(-1, 0));
            }
            x.jump(9 - jump % 10, 1 + jump % 20, jump % 4);
        }
        check.refused("told(30, 0)", x, INDEX, () -> x.told(30, 0));
        for (int jump = 0; jump < 30; jump++) {
            int length = 4 * (1 + jump % 20);
            int[] want = {9 - jump % 10, length, length, 1, 0};
            for (int what = 0; what < 5; what++) {
                check.due("told(" + jump + ", " + what + ")", x.told(jump, what), want[what]);
            }
            if (jump == 0 || jump == 29) {
                int known = jump;
                check.refused("told(" + jump + ", -1)", x, INDEX, () -> x.told(known, -1));
                check.refused("told(" + jump + ", 5)", x, INDEX, () -> x.told(known, 5));
            }
        }
    }

    // Promise 9: "4 the hour in which it was", from 0, behind the last one of the day too.
    private static void promise9TheHour() {
        SnowPumps x = new SnowPumps();
        int[] pass = {0, 23, 1, 1, 96, 96};
        int[] hour = {0, 23, 24, 25, 121, 217};
        for (int jump = 0; jump < pass.length; jump++) {
            if (pass[jump] > 0) {
                x.pass(pass[jump]);
            }
            x.jump(0, 1, 0);
            check.due("told(" + jump + ", 4)", x.told(jump, 4), hour[jump]);
        }
        x.pass(96);
        check.due("the hour of the first one stays", x.told(0, 4), 0);
        check.due("the hour of the last one stays", x.told(5, 4), 217);
    }

    // A jump is told as it was, whatever the judges, the weather, the snow and the time are later.
    private static void promise9WhatIsToldStays() {
        SnowPumps x = Hills.even(40);
        int hour = x.count(0);
        x.jump(6, 12, 20);
        x.setWeather(0, -5, 50, -2);
        x.jump(2, 3, 11);
        int[][] want = {{6, 53, 53 + 54, 0, hour}, {2, 10, 10 + 8 + 7 + 6, 0, hour}};
        for (int later = 0; later < 10; later++) {
            for (int jump = 0; jump < want.length; jump++) {
                for (int what = 0; what < 5; what++) {
                    check.due("later " + later + ": told(" + jump + ", " + what + ")", x.told(jump, what),
                            want[jump][what]);
                }
            }
            check.due("falls", x.count(10), 0);
            check.due("score", x.score(6), 53 + 54);
            check.due("leader", x.leader(), 6);
            Hills.setAllHours(x, 20, 100, later);
            allStrict(x, later % 5);
            x.pass(96);
        }
        x.jump(2, 20, 3);
        jumped("a late one", x, 98, 98, 1);
        check.due("its hour", x.told(2, 4), hour + 960);
        check.due("the score goes on", x.score(2), 98 + 10 + 8 + 7 + 6);
    }

    // Promise 10: "the points of the best two jumps .. (of one, if there is only one), added; 0 without any"
    private static void promise10BestTwo() {
        int[][] rows = {
            // score, gates of the jumps: 4 points each
            {0}, {4, 1}, {80, 20}, {12, 1, 2}, {12, 2, 1}, {8, 1, 1}, {20, 1, 2, 3}, {20, 3, 2, 1}, {20, 2, 3, 1},
            {20, 3, 1, 2}, {20, 1, 3, 2}, {20, 2, 1, 3}, {24, 3, 3, 1}, {24, 1, 3, 3}, {24, 3, 1, 3}, {24, 3, 3, 3},
            {160, 20, 1, 1, 1, 20},
        };
        for (int[] row : rows) {
            for (int jumper : new int[] {0, 9}) {
                SnowPumps x = new SnowPumps();
                for (int k = 1; k < row.length; k++) {
                    x.jump(jumper, row[k], 0);
                }
                check.due("score of " + Arrays.toString(row), x.score(jumper), row[0]);
                check.due("score of another one", x.score(5), 0);
            }
        }
        SnowPumps nothing = new SnowPumps();
        nothing.setWeather(0, -5, 50, -9);
        nothing.jump(3, 1, 0);
        check.due("one jump without points", nothing.score(3), 0);
        nothing.jump(3, 5, 0);
        check.due("and one with 2", nothing.score(3), 2);
        nothing.jump(3, 1, 0);
        check.due("and another without", nothing.score(3), 2);
    }

    private static void promise10OfEachJumper() {
        SnowPumps x = new SnowPumps();
        for (int jump = 0; jump < 30; jump++) {
            x.jump(jump % 10, 1 + jump % 20, 0);
        }
        for (int jumper = 0; jumper < 10; jumper++) {
            check.due("score(" + jumper + ")", x.score(jumper), 4 * (11 + jumper) + 4 * (1 + jumper));
        }
        check.refused("score(-1)", x, INDEX, () -> x.score(-1));
        check.refused("score(10)", x, INDEX, () -> x.score(10));
    }

    private static void promise10OfThirtyJumps() {
        SnowPumps x = new SnowPumps();
        for (int jump = 0; jump < 29; jump++) {
            x.jump(7, 1 + jump % 5, 0);
        }
        check.due("29 jumps", x.score(7), 40);
        x.jump(7, 20, 0);
        check.due("the last one is the best", x.score(7), 100);
        SnowPumps y = new SnowPumps();
        y.jump(7, 20, 0);
        for (int jump = 1; jump < 30; jump++) {
            y.jump(7, 1, 0);
        }
        check.due("the first one is the best", y.score(7), 84);
    }

    // Promise 11: "-1 if there was no jump"
    private static void promise11WithoutAJump() {
        SnowPumps x = Hills.even(40);
        check.due("leader() without a jump", x.leader(), -1);
        check.refused("a jump that is refused", x, ARGUMENT, () -> x.jump(3, 21, 0));
        check.due("leader() is -1 still", x.leader(), -1);
        x.jump(3, 20, 0);
        check.due("leader() of one jump", x.leader(), 3);
    }

    // "(with scores of 0 alone 0, jumped or not)"
    private static void promise11WithScoresOf0() {
        for (int jumper = 0; jumper < 10; jumper++) {
            SnowPumps x = new SnowPumps();
            x.setWeather(0, -5, 50, -9);
            x.jump(jumper, 4, 7);
            check.due("no points", x.told(0, 2), 0);
            check.due("leader() of " + jumper + " with 0", x.leader(), 0);
            x.jump(9, 1, 0);
            check.due("and of 9 with 0", x.leader(), 0);
            x.jump(jumper, 4, 12);
            check.due("with 1", x.leader(), jumper);
        }
    }

    // "the greatest score, of several the one with the smallest number"
    private static void promise11OfSeveral() {
        for (int less = 0; less < 10; less++) {
            for (int more = less + 1; more < 10; more++) {
                SnowPumps x = new SnowPumps();
                x.jump(more, 10, 0);
                check.due("one alone", x.leader(), more);
                x.jump(less, 9, 0);
                check.due("with 1 gate less", x.leader(), more);
                x.jump(less, 1, 0);
                check.due("as much: " + less + " and " + more, x.leader(), less);
                x.jump(more, 1, 0);
                check.due("more again", x.leader(), more);
            }
        }
        SnowPumps all = new SnowPumps();
        for (int jumper = 9; jumper >= 0; jumper--) {
            all.jump(jumper, 10, 0);
            check.due("all from " + jumper, all.leader(), jumper);
        }
        all.jump(0, 20, 0);
        check.due("the first one with more", all.leader(), 0);
    }

    private static void promise11OfSeveralWithMuch() {
        for (int less = 0; less < 9; less++) {
            SnowPumps x = Hills.even(100);
            int more = less + 1;
            x.jump(more, 12, 20);
            x.jump(more, 12, 20);
            check.due("the score of " + more, x.score(more), 2 * (53 + 54));
            x.jump(less, 12, 20);
            check.due("half as much", x.leader(), more);
            x.jump(less, 12, 20);
            check.due("as much", x.leader(), less);
            x.jump(9 - less, 12, 20);
            x.jump(9 - less, 12, 20);
            check.due("and another one", x.leader(), Math.min(less, 9 - less));
        }
    }
}
