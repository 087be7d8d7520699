/** Promises 8 to 14 with their terms, sentence by sentence: just inside and just outside. */
final class EdgesOfSunTest {
    public static void main(String[] args) {
        promise8Sun();
        promise9Suns();
        promise9SunsBeyond();
        promise10Ideal();
        promise10IdealAtTheEdgesOfSteps();
        promise11Back();
        promise11BackNearest();
        promise12Breadth();
        litIsAboveZero();
        promise13Shade();
        rowsAhead();
        shadeToThePoint();
        groupsToThePoint();
        promise14Dark();
        Due.end();
    }

    private static void promise8Sun() {
        Script.run("8: BEYOND: there is no such hour", """
                sun -1 0 1 = BEYOND
                sun 24 0 1 = BEYOND
                sun MIN 0 1 = BEYOND
                sun MAX 0 1 = BEYOND
                sun -1 0 0 = BEYOND
                sun 24 0 0 = BEYOND
                sun 0 0 1 = 1
                sun 23 0 1 = 1
                ideal 0 = 0
                ideal 23 = 0
                ideal 1 = NONE
                ideal 22 = NONE
                """);
        Script.run("8: BEYOND: x isn't -1000 .. 1000", """
                sun 5 -1001 1 = BEYOND
                sun 5 1001 1 = BEYOND
                sun 5 MIN 1 = BEYOND
                sun 5 MAX 1 = BEYOND
                sun 5 -1001 0 = BEYOND
                sun 5 1001 0 = BEYOND
                ideal 5 = NONE
                sun 5 -1000 1 = 1
                ideal 5 = 12
                sun 5 1000 1 = 1
                ideal 5 = -12
                sun 5 1001 1 = BEYOND
                sun 5 -1000 0 = 0
                sun 5 1000 0 = 0
                """);
        Script.run("8: BEYOND: y isn't 0 .. 1000; y 0: NIGHT: 0", """
                sun 5 0 -1 = BEYOND
                sun 5 0 1001 = BEYOND
                sun 5 0 MIN = BEYOND
                sun 5 0 MAX = BEYOND
                ideal 5 = NONE
                sun 5 0 1 = 1
                ideal 5 = 0
                sun 5 0 1001 = BEYOND
                sun 5 0 -1 = BEYOND
                ideal 5 = 0
                sun 5 0 1000 = 1
                ideal 5 = 0
                sun 5 0 0 = 0
                ideal 5 = NONE
                sun 5 0 0 = 0
                """);
    }

    private static String tell(int... numbers) {
        StringBuilder text = new StringBuilder();
        for (int number : numbers) {
            text.append("tell ").append(number).append('\n');
        }
        return text.toString();
    }

    private static void promise9Suns() {
        Script.run("9: nothing was told: no hours", """
                suns = 0
                tell 5 = 1
                """);
        Script.run("9: SIZE: it isn't a multiple of three (what was told stays)", """
                tell 5 = 1
                suns = SIZE
                tell -1000 = 2
                suns = SIZE
                tell 1 = 3
                suns = 1
                ideal 5 = 12
                suns = 0
                """);
        Script.run("9: SIZE: one more and one less than a multiple", tell(0, 0, 1, 1) + """
                suns = SIZE
                ideal 0 = NONE
                tell 0 = 5
                suns = SIZE
                tell 1 = 6
                suns = 2
                ideal 0 = 0
                ideal 1 = 0
                """);
        Script.run("9: SIZE is asked ahead of BEYOND", tell(24, 0, 1, 0) + """
                suns = SIZE
                tell 0 = 5
                suns = SIZE
                tell 1 = 6
                suns = BEYOND
                ideal 0 = NONE
                tell 0 = 1
                """);
        Script.run("9: as many as a tape holds, less one: SIZE; all: 24 hours", """
                71 times tell 1
                suns = SIZE
                tell 1 = 72
                suns = 24
                ideal 1 = -9
                ideal 0 = NONE
                suns = 0
                """);
        StringBuilder sheet = new StringBuilder();
        for (int hour = 0; hour < 24; hour++) {
            sheet.append(tell(hour, hour % 2 == 0 ? 1000 : -1000, 1));
        }
        Script.run("9: a sheet of all hours", sheet + """
                suns = 24
                ideal 0 = -12
                ideal 1 = 12
                ideal 22 = -12
                ideal 23 = 12
                tell 0 = 1
                """);
        Script.run("9: an hour that comes twice: the later one", tell(4, 1000, 1, 4, 0, 1) + """
                suns = 2
                ideal 4 = 0
                """);
        Script.run("9: an hour that comes twice: NIGHT is the later one", tell(4, 0, 1, 4, 0, 0) + """
                suns = 2
                ideal 4 = NONE
                """);
    }

    private static void promise9SunsBeyond() {
        int[][] wrong = {
            {-1, 0, 1}, {24, 0, 1}, {Integer.MIN_VALUE, 0, 1}, {Integer.MAX_VALUE, 0, 1},
            {6, -1001, 1}, {6, 1001, 1}, {6, Integer.MIN_VALUE, 1}, {6, Integer.MAX_VALUE, 1},
            {6, 0, -1}, {6, 0, 1001}, {6, 0, Integer.MIN_VALUE}, {6, 0, Integer.MAX_VALUE},
            {6, 1001, 0}, {24, 0, 0}
        };
        String then = """
                suns = BEYOND
                ideal 3 = 0
                ideal 4 = NONE
                ideal 5 = NONE
                suns = 0
                tell 7 = 1
                """;
        int[] first = {3, 1000, 1};
        int[] night = {4, 0, 1};
        for (int[] one : wrong) {
            String sentence = "9: BEYOND: one isn't as sun() takes it: " + one[0] + " " + one[1] + " "
                    + one[2];
            Script.run(sentence + ", alone", "sun 3 0 1 = 1\n" + tell(one) + then);
            Script.run(sentence + ", last", "sun 3 0 1 = 1\n" + tell(first) + tell(night) + tell(one) + then);
            Script.run(sentence + ", first", "sun 3 0 1 = 1\n" + tell(one) + tell(first) + tell(night) + then);
            Script.run(sentence + ", between", "sun 3 0 1 = 1\n" + tell(first) + tell(one) + tell(night) + then);
        }
        Script.run("9: the edges that sun() takes",
                tell(0, -1000, 1, 23, 1000, 1, 1, 0, 1000, 2, 1000, 1000, 3, -1000, 0) + """
                suns = 5
                ideal 0 = 12
                ideal 23 = -12
                ideal 1 = 0
                ideal 2 = -9
                ideal 3 = NONE
                """);
        Script.run("9: NIGHT by a sheet", "sun 3 0 1 = 1\n" + tell(3, 0, 0) + """
                suns = 1
                ideal 3 = NONE
                """);
    }

    private static void promise10Ideal() {
        Script.run("10: BEYOND: there is no such hour", """
                ideal -1 = BEYOND
                ideal 24 = BEYOND
                ideal MIN = BEYOND
                ideal MAX = BEYOND
                sun 0 0 1 = 1
                sun 23 0 1 = 1
                ideal -1 = BEYOND
                ideal 24 = BEYOND
                ideal 0 = 0
                ideal 23 = 0
                """);
        Script.run("10: NONE: it is NIGHT", """
                ideal 0 = NONE
                ideal 23 = NONE
                sun 0 0 1 = 1
                ideal 0 = 0
                sun 0 0 0 = 0
                ideal 0 = NONE
                """);
        Script.run("10: rows and how they stand are all one", """
                sun 0 1000 1000 = 1
                ideal 0 = -9
                row 0 0 0 400 0 = 0
                row 1 1 0 400 12 = 1
                turn 0 5 = 0
                ideal 0 = -9
                """);
    }

    /** For steps k and k + 1 the suns (x, y) at which both are just as good, and next to these. */
    private static void promise10IdealAtTheEdgesOfSteps() {
        int[][] equal = {
            {0, 19, 436}, {1, 19, 144}, {11, 184, 117}
        };
        for (int[] one : equal) {
            int k = one[0];
            int x = one[1];
            int y = one[2];
            Script.run("Terms 2: IDEAL: of several the one nearest to 0: " + k, """
                    sun 0 @-x @y = 1
                    sun 1 @x @y = 1
                    ideal 0 = @k
                    ideal 1 = @-k
                    """.replace("@-x", "" + -x).replace("@x", "" + x).replace("@y", "" + y)
                    .replace("@-k", "" + -k).replace("@k", "" + k));
            Script.run("Terms 2: IDEAL: the greatest: " + (k + 1), """
                    sun 0 @-x @y = 1
                    sun 1 @x @y = 1
                    ideal 0 = @k
                    ideal 1 = @-k
                    """.replace("@-x", "" + -(x + 1)).replace("@x", "" + (x + 1)).replace("@y", "" + y)
                    .replace("@-k", "" + -(k + 1)).replace("@k", "" + (k + 1)));
        }
        Script.run("Terms 2: IDEAL: the first and the last step", """
                sun 0 1000 1 = 1
                sun 1 -1000 1 = 1
                sun 2 1 1000 = 1
                sun 3 -1 1000 = 1
                sun 4 0 1 = 1
                sun 5 0 1000 = 1
                ideal 0 = -12
                ideal 1 = 12
                ideal 2 = 0
                ideal 3 = 0
                ideal 4 = 0
                ideal 5 = 0
                """);
    }

    private static void promise11Back() {
        Script.run("11: BEYOND", """
                back -1 = BEYOND
                back 24 = BEYOND
                back MIN = BEYOND
                back MAX = BEYOND
                sun 0 1000 1 = 1
                sun 23 -1000 1 = 1
                back -1 = BEYOND
                back 24 = BEYOND
                back 0 = -12
                back 23 = 12
                """);
        Script.run("11: KIND: it is NIGHT (asked ahead of NONE)", """
                row 0 0 0 10 0 = 0
                row 1 1 0 400 0 = 1
                back 0 = KIND
                sun 0 500 900 = 1
                back 0 = NONE
                sun 0 500 0 = 0
                back 0 = KIND
                """);
        Script.run("11: NONE: there is none", """
                sun 0 500 900 = 1
                sun 1 -500 900 = 1
                sun 2 0 900 = 1
                row 0 0 0 10 0 = 0
                back 0 = -6
                row 1 1 0 400 0 = 1
                back 0 = NONE
                back 1 = 6
                back 2 = 0
                drop = 1
                back 0 = -6
                """);
        Script.run("11: no rows: IDEAL", """
                sun 0 1000 1 = 1
                back 0 = -12
                """);
        Script.run("Terms 2: only STUCK rows: IDEAL, whatever shades them", """
                sun 0 500 900 = 1
                row 1 0 0 400 0 = 0
                row 1 1 0 400 0 = 1
                shade 0 0 = 7182000000
                back 0 = -6
                """);
    }

    private static void promise11BackNearest() {
        // At 12 alone row 0 isn't LIT: 5000 times 1000 is below 8660 times 600.
        Script.run("Terms 2: BACK: the last step, when all below it are in SHADE", """
                sun 0 600 1000 = 1
                row 0 0 0 10 0 = 0
                row 1 1 0 400 -6 = 1
                ideal 0 = -6
                back 0 = 12
                """);
        Script.run("Terms 2: BACK: the first step, when all above it are in SHADE", """
                sun 0 -600 1000 = 1
                row 1 0 0 400 6 = 0
                row 2 1 0 10 0 = 1
                ideal 0 = 6
                back 0 = -12
                """);
        // At step 0 two rows of width 200 touch if they are 200 apart, and overlap if 199.
        Script.run("Terms 2: BACK: rows that touch have no SHADE", """
                sun 0 1000 200 = 1
                sun 1 -1000 200 = 1
                row 0 0 0 200 0 = 0
                row 0 200 0 200 0 = 1
                back 0 = 0
                back 1 = 0
                drop = 1
                row 0 199 0 200 0 = 1
                back 0 = 1
                back 1 = -1
                """);
        // 800 d: 8192640000 at -7, 8235200000 at -6, 8215760000 at -5. The rows lie 8220000000 apart.
        Script.run("Terms 2: BACK: of two the lesser one", """
                sun 9 500 900 = 1
                sun 10 -500 900 = 1
                row 0 0 0 400 0 = 0
                row 0 450 -12 400 0 = 1
                ideal 9 = -6
                back 9 = -7
                drop = 1
                row 0 450 12 400 0 = 1
                ideal 10 = 6
                back 10 = 5
                """);
        // Each row has SHADE of the next but one, none of the next.
        Script.run("Terms 2: BACK: SHADE of a row that isn't the next one", """
                sun 0 1000 500 = 1
                sun 1 -1000 500 = 1
                row 0 0 0 100 0 = 0
                row 0 1 1000 10 0 = 1
                row 0 100 0 100 0 = 2
                row 0 101 -1000 10 0 = 3
                back 0 = 0
                drop = 3
                drop = 2
                row 0 99 0 100 0 = 2
                row 0 100 -1000 10 0 = 3
                back 0 = 1
                back 1 = -1
                """);
        // The STUCK one begins at 1600000000 or at 984000000; row 0 ends at 983200000 if at -7.
        Script.run("Terms 2: STUCK ones being at their own step", """
                sun 0 1000 500 = 1
                row 0 0 0 100 0 = 0
                row 1 210 0 100 0 = 1
                back 0 = -12
                drop = 1
                row 1 210 0 100 -12 = 1
                back 0 = -7
                """);
    }

    private static void promise12Breadth() {
        Script.run("12: BEYOND: there is no such row or hour", """
                sun 0 0 1 = 1
                sun 23 0 2 = 1
                breadth 0 0 = BEYOND
                row 0 0 0 10 0 = 0
                row 0 1 0 20 0 = 1
                breadth -1 0 = BEYOND
                breadth 2 0 = BEYOND
                breadth MIN 0 = BEYOND
                breadth MAX 0 = BEYOND
                breadth 0 -1 = BEYOND
                breadth 0 24 = BEYOND
                breadth 0 MIN = BEYOND
                breadth 0 MAX = BEYOND
                breadth 0 0 = 200000
                breadth 1 0 = 400000
                breadth 0 23 = 400000
                """);
        Script.run("12: NONE: it is NIGHT (asked behind BEYOND)", """
                row 0 0 0 10 0 = 0
                breadth 0 5 = NONE
                breadth 1 5 = BEYOND
                breadth -1 5 = BEYOND
                breadth 0 24 = BEYOND
                sun 5 0 1 = 1
                breadth 0 5 = 200000
                sun 5 0 0 = 0
                breadth 0 5 = NONE
                """);
        Script.run("12: as it stands (below 0, too), which is no finding", """
                row 0 0 0 400 0 = 0
                sun 0 1000 1 = 1
                sun 1 1000 1000 = 1
                sun 2 -1000 1000 = 1
                turn 0 12 = 0
                breadth 0 0 = -6924000000
                breadth 0 1 = -2928000000
                turn 0 -9 = 12
                breadth 0 1 = 11313600000
                breadth 0 2 = 0
                found BEYOND = 0
                found NONE = 0
                found KIND = 0
                found FULL = 0
                found SIZE = 0
                """);
        Script.run("12: PLACE and HEIGHT are all one to it", """
                sun 0 1000 1000 = 1
                sun 1 -1000 1 = 1
                row 1 0 -1000 10 -9 = 0
                row 1 10000 1000 10 -9 = 1
                breadth 0 0 = 282840000
                breadth 1 0 = 282840000
                breadth 0 1 = -141278580
                breadth 1 1 = -141278580
                """);
    }

    /** d, COSINE times y less SINE times x, is 1 at step 5 and (178, 83), -1 at step 4 and (294, 107). */
    private static void litIsAboveZero() {
        Script.run("Terms 1: LIT if that is above 0", """
                row 1 0 0 10 5 = 0
                row 1 1000 0 10 4 = 1
                row 1 2000 0 10 12 = 2
                sun 0 178 83 = 1
                sun 1 294 107 = 1
                sun 2 250 433 = 1
                breadth 0 0 = 20
                shade 0 0 = 0
                dark 0 0 = 0
                current 0 0 = 0
                breadth 1 1 = -20
                shade 1 1 = KIND
                dark 1 1 = KIND
                current 1 1 = 0
                breadth 2 2 = 0
                shade 2 2 = KIND
                dark 2 2 = KIND
                current 2 2 = 0
                """);
        Script.run("Terms 2: BACK: a row that is just LIT has SHADE, one that just isn't has none", """
                sun 0 178 83 = 1
                sun 1 294 107 = 1
                row 0 0 0 10 0 = 0
                row 1 1 0 400 -12 = 1
                back 0 = 6
                back 1 = 4
                """);
    }

    private static void promise13Shade() {
        Script.run("13: BEYOND, NONE likewise; KIND: it isn't LIT (asked last)", """
                shade 0 0 = BEYOND
                row 0 0 0 10 0 = 0
                shade -1 0 = BEYOND
                shade 1 0 = BEYOND
                shade MIN 0 = BEYOND
                shade MAX 0 = BEYOND
                shade 0 -1 = BEYOND
                shade 0 24 = BEYOND
                shade 0 MIN = BEYOND
                shade 0 MAX = BEYOND
                shade 0 0 = NONE
                shade 0 23 = NONE
                turn 0 12 = 0
                shade 0 0 = NONE
                sun 0 1000 1 = 1
                sun 23 -1000 1 = 1
                shade 0 0 = KIND
                shade 1 0 = BEYOND
                shade 0 24 = BEYOND
                shade 0 23 = 0
                turn 0 -12 = 12
                shade 0 0 = 0
                shade 0 23 = KIND
                """);
    }

    private static void rowsAhead() {
        Script.run("Terms 1: ROWS AHEAD: of greater numbers, if x is above 0, of lesser ones, if below; none if 0", """
                row 1 0 0 100 0 = 0
                row 1 1 0 100 0 = 1
                row 1 2 0 100 0 = 2
                sun 0 1 500 = 1
                sun 1 0 500 = 1
                sun 2 -1 500 = 1
                shade 0 0 = 990000000
                shade 1 0 = 990000000
                shade 2 0 = 0
                shade 0 1 = 0
                shade 1 1 = 0
                shade 2 1 = 0
                shade 0 2 = 0
                shade 1 2 = 990000000
                shade 2 2 = 990000000
                """);
        Script.run("Terms 1: all rows ahead count, the farthest, too", """
                row 1 0 0 100 0 = 0
                row 1 1 1000 10 0 = 1
                row 1 2 1000 10 0 = 2
                row 1 3 1000 10 0 = 3
                row 1 4 1000 10 0 = 4
                row 1 5 1000 10 0 = 5
                row 1 6 1000 10 0 = 6
                row 1 7 1000 10 0 = 7
                row 1 8 1000 10 0 = 8
                row 1 9 0 10 0 = 9
                sun 0 1000 500 = 1
                sun 1 -1000 500 = 1
                shade 0 0 = 100000000
                dark 0 0 = 2
                shade 9 1 = 100000000
                dark 9 1 = 7
                """);
    }

    /** Row 0 lies from -6601 to 6601; row 1 begins or ends at one point more or less. */
    private static void shadeToThePoint() {
        String[][] others = {
            {"just above", "202 13 177 -4", "0", "0"},
            {"one unit at the upper end", "218 -16 182 -12", "1", "4"},
            {"just below", "188 129 177 -4", "0", "0"},
            {"one unit at the lower end", "172 158 182 -12", "1", "1"},
            {"all of it, to the point", "195 71 23 4", "13202", "7"},
            {"from -2200 up", "280 -6 206 -12", "8801", "6"},
            {"from below up to 2200", "110 148 206 -12", "8801", "3"},
        };
        for (String[] one : others) {
            Script.run("Terms 1: SHADE: " + one[0], """
                    sun 0 195 71 = 1
                    row 1 0 0 23 4 = 0
                    row 1 @row = 1
                    breadth 0 0 = 13202
                    shade 0 0 = @shade
                    dark 0 0 = @dark
                    """.replace("@row", one[1]).replace("@shade", one[2]).replace("@dark", one[3]));
        }
        Script.run("Terms 1: SHADE of the greatest PLACES and WIDTHS", """
                sun 0 1 1000 = 1
                sun 1 -1 1000 = 1
                row 1 9999 0 400 0 = 0
                row 1 10000 0 400 0 = 1
                shade 0 0 = 7980000000
                shade 1 0 = 0
                shade 0 1 = 0
                shade 1 1 = 7980000000
                """);
        // In units of 10000000 row 0 lies from -50 to 50; the others 35 .. 45, -4 .. 6, -43 .. -33.
        Script.run("Terms 1: SHADE: rows ahead that begin from above downwards", """
                sun 0 1000 500 = 1
                row 1 0 0 100 0 = 0
                row 1 40 0 10 0 = 1
                shade 0 0 = 100000000
                dark 0 0 = 4
                row 1 41 20 10 0 = 2
                shade 0 0 = 200000000
                dark 0 0 = 6
                row 1 42 40 10 0 = 3
                shade 0 0 = 300000000
                dark 0 0 = 7
                """);
        // The greatest difference of HEIGHTS is made up for by 4000 of PLACE.
        Script.run("Terms 1: SHADE of the least and the greatest HEIGHT", """
                sun 0 1000 500 = 1
                row 1 0 -1000 10 0 = 0
                row 1 4000 1000 10 0 = 1
                shade 0 0 = 100000000
                dark 0 0 = 7
                drop = 1
                row 1 4010 1000 10 0 = 1
                shade 0 0 = 0
                drop = 1
                row 1 4009 1000 10 0 = 1
                shade 0 0 = 10000000
                dark 0 0 = 4
                drop = 1
                row 1 3990 1000 10 0 = 1
                shade 0 0 = 0
                """);
        Script.run("Terms 1: SHADE of the greatest and the least HEIGHT, sun from the other side", """
                sun 0 -1000 500 = 1
                row 1 0 1000 10 0 = 0
                row 1 4000 -1000 10 0 = 1
                shade 0 0 = 0
                shade 1 0 = 100000000
                dark 1 0 = 7
                """);
        Script.run("Terms 1: SHADE: two that touch within it, two that overlap, one in another", """
                sun 0 1000 500 = 1
                row 1 0 0 100 0 = 0
                row 1 10 0 10 0 = 1
                row 1 20 0 10 0 = 2
                shade 0 0 = 200000000
                drop = 2
                row 1 19 0 10 0 = 2
                shade 0 0 = 190000000
                drop = 2
                row 1 21 0 10 0 = 2
                shade 0 0 = 200000000
                row 1 22 0 30 0 = 3
                shade 0 0 = 320000000
                row 1 23 0 400 0 = 4
                shade 0 0 = 1000000000
                """);
    }

    /** Row 0 lies from -1750 to 1750, so its groups meet at no whole numbers: -583.3 and 583.3. */
    private static void groupsToThePoint() {
        String[][] others = {
            {"from -584 up", "728 256 97 2", "2334", "7"},
            {"from -583 up, by a row that isn't LIT", "480 134 181 9", "2333", "6"},
            {"from 583 up", "268 -30 339 -5", "1167", "6"},
            {"from 584 up", "239 0 327 -2", "1166", "4"},
            {"from below up to -584", "599 305 327 -2", "1166", "1"},
            {"from below up to -583", "570 335 339 -5", "1167", "3"},
            {"from below up to 583, by a row that isn't LIT", "358 171 181 9", "2333", "3"},
            {"from below up to 584", "110 49 97 2", "2334", "7"},
            {"touches from above", "595 96 250 -9", "0", "0"},
            {"touches from below", "243 209 250 -9", "0", "0"},
            {"all, to the point", "838 305 14 4", "3500", "7"},
        };
        for (String[] one : others) {
            Script.run("Terms 1: DARK if some of it (more than a point) is in SHADE: " + one[0], """
                    sun 0 838 305 = 1
                    row 1 0 0 14 4 = 0
                    row 1 @row = 1
                    breadth 0 0 = 3500
                    shade 0 0 = @shade
                    dark 0 0 = @dark
                    """.replace("@row", one[1]).replace("@shade", one[2]).replace("@dark", one[3]));
        }
        Script.run("Terms 1: a row just at a group's ends leaves the others light", """
                sun 0 1000 500 = 1
                sun 1 -1000 500 = 1
                row 1 0 0 30 0 = 0
                row 1 10 0 10 0 = 1
                dark 0 0 = 4
                drop = 1
                row 1 2 1 10 0 = 1
                dark 0 0 = 2
                drop = 1
                row 1 2 6 10 0 = 1
                dark 0 0 = 1
                drop = 1
                row 1 2 7 10 0 = 1
                dark 0 0 = 1
                row 1 12 0 10 0 = 2
                dark 0 0 = 5
                """);
    }

    private static void promise14Dark() {
        Script.run("14: BEYOND, NONE, KIND likewise", """
                dark 0 0 = BEYOND
                row 0 0 0 10 0 = 0
                dark -1 0 = BEYOND
                dark 1 0 = BEYOND
                dark MIN 0 = BEYOND
                dark MAX 0 = BEYOND
                dark 0 -1 = BEYOND
                dark 0 24 = BEYOND
                dark 0 MIN = BEYOND
                dark 0 MAX = BEYOND
                dark 0 0 = NONE
                dark 0 23 = NONE
                turn 0 12 = 0
                dark 0 0 = NONE
                sun 0 1000 1 = 1
                sun 23 -1000 1 = 1
                dark 0 0 = KIND
                dark 1 0 = BEYOND
                dark 0 24 = BEYOND
                dark 0 23 = 0
                turn 0 -12 = 12
                dark 0 0 = 0
                dark 0 23 = KIND
                """);
        Script.run("14: bit 0 that at end 0, wherever the sun is", """
                row 1 0 0 100 0 = 0
                row 1 80 0 100 0 = 1
                sun 0 1000 500 = 1
                sun 1 -1000 500 = 1
                dark 0 0 = 4
                dark 1 0 = 0
                dark 0 1 = 0
                dark 1 1 = 1
                """);
    }
}
