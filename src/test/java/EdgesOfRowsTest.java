/** Promises 1 to 7, sentence by sentence: what lies just inside and just outside. */
final class EdgesOfRowsTest {
    private static final String TEN_ROWS = """
            row 0 0 0 100 0 = 0
            row 1 50 0 100 -12 = 1
            row 2 100 0 100 0 = 2
            row 0 150 0 100 0 = 3
            row 1 200 0 100 12 = 4
            row 2 250 0 100 0 = 5
            row 0 300 0 100 0 = 6
            row 0 350 0 100 0 = 7
            row 0 400 0 100 0 = 8
            row 0 500 0 100 0 = 9
            """;

    public static void main(String[] args) {
        promise1NewObject();
        promise2KindAndStep();
        promise2Measures();
        promise2Size();
        promise2Full();
        promise2AtFirst();
        promise3Drop();
        promise4About();
        promise5As();
        promise6Turn();
        promise7Dust();
        Due.end();
    }

    private static void promise1NewObject() {
        Script.run("1: No rows", """
                drop = NONE
                about 0 0 = BEYOND
                as 0 0 = BEYOND
                turn 0 0 = BEYOND
                dust 0 0 = BEYOND
                string 0 0 = BEYOND
                breadth 0 0 = BEYOND
                shade 0 0 = BEYOND
                dark 0 0 = BEYOND
                current 0 0 = BEYOND
                storm 1000 = 0
                wash 0 = 0
                wash 1 = BEYOND
                plan 1 0 = 0
                worth 1 0 = 0
                row 0 0 0 10 0 = 0
                """);
        for (int hour = 0; hour < 24; hour++) {
            Script.run("1: NIGHT always, hour " + hour, """
                    ideal @ = NONE
                    back @ = KIND
                    gives 0 @ = NONE
                    row 0 0 0 10 0 = 0
                    breadth 0 @ = NONE
                    shade 0 @ = NONE
                    dark 0 @ = NONE
                    current 0 @ = NONE
                    """.replace("@", "" + hour));
        }
        Script.run("1: wind LOST (at each hour: 22 more of STOW behind the third)", """
                hour = 0
                hour = 0
                22 times hour = 2
                """);
        Script.run("1: nothing is booked", """
                book 0 = NONE
                book 1 = NONE
                book 2 = NONE
                book 3 = NONE
                book 4 = NONE
                book 5 = NONE
                book 6 = NONE
                book 7 = NONE
                all 0 = 0
                all 1 = 0
                all 2 = 0
                all 3 = 0
                all 4 = 0
                all 5 = 0
                check = NONE
                """);
        Script.run("1: the next hour is 0", """
                next = 0
                hour = 0
                book 7 = 0
                next = 1
                """);
    }

    private static void promise2KindAndStep() {
        Script.run("2: BEYOND: kind isn't 0 .. 2", """
                row -1 5 0 100 0 = BEYOND
                row 3 5 0 100 0 = BEYOND
                row MIN 5 0 100 0 = BEYOND
                row MAX 5 0 100 0 = BEYOND
                row 0 5 0 100 0 = 0
                row 1 6 0 100 0 = 1
                row 2 7 0 100 0 = 2
                """);
        Script.run("2: BEYOND: step (of STUCK) isn't as told", """
                row 1 5 0 100 -13 = BEYOND
                row 1 5 0 100 13 = BEYOND
                row 1 5 0 100 MIN = BEYOND
                row 1 5 0 100 MAX = BEYOND
                row 1 5 0 100 -12 = 0
                row 1 6 0 100 12 = 1
                about 0 5 = -12
                about 1 5 = 12
                """);
        Script.run("2: step (of another) isn't looked at", """
                row 0 5 0 100 -13 = 0
                row 0 6 0 100 13 = 1
                row 0 7 0 100 MIN = 2
                row 2 8 0 100 -13 = 3
                row 2 9 0 100 13 = 4
                row 2 10 0 100 MAX = 5
                row 0 11 0 100 12 = 6
                row 2 12 0 100 -12 = 7
                about 0 5 = 0
                about 3 5 = 0
                about 6 5 = 0
                about 7 5 = 0
                """);
    }

    private static void promise2Measures() {
        Script.run("2: BEYOND: height isn't as told", """
                row 0 5 -1001 100 0 = BEYOND
                row 0 5 1001 100 0 = BEYOND
                row 0 5 MIN 100 0 = BEYOND
                row 0 5 MAX 100 0 = BEYOND
                row 0 5 -1000 100 0 = 0
                row 0 6 1000 100 0 = 1
                about 0 2 = -1000
                about 1 2 = 1000
                """);
        Script.run("2: BEYOND: width isn't as told", """
                row 0 5 0 9 0 = BEYOND
                row 0 5 0 401 0 = BEYOND
                row 0 5 0 0 0 = BEYOND
                row 0 5 0 MIN 0 = BEYOND
                row 0 5 0 MAX 0 = BEYOND
                row 0 5 0 10 0 = 0
                row 0 6 0 400 0 = 1
                about 0 3 = 10
                about 1 3 = 400
                """);
        Script.run("2: BEYOND: place isn't 0 .. 10000", """
                row 0 -1 0 100 0 = BEYOND
                row 0 10001 0 100 0 = BEYOND
                row 0 MIN 0 100 0 = BEYOND
                row 0 MAX 0 100 0 = BEYOND
                row 0 0 0 100 0 = 0
                row 0 10000 0 100 0 = 1
                about 0 1 = 0
                about 1 1 = 10000
                """);
    }

    private static void promise2Size() {
        Script.run("2: SIZE: place isn't above that of the row ahead", """
                row 0 5 0 100 0 = 0
                row 0 5 0 100 0 = SIZE
                row 0 4 0 100 0 = SIZE
                row 0 0 0 100 0 = SIZE
                row 0 6 0 100 0 = 1
                row 0 6 0 100 0 = SIZE
                row 0 5 0 100 0 = SIZE
                drop = 1
                row 0 5 0 100 0 = SIZE
                row 0 6 0 100 0 = 1
                drop = 1
                drop = 0
                row 0 0 0 100 0 = 0
                """);
        Script.run("2: SIZE: nothing is above the last place", """
                row 0 10000 0 100 0 = 0
                row 0 10000 0 100 0 = SIZE
                row 0 9999 0 100 0 = SIZE
                row 0 10001 0 100 0 = BEYOND
                """);
        Script.run("2: BEYOND is asked ahead of SIZE", """
                row 0 5 0 100 0 = 0
                row 3 5 0 100 0 = BEYOND
                row -1 4 0 100 0 = BEYOND
                row 0 5 1001 100 0 = BEYOND
                row 0 5 -1001 100 0 = BEYOND
                row 0 5 0 9 0 = BEYOND
                row 0 5 0 401 0 = BEYOND
                row 1 5 0 100 13 = BEYOND
                row 1 5 0 100 -13 = BEYOND
                row 0 -1 0 100 0 = BEYOND
                """);
    }

    private static void promise2Full() {
        Script.run("2: FULL: at most 10 rows, asked behind BEYOND and SIZE", TEN_ROWS + """
                row 0 501 0 100 0 = FULL
                row 0 10000 0 400 99 = FULL
                row 0 500 0 100 0 = SIZE
                row 0 0 0 100 0 = SIZE
                row 3 501 0 100 0 = BEYOND
                row 0 501 0 9 0 = BEYOND
                row 0 10001 0 100 0 = BEYOND
                row 0 -1 0 100 0 = BEYOND
                row 1 501 0 100 13 = BEYOND
                row 1 500 0 100 -13 = BEYOND
                drop = 9
                row 0 401 0 100 0 = 9
                row 0 402 0 100 0 = FULL
                """);
    }

    private static void promise2AtFirst() {
        Script.run("Terms: DUST 0 at first, STEP 0 at first (a STUCK one's as told); no string", """
                row 0 1 -7 11 5 = 0
                row 1 2 8 12 5 = 1
                row 2 3 9 13 5 = 2
                about 0 4 = 0
                about 1 4 = 0
                about 2 4 = 0
                about 0 5 = 0
                about 1 5 = 5
                about 2 5 = 0
                about 0 6 = -1
                about 1 6 = -1
                about 2 6 = -1
                """);
        Script.run("2: a new row has nothing of one that was dropped", """
                row 1 1 -7 11 5 = 0
                dust 0 1000 = 0
                string 0 3 = -1
                drop = 0
                row 0 2 8 12 7 = 0
                about 0 0 = 0
                about 0 1 = 2
                about 0 2 = 8
                about 0 3 = 12
                about 0 4 = 0
                about 0 5 = 0
                about 0 6 = -1
                """);
    }

    private static void promise3Drop() {
        Script.run("3: how many are left; NONE: there is none", TEN_ROWS + """
                drop = 9
                drop = 8
                drop = 7
                drop = 6
                drop = 5
                drop = 4
                drop = 3
                drop = 2
                drop = 1
                about 0 3 = 100
                drop = 0
                about 0 3 = BEYOND
                drop = NONE
                drop = NONE
                found NONE = 2
                """);
        Script.run("3: the last row is no more", """
                row 0 1 0 100 0 = 0
                row 0 2 0 200 0 = 1
                dust 1 500 = 0
                sun 0 1 1000 = 1
                shade 0 0 = 2000000000
                drop = 1
                about 1 0 = BEYOND
                about 0 3 = 100
                turn 1 0 = BEYOND
                dust 1 0 = BEYOND
                string 1 0 = BEYOND
                breadth 1 0 = BEYOND
                wash 2 = BEYOND
                storm 0 = 0
                shade 0 0 = 0
                """);
        Script.run("3: it is in no string then", """
                row 0 1 0 100 0 = 0
                row 0 5000 0 100 0 = 1
                string 0 3 = -1
                string 1 3 = -1
                sun 0 0 1000 = 1
                gives 3 0 = 4000
                drop = 1
                gives 3 0 = 2000
                row 0 5000 0 100 0 = 1
                about 1 6 = -1
                gives 3 0 = 2000
                string 1 3 = -1
                gives 3 0 = 4000
                """);
    }

    private static void promise4About() {
        Script.run("4: Of a row: 0 .. 6; BEYOND: another what", """
                row 1 321 -45 67 -8 = 0
                dust 0 90 = 0
                string 0 3 = -1
                about 0 -1 = BEYOND
                about 0 0 = 1
                about 0 1 = 321
                about 0 2 = -45
                about 0 3 = 67
                about 0 4 = 90
                about 0 5 = -8
                about 0 6 = 3
                about 0 7 = BEYOND
                about 0 MIN = BEYOND
                about 0 MAX = BEYOND
                """);
        Script.run("4: BEYOND: there is no such row", """
                row 2 1 0 10 0 = 0
                row 0 2 0 20 0 = 1
                about -1 3 = BEYOND
                about 0 3 = 10
                about 1 3 = 20
                about 2 3 = BEYOND
                about MIN 3 = BEYOND
                about MAX 3 = BEYOND
                """);
        Script.run("4: as many rows as there may be", TEN_ROWS + """
                about 9 1 = 500
                about 10 1 = BEYOND
                """);
    }

    private static void promise5As() {
        Script.run("5: BEYOND: there is no such row, or kind", """
                as 0 0 = BEYOND
                row 0 1 0 10 0 = 0
                as -1 0 = BEYOND
                as 1 0 = BEYOND
                as MIN 0 = BEYOND
                as MAX 0 = BEYOND
                as 0 -1 = BEYOND
                as 0 3 = BEYOND
                as 0 MIN = BEYOND
                as 0 MAX = BEYOND
                as 1 1 = BEYOND
                as 0 0 = 0
                """);
        Script.run("5: KIND: it isn't of that kind, nor of one under it", """
                row 0 1 0 10 0 = 0
                row 1 2 0 10 7 = 1
                row 2 3 0 10 0 = 2
                turn 0 -3 = 0
                turn 2 4 = 0
                as 0 0 = -3
                as 0 1 = KIND
                as 0 2 = KIND
                as 1 0 = 7
                as 1 1 = 7
                as 1 2 = KIND
                as 2 0 = 4
                as 2 1 = KIND
                as 2 2 = 4
                """);
    }

    private static void promise6Turn() {
        Script.run("6: BEYOND: there is no such row or step", """
                turn 0 0 = BEYOND
                row 0 1 0 10 0 = 0
                turn -1 0 = BEYOND
                turn 1 0 = BEYOND
                turn MIN 0 = BEYOND
                turn MAX 0 = BEYOND
                turn 0 -13 = BEYOND
                turn 0 13 = BEYOND
                turn 0 MIN = BEYOND
                turn 0 MAX = BEYOND
                turn 0 -12 = 0
                turn 0 12 = -12
                turn 0 12 = 12
                about 0 5 = 12
                """);
        Script.run("6: KIND: it is STUCK (asked behind BEYOND)", """
                row 1 1 0 10 7 = 0
                row 2 2 0 10 7 = 1
                turn 0 7 = KIND
                turn 0 -12 = KIND
                turn 0 12 = KIND
                turn 0 13 = BEYOND
                turn 0 -13 = BEYOND
                turn 2 7 = BEYOND
                turn 1 -12 = 0
                turn 1 12 = -12
                about 0 5 = 7
                about 1 5 = 12
                """);
    }

    private static void promise7Dust() {
        Script.run("7: BEYOND", """
                dust 0 0 = BEYOND
                row 1 1 0 10 7 = 0
                dust -1 0 = BEYOND
                dust 1 0 = BEYOND
                dust MIN 0 = BEYOND
                dust MAX 0 = BEYOND
                dust 0 -1 = BEYOND
                dust 0 1001 = BEYOND
                dust 0 MIN = BEYOND
                dust 0 MAX = BEYOND
                dust 0 1000 = 0
                dust 0 0 = 1000
                dust 0 999 = 0
                about 0 4 = 999
                """);
    }
}
