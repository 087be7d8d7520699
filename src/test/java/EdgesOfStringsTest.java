/** Promises 15 to 18 with their terms, sentence by sentence: just inside and just outside. */
final class EdgesOfStringsTest {
    /** Ten rows of widths 10, 20, .. 100 that don't shade one another. */
    private static final String TEN_ROWS = tenRows();

    public static void main(String[] args) {
        promise15String();
        promise16Ceiling();
        promise17Current();
        promise17Cuts();
        promise17Groups();
        promise18Gives();
        promise18TheGreatest();
        bookOfCeilings();
        bookOfLitRowsInStrings();
        Due.end();
    }

    private static String tenRows() {
        StringBuilder text = new StringBuilder();
        for (int row = 0; row < 10; row++) {
            text.append("row 1 ").append(1000 * row).append(" 0 ").append(10 * row + 10)
                    .append(" 0 = ").append(row).append('\n');
        }
        return text.toString();
    }

    private static void promise15String() {
        Script.run("15: BEYOND: there is no such row or string", """
                string 0 -1 = BEYOND
                string 0 0 = BEYOND
                row 0 0 0 10 0 = 0
                string -1 0 = BEYOND
                string 1 0 = BEYOND
                string MIN 0 = BEYOND
                string MAX 0 = BEYOND
                string 1 -1 = BEYOND
                string 0 -2 = BEYOND
                string 0 4 = BEYOND
                string 0 MIN = BEYOND
                string 0 MAX = BEYOND
                string 0 0 = -1
                string 0 4 = BEYOND
                string 0 -2 = BEYOND
                string 0 3 = 0
                about 0 6 = 3
                """);
        Script.run("15: -1: none; out of that in which it was: that", """
                row 1 0 0 10 0 = 0
                string 0 -1 = -1
                string 0 0 = -1
                string 0 1 = 0
                string 0 2 = 1
                string 0 3 = 2
                string 0 3 = 3
                string 0 -1 = 3
                about 0 6 = -1
                string 0 -1 = -1
                """);
        Script.run("Terms 3: a row is in one at most", """
                row 1 0 0 100 0 = 0
                sun 0 0 1000 = 1
                string 0 0 = -1
                gives 0 0 = 2000
                string 0 1 = 0
                gives 0 0 = 0
                gives 1 0 = 2000
                string 0 -1 = 1
                gives 1 0 = 0
                """);
    }

    private static void promise16Ceiling() {
        Script.run("16: BEYOND: string", """
                ceiling -1 5 = BEYOND
                ceiling 4 5 = BEYOND
                ceiling MIN 5 = BEYOND
                ceiling MAX 5 = BEYOND
                ceiling 0 5 = 1000000
                ceiling 3 5 = 1000000
                ceiling -1 6 = BEYOND
                ceiling 4 6 = BEYOND
                ceiling 0 7 = 5
                ceiling 3 8 = 5
                ceiling 1 9 = 1000000
                ceiling 2 9 = 1000000
                """);
        Script.run("16: BEYOND: v", """
                ceiling 0 -1 = BEYOND
                ceiling 0 1000001 = BEYOND
                ceiling 0 MIN = BEYOND
                ceiling 0 MAX = BEYOND
                ceiling 0 0 = 1000000
                ceiling 0 -1 = BEYOND
                ceiling 0 1000001 = BEYOND
                ceiling 0 1000000 = 0
                ceiling 0 1 = 1000000
                """);
    }

    private static void promise17Current() {
        Script.run("17: BEYOND: there is no such row or hour", """
                sun 0 0 500 = 1
                sun 23 0 1000 = 1
                current 0 0 = BEYOND
                row 0 0 0 100 0 = 0
                current -1 0 = BEYOND
                current 1 0 = BEYOND
                current MIN 0 = BEYOND
                current MAX 0 = BEYOND
                current 0 -1 = BEYOND
                current 0 24 = BEYOND
                current 0 MIN = BEYOND
                current 0 MAX = BEYOND
                current 0 0 = 1000
                current 0 23 = 2000
                """);
        Script.run("17: NONE: it is NIGHT (asked behind BEYOND)", """
                row 0 0 0 100 0 = 0
                current 0 5 = NONE
                current 1 5 = BEYOND
                current -1 5 = BEYOND
                current 0 24 = BEYOND
                turn 0 12 = 0
                current 0 5 = NONE
                sun 5 0 1000 = 1
                current 0 5 = 1000
                sun 5 0 0 = 0
                current 0 5 = NONE
                """);
        Script.run("Terms 3: CURRENT: 0 unless it is LIT", """
                row 0 0 0 400 0 = 0
                sun 0 1000 1 = 1
                sun 1 -1000 1000 = 1
                turn 0 12 = 0
                breadth 0 0 = -6924000000
                current 0 0 = 0
                turn 0 -9 = 12
                breadth 0 1 = 0
                current 0 1 = 0
                dust 0 1000 = 0
                current 0 1 = 0
                """);
        Script.run("Terms 3: CURRENT: 0 unless it is LIT, though it was at another hour", """
                row 1 0 0 400 -12 = 0
                string 0 0 = -1
                sun 0 1000 1 = 1
                sun 1 -1000 1 = 1
                current 0 0 = 6932
                current 0 1 = 0
                gives 0 0 = 6932
                gives 0 1 = 0
                hours 1 = 6932
                hours 1 = 0
                book 0 = 0
                book 3 = 0
                """);
        Script.run("17: as it stands", """
                row 0 0 0 100 0 = 0
                sun 0 0 1000 = 1
                current 0 0 = 2000
                turn 0 12 = 0
                current 0 0 = 1000
                turn 0 -12 = 12
                current 0 0 = 1000
                """);
    }

    /** A row of width 10 at step 0 lets a fifth of y through at noon. */
    private static void promise17Cuts() {
        Script.run("Terms 3: CURRENT is cut", """
                row 0 0 0 10 0 = 0
                sun 0 0 1 = 1
                sun 1 0 4 = 1
                sun 2 0 5 = 1
                sun 3 0 9 = 1
                sun 4 0 10 = 1
                sun 5 0 999 = 1
                sun 6 0 1000 = 1
                current 0 0 = 0
                current 0 1 = 0
                current 0 2 = 1
                current 0 3 = 1
                current 0 4 = 2
                current 0 5 = 199
                current 0 6 = 200
                """);
        Script.run("Terms 3: what DUST takes is cut", """
                row 0 0 0 10 0 = 0
                sun 0 0 5 = 1
                sun 1 0 10 = 1
                sun 2 0 1000 = 1
                dust 0 1 = 0
                current 0 0 = 1
                current 0 2 = 200
                dust 0 4 = 1
                current 0 2 = 200
                dust 0 5 = 4
                current 0 2 = 199
                dust 0 499 = 5
                current 0 1 = 2
                dust 0 500 = 499
                current 0 0 = 1
                current 0 1 = 1
                dust 0 999 = 500
                current 0 0 = 1
                current 0 1 = 1
                current 0 2 = 1
                dust 0 1000 = 999
                current 0 0 = 0
                current 0 1 = 0
                current 0 2 = 0
                """);
        Script.run("Terms 3: what is let through is cut before DUST takes of it", """
                row 0 0 0 10 0 = 0
                sun 0 0 9 = 1
                dust 0 600 = 0
                current 0 0 = 1
                """);
        Script.run("Terms 3: CURRENT is cut: 8982.9984", """
                row 1 0 0 400 -9 = 0
                string 0 0 = -1
                sun 0 788 800 = 1
                breadth 0 0 = 8982998400
                current 0 0 = 8982
                hours 1 = 8982
                book 0 = 8982
                """);
        Script.run("Terms 3: CURRENT: the greatest that there is", """
                row 0 0 0 400 0 = 0
                sun 0 1000 1000 = 1
                turn 0 -9 = 0
                current 0 0 = 11313
                """);
    }

    private static void promise17Groups() {
        Script.run("Terms 3: GROUPS that aren't DARK: 3, 2, 1, 0", """
                sun 0 1000 500 = 1
                row 1 0 0 100 0 = 0
                current 0 0 = 1000
                row 1 100 0 100 0 = 1
                dark 0 0 = 0
                current 0 0 = 1000
                drop = 1
                row 1 99 0 100 0 = 1
                dark 0 0 = 4
                current 0 0 = 666
                drop = 1
                row 1 66 0 100 0 = 1
                dark 0 0 = 6
                current 0 0 = 333
                drop = 1
                row 1 33 0 100 0 = 1
                dark 0 0 = 7
                current 0 0 = 0
                """);
    }

    private static void promise18Gives() {
        Script.run("18: BEYOND: string or hour", """
                gives -1 0 = BEYOND
                gives 4 0 = BEYOND
                sun 0 0 1000 = 1
                sun 23 0 500 = 1
                gives -1 0 = BEYOND
                gives 4 0 = BEYOND
                gives MIN 0 = BEYOND
                gives MAX 0 = BEYOND
                gives 0 -1 = BEYOND
                gives 0 24 = BEYOND
                gives 0 MIN = BEYOND
                gives 0 MAX = BEYOND
                row 0 0 0 100 0 = 0
                string 0 0 = -1
                gives 0 0 = 2000
                gives 0 23 = 1000
                gives 3 0 = 0
                string 0 3 = 0
                gives 3 0 = 2000
                gives 3 23 = 1000
                gives 0 0 = 0
                """);
        Script.run("18: NONE: it is NIGHT (asked behind BEYOND)", """
                gives 0 5 = NONE
                gives 4 5 = BEYOND
                gives -1 5 = BEYOND
                gives 0 24 = BEYOND
                sun 5 0 1 = 1
                gives 0 5 = 0
                sun 5 0 0 = 0
                gives 0 5 = NONE
                """);
        Script.run("18: before the CEILING", """
                sun 0 0 1000 = 1
                row 0 0 0 100 0 = 0
                string 0 0 = -1
                ceiling 0 0 = 1000000
                gives 0 0 = 2000
                """);
        Script.run("18: as rows stand", """
                sun 0 0 1000 = 1
                row 0 0 0 100 0 = 0
                string 0 0 = -1
                turn 0 12 = 0
                gives 0 0 = 1000
                dust 0 1000 = 0
                gives 0 0 = 0
                """);
    }

    private static String allInto(int string) {
        StringBuilder text = new StringBuilder();
        for (int row = 0; row < 10; row++) {
            text.append("string ").append(row).append(' ').append(string).append('\n');
        }
        return text.toString();
    }

    private static void promise18TheGreatest() {
        // 200, 400, .. 2000: 5 times 1200, and 6 times 1000, are the greatest.
        Script.run("Terms 3: STRING gives, of as many rows as there may be",
                "sun 0 0 1000 = 1\n" + TEN_ROWS + allInto(2) + """
                gives 2 0 = 6000
                gives 0 0 = 0
                dust 5 500 = 0
                gives 2 0 = 5600
                wash 32 = 1
                gives 2 0 = 6000
                """);
        Script.run("Terms 3: STRING gives: k from 1 on", """
                sun 0 0 1000 = 1
                row 1 0 0 100 0 = 0
                row 1 1000 0 50 0 = 1
                row 1 2000 0 34 0 = 2
                string 0 0 = -1
                gives 0 0 = 2000
                string 1 0 = -1
                gives 0 0 = 2000
                string 2 0 = -1
                gives 0 0 = 2040
                string 0 -1 = 0
                gives 0 0 = 1360
                string 1 -1 = 0
                gives 0 0 = 680
                string 2 -1 = 0
                gives 0 0 = 0
                """);
        Script.run("Terms 3: STRING gives: rows without CURRENT don't lessen it", """
                sun 0 1000 1 = 1
                row 1 0 0 400 12 = 0
                row 1 1000 0 400 -12 = 1
                string 0 1 = -1
                gives 1 0 = 0
                string 1 1 = -1
                gives 1 0 = 6932
                """);
        Script.run("Terms 3: STRING gives: ten that are alike, the greatest that there is", """
                sun 0 1000 1000 = 1
                row 1 0 0 400 -9 = 0
                row 1 1000 0 400 -9 = 1
                row 1 2000 0 400 -9 = 2
                row 1 3000 0 400 -9 = 3
                row 1 4000 0 400 -9 = 4
                row 1 5000 0 400 -9 = 5
                row 1 6000 0 400 -9 = 6
                row 1 7000 0 400 -9 = 7
                row 1 8000 0 400 -9 = 8
                row 1 9000 0 400 -9 = 9
                """ + allInto(3) + """
                gives 3 0 = 113130
                hours 1 = 113130
                book 4 = 0
                """);
    }

    private static void bookOfCeilings() {
        String field = """
                sun 0 0 1000 = 1
                row 1 0 0 100 0 = 0
                string 0 3 = -1
                """;
        Script.run("Terms 3: to CEILINGS: what is just its CEILING isn't cut", field + """
                ceiling 3 2000 = 1000000
                hours 1 = 2000
                book 4 = 0
                book 5 = 2000
                """);
        Script.run("Terms 3: to CEILINGS: one more than its CEILING", field + """
                ceiling 3 1999 = 1000000
                hours 1 = 1999
                book 4 = 1
                book 5 = 1999
                """);
        Script.run("Terms 3: to CEILINGS: a CEILING of 0", field + """
                ceiling 3 0 = 1000000
                hours 1 = 0
                book 0 = 2000
                book 4 = 2000
                book 5 = 0
                """);
        Script.run("Terms 3: a CEILING for each string", field + """
                row 1 1000 0 100 0 = 1
                string 1 0 = -1
                ceiling 0 1500 = 1000000
                ceiling 3 500 = 1000000
                ceiling 1 0 = 1000000
                ceiling 2 0 = 1000000
                hours 1 = 2000
                book 4 = 2000
                """);
    }

    private static void bookOfLitRowsInStrings() {
        Script.run("Terms 3: LIGHT: over rows in strings", """
                sun 0 0 1000 = 1
                row 1 0 0 100 0 = 0
                row 1 1000 0 50 0 = 1
                dust 1 500 = 0
                string 0 0 = -1
                hours 1 = 2000
                book 0 = 2000
                book 2 = 0
                string 1 3 = -1
                hours 24 = 2500
                book 0 = 3000
                book 2 = 500
                all 0 = 5000
                """);
        Script.run("Terms 3: LIGHT: no rows, or none in strings: all 0", """
                sun 0 0 1000 = 1
                sun 1 0 1000 = 1
                hours 1 = 0
                book 0 = 0
                row 1 0 0 100 0 = 0
                hours 1 = 0
                book 0 = 0
                book 1 = 0
                book 2 = 0
                book 3 = 0
                book 4 = 0
                book 5 = 0
                """);
        Script.run("Terms 3: LIGHT: rows that are LIT, BREADTH 0 and below counting nothing", """
                sun 0 250 433 = 1
                sun 1 1000 1 = 1
                row 1 0 0 400 12 = 0
                row 1 5000 0 10 0 = 1
                string 0 0 = -1
                string 1 0 = -1
                breadth 0 0 = 0
                hours 1 = 86
                book 0 = 86
                book 1 = 0
                breadth 0 1 = -6924000000
                hours 1 = 0
                book 0 = 0
                book 1 = 0
                book 3 = 0
                """);
        // A row of width 11 at noon lets 1.54 through if y is 7.
        Script.run("Terms 3: LIGHT: each cut", """
                sun 0 0 7 = 1
                row 1 0 0 11 0 = 0
                row 1 1000 0 11 0 = 1
                row 1 2000 0 11 0 = 2
                string 0 0 = -1
                string 1 1 = -1
                string 2 1 = -1
                hours 1 = 3
                book 0 = 3
                book 3 = 0
                """);
        Script.run("Terms 3: lost to SHADE, all of it; a row in no string shades as well", """
                sun 0 1000 500 = 1
                row 1 0 0 100 0 = 0
                row 1 1 0 400 0 = 1
                string 0 0 = -1
                dust 0 500 = 0
                hours 1 = 0
                book 0 = 1000
                book 1 = 1000
                book 2 = 0
                book 3 = 0
                book 5 = 0
                """);
        Script.run("Terms 3: lost to DUST, all of it", """
                sun 0 0 1000 = 1
                row 1 0 0 100 0 = 0
                string 0 0 = -1
                dust 0 1000 = 0
                hours 1 = 0
                book 0 = 2000
                book 1 = 0
                book 2 = 2000
                book 3 = 0
                book 4 = 0
                book 5 = 0
                """);
        Script.run("Terms 3: At NIGHT all 0, whatever x was told with it", """
                row 1 0 0 400 -12 = 0
                row 1 5000 0 400 12 = 1
                string 0 0 = -1
                string 1 1 = -1
                sun 0 1000 0 = 0
                sun 1 -1000 0 = 0
                hours 1 = 0
                book 0 = 0
                book 5 = 0
                hours 1 = 0
                book 0 = 0
                book 5 = 0
                """);
        Script.run("Terms 3: At NIGHT all 0", """
                row 1 0 0 100 0 = 0
                string 0 0 = -1
                sun 1 0 1000 = 1
                hours 1 = 0
                book 0 = 0
                hours 1 = 2000
                book 0 = 2000
                hours 1 = 0
                book 0 = 0
                book 1 = 0
                book 2 = 0
                book 3 = 0
                book 4 = 0
                book 5 = 0
                all 0 = 2000
                all 5 = 2000
                """);
    }
}
