/** Promises 27 to 30, sentence by sentence: what lies just inside and just outside. */
final class EdgesOfDustTest {
    public static void main(String[] args) {
        promise27And28Beyond();
        promise27And28Sets();
        promise27And28Ways();
        promise27And28Ties();
        promise29Wash();
        promise30Storm();
        Due.end();
    }

    /** Rows of width 10 with these DUSTS: each thousandth is worth 10 a day. */
    private static String rows(int... dusts) {
        StringBuilder text = new StringBuilder();
        for (int row = 0; row < dusts.length; row++) {
            text.append("row ").append(row % 3).append(' ').append(row).append(" 0 10 0\n")
                    .append("dust ").append(row).append(' ').append(dusts[row]).append('\n');
        }
        return text.toString();
    }

    private static void promise27And28Beyond() {
        for (String call : new String[] {"plan", "worth"}) {
            Script.run((call.equals("plan") ? "27" : "28") + ": BEYOND: days isn't 1 .. 100", """
                    @ 0 0 = BEYOND
                    @ 101 0 = BEYOND
                    @ -1 0 = BEYOND
                    @ MIN 0 = BEYOND
                    @ MAX 0 = BEYOND
                    @ 1 0 = 0
                    @ 100 0 = 0
                    row 0 0 0 10 0 = 0
                    dust 0 1000 = 0
                    @ 0 0 = BEYOND
                    @ 101 0 = BEYOND
                    """.replace("@", call));
            Script.run((call.equals("plan") ? "27" : "28") + ": BEYOND: price isn't 0 .. 1000000", """
                    @ 1 -1 = BEYOND
                    @ 1 1000001 = BEYOND
                    @ 1 MIN = BEYOND
                    @ 1 MAX = BEYOND
                    @ 1 0 = 0
                    @ 1 1000000 = 0
                    row 0 0 0 10 0 = 0
                    dust 0 1000 = 0
                    @ 1 -1 = BEYOND
                    @ 100 1000001 = BEYOND
                    """.replace("@", call));
        }
        Script.run("27, 28: the first and the last days and prices", """
                row 0 0 0 400 0 = 0
                dust 0 1000 = 0
                plan 1 0 = 1
                worth 1 0 = 399990
                plan 100 0 = 1
                worth 100 0 = 39999990
                plan 100 1000000 = 1
                worth 100 1000000 = 38999990
                plan 1 1000000 = 0
                worth 1 1000000 = 0
                """);
    }

    private static void promise27And28Sets() {
        Script.run("27, 28: no rows: the empty set", """
                plan 1 0 = 0
                worth 1 0 = 0
                plan 100 1000000 = 0
                worth 100 1000000 = 0
                """);
        Script.run("27, 28: no DUST: the empty set", rows(0, 0, 0) + """
                plan 100 0 = 0
                worth 100 0 = 0
                """);
        Script.run("27, 28: one row that is worth just nothing, and just 1", rows(2) + """
                plan 1 10 = 0
                worth 1 10 = 0
                plan 1 9 = 1
                worth 1 9 = 1
                plan 1 11 = 0
                worth 1 11 = 0
                """);
        Script.run("27, 28: as many rows as there may be", rows(9, 9, 9, 9, 9, 9, 9, 9, 9, 9) + """
                plan 1 0 = 1023
                worth 1 0 = 800
                plan 1 79 = 1023
                worth 1 79 = 10
                plan 1 80 = 0
                worth 1 80 = 0
                """);
        Script.run("27, 28: two that lie side by side, not the first", rows(0, 9, 9, 0) + """
                plan 1 0 = 6
                worth 1 0 = 160
                plan 1 80 = 0
                plan 1 79 = 6
                worth 1 79 = 2
                """);
        Script.run("27, 28: three that aren't the first", rows(0, 0, 9, 1, 9) + """
                plan 1 9 = 28
                worth 1 9 = 133
                plan 1 10 = 20
                worth 1 10 = 130
                """);
        Script.run("28: That greatest value, without a plan that was asked ahead", rows(9, 8) + """
                worth 1 0 = 150
                worth 2 0 = 320
                plan 1 70 = 1
                worth 1 0 = 150
                plan 1 1000 = 0
                worth 1 70 = 10
                """);
        Script.run("27, 28: only the last one", rows(0, 0, 0, 0, 0, 0, 0, 0, 0, 9) + """
                plan 1 0 = 512
                worth 1 0 = 80
                """);
        Script.run("27, 28: only the first one", rows(9, 0, 0, 0, 0, 0, 0, 0, 0, 0) + """
                plan 1 0 = 1
                worth 1 0 = 80
                """);
        Script.run("27: washed now: nothing is washed by it", rows(9, 8) + """
                plan 1 0 = 3
                worth 1 0 = 150
                about 0 4 = 9
                about 1 4 = 8
                """);
    }

    private static void promise27And28Ways() {
        // The way of both is 100, the way of one 10: the lesser one must gain more than 90.
        Script.run("27, 28: the way from the first to the last, both counted",
                rows(50, 0, 0, 0, 0, 0, 0, 0, 0, 9) + """
                plan 1 0 = 1
                worth 1 0 = 490
                dust 9 10 = 9
                plan 1 0 = 513
                worth 1 0 = 500
                """);
        Script.run("27, 28: on the way a row costs no more way", rows(50, 1, 0, 50) + """
                plan 1 0 = 11
                worth 1 0 = 970
                plan 1 9 = 11
                worth 1 9 = 943
                plan 1 10 = 9
                worth 1 10 = 940
                """);
        Script.run("27, 28: WIDTH and days", """
                row 1 0 0 10 0 = 0
                row 2 1 0 400 0 = 1
                dust 0 3 = 0
                dust 1 1 = 0
                plan 1 25 = 2
                worth 1 25 = 365
                plan 2 25 = 3
                worth 2 25 = 790
                """);
    }

    private static void promise27And28Ties() {
        Script.run("27: of several the least as bits: the empty one", rows(1, 1) + """
                plan 1 0 = 0
                worth 1 0 = 0
                """);
        Script.run("27: of several the least as bits: two single ones", rows(5, 0, 5) + """
                plan 1 30 = 1
                worth 1 30 = 10
                """);
        Script.run("27: of several the least as bits: the lesser set", rows(5, 1) + """
                plan 1 0 = 1
                worth 1 0 = 40
                """);
        Script.run("27: of several the least as bits: the last one alone, and with one ahead", rows(1, 5) + """
                plan 1 0 = 2
                worth 1 0 = 40
                """);
        Script.run("27: of several the least as bits: a row between that gains nothing", rows(9, 3, 9) + """
                plan 1 30 = 5
                worth 1 30 = 90
                plan 1 29 = 7
                worth 1 29 = 93
                """);
        Script.run("27: of several the least as bits: a pair, another pair, and both", rows(5, 5, 0, 0, 5, 5) + """
                plan 1 29 = 51
                worth 1 29 = 24
                plan 1 30 = 3
                worth 1 30 = 20
                """);
    }

    private static void promise29Wash() {
        Script.run("29: BEYOND: there are others than rows: no rows", """
                wash 0 = 0
                wash 1 = BEYOND
                wash -1 = BEYOND
                wash MIN = BEYOND
                wash MAX = BEYOND
                """);
        Script.run("29: BEYOND: there are others than rows: three rows", rows(1, 1000, 0) + """
                wash 8 = BEYOND
                wash 9 = BEYOND
                wash 15 = BEYOND
                wash -1 = BEYOND
                wash -8 = BEYOND
                wash MIN = BEYOND
                wash MAX = BEYOND
                about 0 4 = 1
                wash 7 = 2
                wash 7 = 0
                """);
        Script.run("29: BEYOND: there are others than rows: ten rows",
                rows(1, 2, 3, 4, 5, 6, 7, 8, 9, 10) + """
                wash 1024 = BEYOND
                wash 2047 = BEYOND
                wash -1024 = BEYOND
                wash 512 = 1
                about 9 4 = 0
                about 8 4 = 9
                wash 1023 = 9
                storm 0 = 0
                wash 1023 = 0
                """);
        Script.run("29: a set of none", rows(1, 2) + """
                wash 0 = 0
                storm 0 = 3
                """);
        Script.run("29: how many lost some; the others stay", rows(1, 0, 1000, 4) + """
                wash 6 = 1
                about 0 4 = 1
                about 1 4 = 0
                about 2 4 = 0
                about 3 4 = 4
                wash 1 = 1
                wash 1 = 0
                wash 8 = 1
                """);
    }

    private static void promise30Storm() {
        Script.run("30: BEYOND: v isn't 0 .. 1000", rows(0, 500) + """
                storm -1 = BEYOND
                storm 1001 = BEYOND
                storm MIN = BEYOND
                storm MAX = BEYOND
                storm 0 = 500
                storm 1 = 502
                storm 1000 = 2000
                storm 1001 = BEYOND
                storm -1 = BEYOND
                storm 1000 = 2000
                """);
        Script.run("30: 1000 at most", rows(998, 999, 1000, 0) + """
                storm 1 = 3000
                about 0 4 = 999
                about 1 4 = 1000
                about 2 4 = 1000
                about 3 4 = 1
                storm 1 = 3002
                about 0 4 = 1000
                storm 998 = 4000
                about 3 4 = 1000
                """);
        Script.run("30: no rows", """
                storm 0 = 0
                storm 1000 = 0
                row 0 0 0 10 0 = 0
                about 0 4 = 0
                """);
        Script.run("30: the sum of all DUST, of as many rows as there may be",
                rows(0, 0, 0, 0, 0, 0, 0, 0, 0, 1) + """
                storm 0 = 1
                storm 999 = 9991
                storm 1000 = 10000
                """);
    }
}
