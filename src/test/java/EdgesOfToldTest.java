/** Promises 31 to 33 and the findings, sentence by sentence: just inside and just outside. */
final class EdgesOfToldTest {
    /** One hour whose book is 2000, 667, 43, 300, 90, 900. */
    private static final String BOOKED = """
            row 1 0 0 100 0 = 0
            row 1 50 0 100 0 = 1
            dust 0 100 = 0
            dust 1 10 = 0
            string 0 0 = -1
            string 1 0 = -1
            ceiling 0 900 = 1000000
            sun 0 1000 500 = 1
            hour = 0
            """;
    private static final int[] BOOK = {2000, 667, 43, 300, 90, 900};

    public static void main(String[] args) {
        findingsAreTheseNumbers();
        promise31Tell();
        promise32Check();
        promise32CheckOfNone();
        promise32EachNumber();
        promise33Found();
        promise33EachActIsCounted();
        promise33CountsToTheLastCall();
        Due.end();
    }

    private static void findingsAreTheseNumbers() {
        Script.run("Terms: FINDINGS", """
                about 0 0 = -1000000001
                drop = -1000000002
                back 0 = -1000000003
                row 0 5 0 10 0 = 0
                row 0 5 0 10 0 = -1000000005
                72 times tell 0
                tell 0 = -1000000004
                """);
        Script.run("Terms: FINDINGS (of longs, too)", """
                breadth 0 0 = -1000000001
                shade 0 0 = -1000000001
                hours 0 = -1000000001
                all 6 = -1000000001
                worth 0 0 = -1000000001
                book 0 = -1000000002
                hour = 0
                book 8 = -1000000001
                row 0 0 0 10 0 = 0
                breadth 0 0 = -1000000002
                shade 0 0 = -1000000002
                sun 0 1000 1 = 1
                turn 0 12 = 0
                shade 0 0 = -1000000003
                """);
    }

    private static void promise31Tell() {
        Script.run("31: One more number comes to the tape: how many", """
                tell 0 = 1
                tell MIN = 2
                tell MAX = 3
                tell -1 = 4
                tell -1000000001 = 5
                tell 0 = 6
                """);
        StringBuilder seventyTwo = new StringBuilder();
        for (int told = 1; told <= 72; told++) {
            seventyTwo.append("tell ").append(told % 3 == 1 ? told / 3 : told).append(" = ")
                    .append(told).append('\n');
        }
        Script.run("31: FULL: 72 are there", seventyTwo + """
                tell 0 = FULL
                tell MAX = FULL
                found FULL = 2
                suns = 24
                ideal 0 = -7
                ideal 23 = -9
                tell 0 = 1
                """);
        Script.run("31: FULL: 72 are there again, once it was emptied", """
                72 times tell 1
                tell 1 = FULL
                check = NONE
                tell 1 = 1
                70 times tell 1
                tell 1 = 72
                tell 1 = FULL
                """);
        Script.run("31: a tape of 72 that isn't a sheet", """
                71 times tell 1
                tell 1001 = 72
                suns = BEYOND
                tell 1 = 1
                """);
    }

    private static String tell(int... numbers) {
        StringBuilder text = new StringBuilder();
        for (int number : numbers) {
            text.append("tell ").append(number).append('\n');
        }
        return text.toString();
    }

    private static void promise32Check() {
        Script.run("32: 0 if they are (it is empty then)", BOOKED + tell(BOOK) + """
                check = 0
                tell 0 = 1
                """);
        Script.run("32: 1 and k for the first that is missing: nothing was told", BOOKED + """
                check = 1
                check = 1
                tell 0 = 1
                """);
        Script.run("32: 99 if more were told: one more", BOOKED + tell(BOOK) + """
                tell 0 = 7
                check = 99
                tell 0 = 1
                """);
        Script.run("32: 99 if more were told: as many as there may be", BOOKED + tell(BOOK) + """
                66 times tell 900
                tell 900 = FULL
                check = 99
                tell 0 = 1
                """);
        Script.run("32: one that isn't is told ahead of more", BOOKED
                + tell(2000, 667, 43, 300, 90, 901, 0) + """
                check = 6
                """);
        Script.run("32: the first that isn't, of two", BOOKED + tell(2000, 668, 43, 301, 90, 900) + """
                check = 2
                """);
        Script.run("32: the first that isn't, ahead of missing ones", BOOKED + tell(2000, 667, 44) + """
                check = 3
                """);
        Script.run("32: of the latest hour", BOOKED + """
                hour = 0
                """ + tell(0, 0, 0, 0, 0, 0) + """
                check = 0
                """ + tell(BOOK) + """
                check = 1
                """);
        Script.run("32: an hour that gave nothing", """
                hour = 0
                check = 1
                """ + tell(0, 0, 0, 0, 0) + """
                check = 6
                """ + tell(0, 0, 0, 0, 0, 0) + """
                check = 0
                """ + tell(0, 0, 0, 0, 0, 0, 0) + """
                check = 99
                tell 0 = 1
                """);
    }

    private static void promise32CheckOfNone() {
        Script.run("32: NONE: no hour went (the tape is empty, too)", """
                check = NONE
                tell 1 = 1
                tell 2 = 2
                check = NONE
                tell 3 = 1
                check = NONE
                found NONE = 3
                hour = 0
                check = 1
                found NONE = 3
                """);
        Script.run("32: NONE, with a tape that would be right", tell(0, 0, 0, 0, 0, 0) + """
                check = NONE
                suns = 0
                """);
    }

    private static void promise32EachNumber() {
        for (int k = 0; k < 6; k++) {
            int[] more = BOOK.clone();
            more[k]++;
            Script.run("32: 1 and k for the first that isn't: one more at " + k,
                    BOOKED + tell(more) + "check = " + (1 + k) + "\ntell 0 = 1\n");
            int[] less = BOOK.clone();
            less[k]--;
            Script.run("32: 1 and k for the first that isn't: one less at " + k,
                    BOOKED + tell(less) + "check = " + (1 + k) + "\ntell 0 = 1\n");
            int[] missing = java.util.Arrays.copyOf(BOOK, k);
            Script.run("32: 1 and k for the first that is missing: " + k,
                    BOOKED + tell(missing) + "check = " + (1 + k) + "\ntell 0 = 1\n");
        }
    }

    private static void promise33Found() {
        Script.run("33: (-1000000001 .. -1000000005); nothing was found yet", """
                found -1000000001 = 0
                found -1000000002 = 0
                found -1000000003 = 0
                found -1000000004 = 0
                found -1000000005 = 0
                """);
        Script.run("33: BEYOND: another number (counted, too)", """
                found -1000000000 = BEYOND
                found -1000000001 = 1
                found -1000000006 = BEYOND
                found -1000000001 = 2
                found 0 = BEYOND
                found 1 = BEYOND
                found -1 = BEYOND
                found MIN = BEYOND
                found MAX = BEYOND
                found -999999999 = BEYOND
                found -1000000001 = 8
                found -1000000002 = 0
                found -1000000003 = 0
                found -1000000004 = 0
                found -1000000005 = 0
                """);
    }

    private static void promise33EachActIsCounted() {
        Script.run("33: How many acts have answered a finding: one of each kind", """
                drop = NONE
                back 0 = KIND
                row 0 5 0 10 0 = 0
                row 0 5 0 10 0 = SIZE
                turn 0 13 = BEYOND
                72 times tell 0
                tell 0 = FULL
                found BEYOND = 1
                found NONE = 1
                found KIND = 1
                found FULL = 1
                found SIZE = 1
                """);
        Script.run("33: two ways to be BEYOND are one act", """
                row -1 -1 1001 9 13 = BEYOND
                found BEYOND = 1
                turn -1 13 = BEYOND
                found BEYOND = 2
                sun 24 1001 1001 = BEYOND
                found BEYOND = 3
                """);
        Script.run("33: what an hour meets inside is no act", """
                row 0 0 0 10 0 = 0
                row 1 1 0 400 0 = 1
                sun 0 500 900 = 1
                hours 48
                found BEYOND = 0
                found NONE = 0
                found KIND = 0
                """);
    }

    private static void promise33CountsToTheLastCall() {
        Calls x = new Calls();
        for (int made = 0; made < 510; made++) {
            Due.is("[33] drop", x.ask("drop"), Due.NONE);
        }
        Due.is("[33] the 511th call", x.ask("found", Due.NONE), 510);
        Due.is("[33] the 512th call", x.ask("found", Due.BEYOND), 0);
    }
}
