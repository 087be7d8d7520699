/** Promises 19 to 26 with their terms, sentence by sentence: just inside and just outside. */
final class EdgesOfHoursTest {
    /** A reading of 0 at each hour, so that the field is at WORK. */
    private static final String CALM = calm();

    public static void main(String[] args) {
        promise19Wind();
        promise20Limit();
        stowByReading();
        stowByLostOnes();
        stowBehindTheLastHour();
        promise21Cleaning();
        promise22BehindTheLastHour();
        promise22StepsByState();
        promise22LateRows();
        promise22LateRowsAndStow();
        promise22Dust();
        promise23Hours();
        promise24Book();
        promise25All();
        promise25SumsBeyondAnInt();
        promise26Next();
        Due.end();
    }

    private static String calm() {
        StringBuilder text = new StringBuilder();
        for (int hour = 0; hour < 24; hour++) {
            text.append("wind ").append(hour).append(" 0 = 1\n");
        }
        return text.toString();
    }

    private static void promise19Wind() {
        Script.run("19: BEYOND: there is no such hour", """
                wind -1 0 = BEYOND
                wind 24 0 = BEYOND
                wind MIN 0 = BEYOND
                wind MAX 0 = BEYOND
                wind -1 -1 = BEYOND
                wind 24 -1 = BEYOND
                wind 0 200 = 1
                wind 23 200 = 1
                hour = 2
                """);
        Script.run("19: BEYOND: v isn't -1 .. 200; v -1: LOST: 0", """
                wind 0 -2 = BEYOND
                wind 0 201 = BEYOND
                wind 0 MIN = BEYOND
                wind 0 MAX = BEYOND
                wind 0 -1 = 0
                wind 1 0 = 1
                wind 2 200 = 1
                wind 2 201 = BEYOND
                wind 1 -2 = BEYOND
                hour = 0
                hour = 0
                hour = 2
                """);
        Script.run("19: a reading that is LOST again", """
                wind 0 0 = 1
                wind 1 200 = 1
                wind 2 0 = 1
                wind 1 -1 = 0
                wind 2 -1 = 0
                wind 0 -1 = 0
                hour = 0
                hour = 0
                hour = 2
                """);
        Script.run("Terms 2: a reading for each hour, the latest that was told", """
                wind 0 200 = 1
                wind 0 0 = 1
                wind 1 0 = 1
                wind 1 200 = 1
                hour = 0
                hour = 2
                """);
    }

    private static void promise20Limit() {
        Script.run("20: BEYOND; what it was", """
                limit 0 = BEYOND
                limit 201 = BEYOND
                limit -1 = BEYOND
                limit MIN = BEYOND
                limit MAX = BEYOND
                limit 1 = 50
                limit 0 = BEYOND
                limit 201 = BEYOND
                limit 200 = 1
                limit 200 = 200
                limit 50 = 200
                """);
        Script.run("20: LIMIT is so from the next hour on", """
                wind 0 100 = 1
                wind 1 100 = 1
                wind 2 100 = 1
                wind 3 100 = 1
                limit 101 = 50
                hour = 0
                limit 100 = 101
                hour = 2
                limit 200 = 100
                hour = 2
                limit 199 = 200
                hour = 2
                """);
    }

    /** Hours with these readings (or LOST) have these states, one after the other. */
    private static void states(String sentence, int limit, String readingsAndStates) {
        StringBuilder told = new StringBuilder("limit " + limit + "\n");
        StringBuilder due = new StringBuilder();
        String[] pairs = readingsAndStates.split(" ");
        for (int hour = 0; hour < pairs.length; hour++) {
            String[] pair = pairs[hour].split(":");
            told.append("wind ").append(hour).append(' ')
                    .append(pair[0].equals("LOST") ? "-1" : pair[0]).append('\n');
            due.append("hour = ").append(pair[1]).append("\nbook 6 = ").append(pair[1]).append('\n');
        }
        Script.run(sentence, told.toString() + due);
    }

    private static void stowByReading() {
        states("Terms 2: its reading is the LIMIT or more: 50", 50, "49:0 50:2");
        states("Terms 2: its reading is the LIMIT or more: 51", 50, "0:0 49:0 51:2");
        states("Terms 2: the least LIMIT", 1, "0:0 1:2");
        states("Terms 2: the greatest LIMIT", 200, "199:0 200:2");
        states("Terms 2: the reading is below half of the LIMIT: 24", 50, "50:2 24:0 49:0");
        states("Terms 2: the reading is just half of the LIMIT: 25", 50, "50:2 25:2 49:2 24:0");
        states("Terms 2: half of the LIMIT (cut): 25", 51, "51:2 25:2 24:0");
        states("Terms 2: half of the LIMIT (cut): 0, and nothing is below it", 1, "1:2 0:2 0:2");
        states("Terms 2: half of the LIMIT: 1", 2, "2:2 1:2 0:0 1:0");
        states("Terms 2: half of the LIMIT (cut): 1", 3, "3:2 2:2 1:2 0:0 2:0");
        states("Terms 2: half of the LIMIT: 100", 200, "200:2 100:2 99:0 199:0");
        states("Terms 2: a reading between half and all of it starts no STOW", 50, "25:0 49:0 30:0");
    }

    private static void stowByLostOnes() {
        states("Terms 2: the third LOST one in a row", 50, "LOST:0 LOST:0 LOST:2");
        states("Terms 2: the third LOST one (or later)", 50, "LOST:0 LOST:0 LOST:2 LOST:2 LOST:2");
        states("Terms 2: two LOST ones, twice", 50, "LOST:0 LOST:0 0:0 LOST:0 LOST:0 49:0");
        states("Terms 2: a reading between ends the row", 50,
                "LOST:0 LOST:0 49:0 LOST:0 LOST:0 LOST:2");
        states("Terms 2: one LOST one is no reading below half", 50, "50:2 LOST:2 LOST:2 24:0");
        states("Terms 2: LOST ones in STOW are in a row, too", 50,
                "50:2 LOST:2 LOST:2 LOST:2 24:0 LOST:0 LOST:0 LOST:2");
        states("Terms 2: STOW by LOST ones ends as the other", 50,
                "LOST:0 LOST:0 LOST:2 25:2 49:2 24:0 LOST:0 LOST:0 49:0");
        states("Terms 2: LOST ones behind a reading that keeps STOW", 50,
                "LOST:0 LOST:0 LOST:2 30:2 LOST:2 10:0 LOST:0 LOST:0 LOST:2");
        states("Terms 2: nothing is below half of 1, LOST neither", 1, "1:2 LOST:2 0:2");
    }

    private static void stowBehindTheLastHour() {
        Script.run("Terms 2: LOST ones in a row behind 23", CALM + """
                wind 22 -1 = 0
                wind 23 -1 = 0
                wind 0 -1 = 0
                hour = 0
                hours 23
                book 6 = 0
                book 7 = 23
                hour = 2
                book 7 = 0
                hour = 0
                """);
        Script.run("Terms 2: two LOST ones, one on each side of 0, are two", CALM + """
                wind 23 -1 = 0
                wind 0 -1 = 0
                hours 24
                book 6 = 0
                hour = 0
                hour = 0
                """);
        Script.run("Terms 2: STOW goes on behind 23", CALM + """
                wind 23 50 = 1
                wind 0 25 = 1
                wind 1 24 = 1
                hour = 0
                hours 23
                book 6 = 2
                hour = 2
                book 7 = 0
                hour = 0
                """);
        Script.run("Terms 2: the LOST ones of a new object don't begin ahead of hour 0", """
                hour = 0
                hour = 0
                hour = 2
                """);
    }

    private static void promise21Cleaning() {
        Script.run("21: BEYOND", """
                cleaning -1 true = BEYOND
                cleaning 24 true = BEYOND
                cleaning MIN true = BEYOND
                cleaning MAX true = BEYOND
                cleaning -1 false = BEYOND
                cleaning 24 false = BEYOND
                cleaning 0 true = 1
                cleaning 23 true = 1
                cleaning 24 true = BEYOND
                cleaning -1 true = BEYOND
                cleaning 1 false = 0
                cleaning 22 false = 0
                """);
        Script.run("21: 1 if that is new, else 0", """
                cleaning 0 false = 0
                cleaning 0 true = 1
                cleaning 0 true = 0
                cleaning 0 false = 1
                cleaning 0 false = 0
                cleaning 23 false = 0
                cleaning 23 true = 1
                cleaning 23 true = 0
                """);
        Script.run("Terms 2: it CLEANS if cleaning was told for that hour, else it is at WORK", """
                cleaning 1 true = 1
                wind 0 0 = 1
                wind 1 0 = 1
                wind 2 0 = 1
                hour = 0
                hour = 1
                hour = 0
                cleaning 1 true = 0
                """);
        Script.run("Terms 2: if it isn't in STOW: just at the LIMIT, and just below half of it", """
                cleaning 0 true = 1
                cleaning 1 true = 1
                cleaning 2 true = 1
                cleaning 3 true = 1
                wind 0 49 = 1
                wind 1 50 = 1
                wind 2 25 = 1
                wind 3 24 = 1
                hour = 1
                hour = 2
                hour = 2
                hour = 1
                """);
        Script.run("Terms 2: cleaning and LOST ones: the third is in STOW", """
                cleaning 0 true = 1
                cleaning 1 true = 1
                cleaning 2 true = 1
                hour = 1
                hour = 1
                hour = 2
                """);
        Script.run("21: told for an hour, it is so each day", CALM + """
                cleaning 0 true = 1
                hour = 1
                hours 23
                book 6 = 0
                hour = 1
                cleaning 0 false = 1
                hours 23
                hour = 0
                """);
    }

    private static void promise22BehindTheLastHour() {
        Script.run("22: behind 23 comes 0", """
                sun 0 0 1000 = 1
                sun 23 0 500 = 1
                row 1 0 0 100 0 = 0
                string 0 0 = -1
                hour = 0
                book 7 = 0
                book 5 = 2000
                hours 22 = 0
                book 7 = 22
                next = 23
                hour = 2
                book 7 = 23
                book 5 = 1000
                next = 0
                hour = 2
                book 7 = 0
                book 5 = 2000
                next = 1
                """);
    }

    private static void promise22StepsByState() {
        Script.run("Terms 2: STEPS: in STOW 0, if it CLEANS -12, at WORK BACK, at NIGHT 0", """
                row 0 0 0 10 0 = 0
                row 1 5000 0 10 7 = 1
                sun 0 1000 1000 = 1
                sun 1 1000 1000 = 1
                sun 2 1000 1000 = 1
                wind 0 0 = 1
                wind 1 50 = 1
                wind 2 0 = 1
                wind 3 0 = 1
                wind 4 0 = 1
                wind 5 50 = 1
                cleaning 2 true = 1
                cleaning 4 true = 1
                turn 0 5 = 0
                hour = 0
                about 0 5 = -9
                hour = 2
                about 0 5 = 0
                hour = 1
                about 0 5 = -12
                hour = 0
                about 0 5 = 0
                hour = 1
                about 0 5 = -12
                hour = 2
                about 0 5 = 0
                about 1 5 = 7
                """);
        Script.run("Terms 2: STEPS: at WORK IDEAL, if there is no BACK", """
                row 0 0 0 10 0 = 0
                row 1 1 0 400 0 = 1
                sun 0 500 900 = 1
                sun 1 -500 900 = 1
                back 0 = NONE
                hour = 0
                about 0 5 = -6
                about 1 5 = 0
                hour = 0
                about 0 5 = 6
                found NONE = 1
                found KIND = 0
                """);
        Script.run("Terms 2: STEPS: BACK isn't IDEAL", """
                row 0 0 0 200 0 = 0
                row 0 300 0 200 0 = 1
                sun 0 1000 200 = 1
                ideal 0 = -12
                back 0 = -1
                turn 0 12 = 0
                hour = 0
                about 0 5 = -1
                about 1 5 = -1
                """);
        Script.run("22: an hour of no rows", """
                sun 0 1000 1000 = 1
                cleaning 0 true = 1
                hour = 1
                hour = 0
                hour = 2
                row 0 0 0 10 0 = 0
                about 0 5 = 0
                """);
    }

    private static void promise22LateRows() {
        String field = """
                row 0 0 0 10 0 = 0
                row 2 5000 0 10 0 = 1
                """ + CALM;
        Script.run("Terms 2: a LATE one has what it should have now, if none went", field + """
                sun 0 1000 1000 = 1
                turn 1 5 = 0
                hour = 0
                about 0 5 = -9
                about 1 5 = -9
                """);
        Script.run("Terms 2: a LATE one: if none went, and it CLEANS", field + """
                sun 0 1000 1000 = 1
                cleaning 0 true = 1
                hour = 1
                about 1 5 = -12
                """);
        Script.run("Terms 2: a LATE one: if none went, and it is NIGHT", field + """
                turn 1 5 = 0
                hour = 0
                about 1 5 = 0
                """);
        Script.run("Terms 2: a LATE one has what it should have had in the hour that went ahead", field + """
                sun 0 1000 1000 = 1
                sun 1 -1000 1000 = 1
                sun 2 0 1000 = 1
                sun 3 1000 2 = 1
                hour = 0
                hour = 0
                about 0 5 = 9
                about 1 5 = -9
                hour = 0
                about 0 5 = 0
                about 1 5 = 9
                hour = 0
                about 0 5 = -12
                about 1 5 = 0
                hour = 0
                about 0 5 = 0
                about 1 5 = -12
                hour = 0
                about 1 5 = 0
                """);
        Script.run("Terms 2: a LATE one: what it should have had, however it was turned", field + """
                sun 0 1000 1000 = 1
                sun 1 -1000 1000 = 1
                hour = 0
                turn 1 12 = -9
                turn 0 12 = -9
                hour = 0
                about 0 5 = 9
                about 1 5 = -9
                """);
        Script.run("Terms 2: a LATE one and an hour that CLEANS", field + """
                sun 0 1000 1000 = 1
                sun 1 1000 1000 = 1
                sun 2 -1000 1000 = 1
                cleaning 1 true = 1
                hour = 0
                hour = 1
                about 0 5 = -12
                about 1 5 = -9
                hour = 0
                about 0 5 = 9
                about 1 5 = -12
                """);
        Script.run("Terms 2: a LATE one behind the last hour", field + """
                sun 23 1000 1000 = 1
                sun 0 -1000 1000 = 1
                hours 24
                about 0 5 = -9
                about 1 5 = 0
                hour = 0
                about 0 5 = 9
                about 1 5 = -9
                """);
    }

    private static void promise22LateRowsAndStow() {
        String field = """
                row 0 0 0 10 0 = 0
                row 2 5000 0 10 0 = 1
                sun 0 1000 1000 = 1
                sun 1 -1000 1000 = 1
                sun 2 1000 1000 = 1
                """ + CALM;
        Script.run("Terms 2: a LATE one, if this hour is in STOW", field + """
                wind 1 50 = 1
                hour = 0
                about 1 5 = -9
                hour = 2
                about 0 5 = 0
                about 1 5 = 0
                """);
        Script.run("Terms 2: a LATE one, if the hour that went ahead was in STOW", field + """
                wind 1 50 = 1
                hours 2
                hour = 0
                about 0 5 = -9
                about 1 5 = -9
                hour = 0
                about 0 5 = 0
                about 1 5 = -9
                """);
        Script.run("Terms 2: a LATE one, if that was in STOW and this one CLEANS", field + """
                wind 0 50 = 1
                cleaning 1 true = 1
                hour = 2
                about 1 5 = 0
                hour = 1
                about 0 5 = -12
                about 1 5 = -12
                hour = 0
                about 0 5 = -9
                about 1 5 = -12
                """);
        Script.run("Terms 2: a LATE one, the first hour in STOW", field + """
                wind 0 50 = 1
                turn 1 5 = 0
                hour = 2
                about 1 5 = 0
                """);
    }

    private static void promise22Dust() {
        Script.run("22: When the field CLEANS all rows lose all their DUST at the hour's end", """
                row 0 0 0 100 0 = 0
                row 1 1000 0 100 0 = 1
                row 2 2000 0 100 0 = 2
                string 1 0 = -1
                sun 0 0 1000 = 1
                dust 0 1 = 0
                dust 1 1000 = 0
                dust 2 500 = 0
                cleaning 0 true = 1
                hour = 1
                about 0 4 = 0
                about 1 4 = 0
                about 2 4 = 0
                book 0 = 2000
                book 2 = 2000
                book 5 = 0
                """);
        Script.run("22: at NIGHT, too", """
                row 1 0 0 100 0 = 0
                dust 0 1000 = 0
                cleaning 0 true = 1
                hour = 1
                about 0 4 = 0
                """);
        Script.run("22: DUST stays at WORK and in STOW", """
                row 1 0 0 100 0 = 0
                dust 0 1000 = 0
                wind 0 0 = 1
                wind 1 50 = 1
                cleaning 1 true = 1
                hour = 0
                about 0 4 = 1000
                hour = 2
                about 0 4 = 1000
                """);
    }

    private static void promise23Hours() {
        Script.run("23: BEYOND: n isn't 1 .. 48", """
                hours 0 = BEYOND
                hours 49 = BEYOND
                hours -1 = BEYOND
                hours MIN = BEYOND
                hours MAX = BEYOND
                book 0 = NONE
                next = 0
                hours 1 = 0
                next = 1
                hours 0 = BEYOND
                hours 49 = BEYOND
                next = 1
                hours 48 = 0
                next = 1
                book 7 = 0
                """);
        Script.run("23: what was GIVEN in these", """
                row 1 0 0 100 0 = 0
                string 0 0 = -1
                sun 0 0 1000 = 1
                sun 23 0 500 = 1
                hours 1 = 2000
                hours 22 = 0
                hours 1 = 1000
                hours 2 = 2000
                hours 23 = 3000
                hours 47 = 4000
                hours 48 = 6000
                all 5 = 18000
                """);
        Script.run("23: GIVEN, not LIGHT", """
                row 1 0 0 100 0 = 0
                string 0 0 = -1
                ceiling 0 1 = 1000000
                sun 0 0 1000 = 1
                hours 48 = 2
                all 0 = 4000
                """);
    }

    private static void promise24Book() {
        Script.run("24: NONE: none did (asked ahead of BEYOND)", """
                book 0 = NONE
                book 5 = NONE
                book 6 = NONE
                book 7 = NONE
                book 8 = NONE
                book -1 = NONE
                book MIN = NONE
                book MAX = NONE
                hours 0 = BEYOND
                book 0 = NONE
                hour = 0
                book 0 = 0
                """);
        Script.run("24: BEYOND: another what", """
                row 1 0 0 100 0 = 0
                row 1 50 0 100 0 = 1
                dust 0 100 = 0
                dust 1 10 = 0
                string 0 0 = -1
                string 1 0 = -1
                ceiling 0 900 = 1000000
                sun 0 1000 500 = 1
                wind 0 50 = 1
                hour = 2
                book -1 = BEYOND
                book 0 = 2000
                book 1 = 667
                book 2 = 43
                book 3 = 300
                book 4 = 90
                book 5 = 900
                book 6 = 2
                book 7 = 0
                book 8 = BEYOND
                book MIN = BEYOND
                book MAX = BEYOND
                """);
        Script.run("24: of the latest hour that went, as it was then", """
                row 1 0 0 100 0 = 0
                string 0 0 = -1
                sun 0 0 1000 = 1
                hour = 0
                drop = 0
                sun 0 0 0 = 0
                book 0 = 2000
                book 5 = 2000
                hour = 0
                book 0 = 0
                book 5 = 0
                book 7 = 1
                """);
    }

    private static void promise25All() {
        Script.run("25: BEYOND: another what", """
                all -1 = BEYOND
                all 6 = BEYOND
                all MIN = BEYOND
                all MAX = BEYOND
                all 0 = 0
                all 5 = 0
                hour = 0
                all -1 = BEYOND
                all 6 = BEYOND
                all 7 = BEYOND
                """);
        Script.run("25: of all hours since the first one", """
                row 1 0 0 100 0 = 0
                row 1 50 0 100 0 = 1
                dust 0 100 = 0
                dust 1 10 = 0
                string 0 0 = -1
                string 1 0 = -1
                ceiling 0 900 = 1000000
                sun 0 1000 500 = 1
                hour = 0
                all 0 = 2000
                all 1 = 667
                all 2 = 43
                all 3 = 300
                all 4 = 90
                all 5 = 900
                hours 47 = 900
                all 0 = 4000
                all 1 = 1334
                all 2 = 86
                all 3 = 600
                all 4 = 180
                all 5 = 1800
                """);
    }

    /** Ten rows at their best at all hours, and nearly as many hours as 512 calls can let go. */
    private static void promise25SumsBeyondAnInt() {
        Calls x = new Calls();
        for (int row = 0; row < 10; row++) {
            x.ask("row", 1, 1000 * row, 0, 400, -9);
            x.ask("string", row, row % 4);
        }
        for (int hour = 0; hour < 24; hour++) {
            x.ask("sun", hour, 1000, 1000);
        }
        long due = 0;
        for (int made = 0; made < 460; made++) {
            Due.is("[25: The sums] 48 hours", x.ask("hours", 48), 48 * 113130);
            due += 48 * 113130;
        }
        Due.isTrue("[25: The sums] more than an int holds", due > Integer.MAX_VALUE);
        Due.is("[25: The sums] LIGHT", x.ask("all", 0), due);
        Due.is("[25: The sums] GIVEN", x.ask("all", 5), due);
    }

    private static void promise26Next() {
        Script.run("26: The next hour", """
                next = 0
                next = 0
                hours 0 = BEYOND
                next = 0
                hour = 0
                next = 1
                hours 22
                next = 23
                hour = 2
                next = 0
                hours 24
                next = 0
                hours 48
                next = 0
                hours 47
                next = 23
                hours 2
                next = 1
                """);
    }
}
