/** Promises 19 to 26: wind, cleaning, the going of hours, and the book. */
final class HoursTest {
    private static final int WORK = 0;
    private static final int CLEANS = 1;
    private static final int STOW = 2;
    private static final int LOST = -1;

    public static void main(String[] args) {
        promise19Wind();
        promise20Limit();
        promise21Cleaning();
        promise22States();
        promise22StepsOfRows();
        promise22StepsWithoutBack();
        promise22LateRowMadeLater();
        promise22CleaningTakesDust();
        promise23Hours();
        promise24Book();
        promise24BookOfUnlitAndUnstrungRows();
        promise25All();
        promise26Next();
        Due.end();
    }

    private static void promise19Wind() {
        SunRows x = new SunRows();
        Due.is("a reading", x.wind(0, 200), 1);
        Due.is("a reading", x.wind(23, 0), 1);
        Due.is("LOST", x.wind(1, LOST), 0);
        Due.is("201", x.wind(0, 201), Due.BEYOND);
        Due.is("-2", x.wind(0, -2), Due.BEYOND);
        Due.is("hour 24", x.wind(24, 5), Due.BEYOND);
        Due.is("hour -1", x.wind(-1, 5), Due.BEYOND);
        Due.is("hour 24, LOST", x.wind(24, LOST), Due.BEYOND);
        Due.is("200 is there", x.hour(), STOW);
    }

    /** The states of hours with these readings, one after the other. */
    private static void statesAre(String what, int limit, int[] readings, int[] due) {
        SunRows x = new SunRows();
        x.limit(limit);
        for (int hour = 0; hour < readings.length; hour++) {
            x.wind(hour, readings[hour]);
        }
        for (int hour = 0; hour < due.length; hour++) {
            Due.is(what + ", hour " + hour, x.hour(), due[hour]);
            Due.is(what + ", booked, hour " + hour, x.book(6), due[hour]);
        }
    }

    private static void promise20Limit() {
        SunRows x = new SunRows();
        Due.is("limit at first", x.limit(200), 50);
        Due.is("limit", x.limit(1), 200);
        Due.is("0", x.limit(0), Due.BEYOND);
        Due.is("201", x.limit(201), Due.BEYOND);
        Due.is("-1", x.limit(-1), Due.BEYOND);
        Due.is("it is as it was", x.limit(3), 1);
        statesAre("50", 50, new int[] {49, 50, 49, 25, 24, 49}, new int[] {0, 2, 2, 2, 0, 0});
        statesAre("51 by 2 is cut", 51, new int[] {51, 25, 24}, new int[] {2, 2, 0});
        statesAre("nothing is below 0", 1, new int[] {1, 0, 0}, new int[] {2, 2, 2});
        statesAre("200", 200, new int[] {199, 200, 100, 99}, new int[] {0, 2, 2, 0});
    }

    private static void promise21Cleaning() {
        SunRows x = new SunRows();
        Due.is("it isn't told at first", x.cleaning(0, false), 0);
        Due.is("it is told", x.cleaning(0, true), 1);
        Due.is("again", x.cleaning(0, true), 0);
        Due.is("and not", x.cleaning(0, false), 1);
        Due.is("hour 23", x.cleaning(23, true), 1);
        Due.is("hour 24", x.cleaning(24, true), Due.BEYOND);
        Due.is("hour -1", x.cleaning(-1, false), Due.BEYOND);
        x.wind(0, 0);
        x.wind(1, 0);
        x.wind(2, 90);
        x.cleaning(1, true);
        x.cleaning(2, true);
        Due.is("hour 0", x.hour(), WORK);
        Due.is("hour 1", x.hour(), CLEANS);
        Due.is("STOW comes first", x.hour(), STOW);
        Due.is("it stays told", x.cleaning(1, true), 0);
    }

    private static void promise22States() {
        statesAre("two LOST ones", 50, new int[] {LOST, LOST, 0, LOST, LOST, 30},
                new int[] {0, 0, 0, 0, 0, 0});
        statesAre("three LOST ones and more", 50, new int[] {LOST, LOST, LOST, LOST, 30, 24, LOST},
                new int[] {0, 0, 2, 2, 2, 0, 0});
        statesAre("a LOST one keeps STOW", 50, new int[] {60, LOST, 10, LOST, LOST, LOST},
                new int[] {2, 2, 0, 0, 0, 2});
        SunRows x = new SunRows();
        x.wind(0, 100);
        Due.is("STOW", x.hour(), STOW);
        x.wind(1, 49);
        Due.is("49 isn't below 25", x.hour(), STOW);
        x.limit(100);
        x.wind(2, 49);
        x.cleaning(2, true);
        Due.is("49 is below 50, cleaning then", x.hour(), CLEANS);
        SunRows round = new SunRows();
        round.hours(48);
        Due.is("LOST ones go on behind 23", round.book(6), STOW);
        round.wind(0, 0);
        Due.is("a reading ends that", round.hour(), WORK);
        Due.is("it was hour 0", round.book(7), 0);
    }

    private static void stepsAre(SunRows x, int hour, int row, int late) {
        x.hour();
        Due.is("the ROW's step, hour " + hour, x.about(0, 5), row);
        Due.is("the LATE one's step, hour " + hour, x.about(1, 5), late);
        Due.is("the STUCK one's step, hour " + hour, x.about(2, 5), 5);
    }

    private static void promise22StepsOfRows() {
        SunRows x = new SunRows();
        x.row(0, 0, 0, 10, 0);
        x.row(2, 5000, 0, 10, 0);
        x.row(1, 10000, 0, 10, 5);
        int[] suns = {1000, -1000, 0, 1000, 0, -1000, 1000, 1000};
        for (int hour = 0; hour < suns.length; hour++) {
            x.sun(hour, suns[hour], hour == 6 ? 0 : 1000);
            x.wind(hour, hour == 4 ? 50 : 0);
        }
        x.cleaning(2, true);
        x.turn(0, 3);
        x.turn(1, 4);
        stepsAre(x, 0, -9, -9);
        stepsAre(x, 1, 9, -9);
        stepsAre(x, 2, -12, 9);
        stepsAre(x, 3, -9, -12);
        stepsAre(x, 4, 0, 0);
        stepsAre(x, 5, 9, 9);
        x.turn(1, 7);
        stepsAre(x, 6, 0, 9);
        stepsAre(x, 7, -9, 0);
    }

    private static void promise22StepsWithoutBack() {
        SunRows x = new SunRows();
        x.row(0, 0, 0, 10, 0);
        x.row(1, 1, 0, 400, 0);
        x.sun(0, 500, 900);
        Due.is("there is no BACK", x.back(0), Due.NONE);
        Due.is("WORK", x.hour(), WORK);
        Due.is("IDEAL then", x.about(0, 5), -6);
        SunRows free = new SunRows();
        free.row(0, 0, 0, 200, 0);
        free.row(0, 300, 0, 200, 0);
        free.sun(0, 1000, 200);
        free.hour();
        Due.is("BACK", free.about(0, 5), -1);
        Due.is("of both", free.about(1, 5), -1);
        Due.is("findings inside are none of an act", x.found(Due.NONE), 1);
    }

    private static void promise22LateRowMadeLater() {
        SunRows x = new SunRows();
        x.sun(0, 1000, 1000);
        x.sun(1, -1000, 1000);
        x.hour();
        x.row(2, 0, 0, 10, 0);
        x.hour();
        Due.is("it has what it should have had in hour 0", x.about(0, 5), -9);
    }

    private static void promise22CleaningTakesDust() {
        SunRows x = new SunRows();
        for (int kind = 0; kind < 3; kind++) {
            x.row(kind, kind * 1000, 0, 100, 0);
            x.dust(kind, 500);
            x.string(kind, 0);
        }
        x.sun(0, 0, 1000);
        x.cleaning(0, true);
        Due.is("it CLEANS", x.hour(), CLEANS);
        for (int row = 0; row < 3; row++) {
            Due.is("no DUST", x.about(row, 4), 0);
        }
        // Two at -12 let 1000 through, the STUCK one at 0 2000; half of each is taken.
        Due.is("LIGHT", x.book(0), 4000);
        Due.is("the DUST was there until the hour's end", x.book(2), 2000);
        Due.is("GIVEN", x.book(5), 1500);
        x.dust(1, 70);
        x.wind(1, 100);
        x.cleaning(1, true);
        Due.is("STOW", x.hour(), STOW);
        Due.is("DUST stays then", x.about(1, 4), 70);
    }

    private static SunRows bookedField() {
        SunRows x = new SunRows();
        x.row(1, 0, 0, 100, 0);
        x.row(1, 50, 0, 100, 0);
        x.dust(0, 100);
        x.dust(1, 10);
        x.string(0, 0);
        x.string(1, 0);
        x.ceiling(0, 900);
        for (int hour = 0; hour < 24; hour++) {
            x.wind(hour, 0);
        }
        x.sun(0, 1000, 500);
        return x;
    }

    private static void promise23Hours() {
        SunRows x = bookedField();
        Due.is("0 hours", x.hours(0), Due.BEYOND);
        Due.is("49 hours", x.hours(49), Due.BEYOND);
        Due.is("-1 hours", x.hours(-1), Due.BEYOND);
        Due.is("none went", x.next(), 0);
        Due.is("1 hour", x.hours(1), 900);
        Due.is("next", x.next(), 1);
        Due.is("23 hours of NIGHT", x.hours(23), 0);
        Due.is("48 hours", x.hours(48), 1800);
        Due.is("25 hours", x.hours(25), 1800);
        Due.is("all", x.all(5), 4500);
    }

    private static void promise24Book() {
        SunRows x = bookedField();
        Due.is("none went", x.book(6), Due.NONE);
        Due.is("none went, another what", x.book(8), Due.NONE);
        x.hour();
        long[] due = {2000, 667, 43, 300, 90, 900, WORK, 0};
        for (int what = 0; what < due.length; what++) {
            Due.is("book(" + what + ")", x.book(what), due[what]);
        }
        Due.is("book(8)", x.book(8), Due.BEYOND);
        Due.is("book(-1)", x.book(-1), Due.BEYOND);
        x.string(1, 3);
        x.ceiling(3, 0);
        x.cleaning(0, true);
        x.hours(24);
        long[] apart = {2000, 667, 43, 0, 990, 300, CLEANS, 0};
        for (int what = 0; what < apart.length; what++) {
            Due.is("apart, book(" + what + ")", x.book(what), apart[what]);
        }
        x.hour();
        for (int what = 0; what < 7; what++) {
            Due.is("at NIGHT, book(" + what + ")", x.book(what), 0);
        }
        Due.is("at NIGHT, book(7)", x.book(7), 1);
    }

    private static void promise24BookOfUnlitAndUnstrungRows() {
        SunRows x = new SunRows();
        x.row(1, 0, 0, 100, 12);
        x.row(1, 500, 0, 100, 0);
        x.row(1, 5000, 0, 11, 0);
        x.row(1, 9000, 0, 11, 0);
        x.sun(0, 1000, 7);
        x.string(0, 0);
        x.string(2, 1);
        x.string(3, 1);
        x.hour();
        // Each of the two lets 1.54 through, of which each is cut; row 0 isn't LIT.
        Due.is("LIGHT", x.book(0), 2);
        Due.is("SHADE", x.book(1), 0);
        Due.is("GIVEN", x.book(5), 2);
        x.string(2, -1);
        x.hours(24);
        Due.is("LIGHT of one", x.book(0), 1);
    }

    private static void promise25All() {
        SunRows x = bookedField();
        x.hour();
        x.sun(1, 1000, 500);
        x.hour();
        long[] due = {4000, 1334, 86, 600, 180, 1800};
        for (int what = 0; what < due.length; what++) {
            Due.is("all(" + what + ")", x.all(what), due[what]);
        }
        Due.is("all(6)", x.all(6), Due.BEYOND);
        Due.is("all(-1)", x.all(-1), Due.BEYOND);
    }

    private static void promise26Next() {
        SunRows x = new SunRows();
        for (int gone = 0; gone < 50; gone++) {
            Due.is("next", x.next(), gone % 24);
            x.hour();
            Due.is("it went", x.book(7), gone % 24);
        }
    }
}
