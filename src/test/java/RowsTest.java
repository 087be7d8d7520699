/** Promises 1 to 7: a new object and its rows. */
final class RowsTest {
    private static final int LEAST = Integer.MIN_VALUE;
    private static final int MOST = Integer.MAX_VALUE;

    public static void main(String[] args) {
        promise1NewObject();
        promise2Row();
        promise2RowFindings();
        promise3Drop();
        promise4About();
        promise5As();
        promise6Turn();
        promise7Dust();
        Due.end();
    }

    private static void promise1NewObject() {
        SunRows x = new SunRows();
        Due.is("drop() of a new one", x.drop(), Due.NONE);
        for (int hour = 0; hour < 24; hour++) {
            Due.is("ideal at first is of NIGHT", x.ideal(hour), Due.NONE);
        }
        Due.is("book(0) at first", x.book(0), Due.NONE);
        for (int what = 0; what < 6; what++) {
            Due.is("all at first", x.all(what), 0);
        }
        Due.is("next() at first", x.next(), 0);
        Due.is("found BEYOND at first", x.found(Due.BEYOND), 0);
        Due.is("hour 0, first LOST one", x.hour(), 0);
        Due.is("hour 1, second LOST one", x.hour(), 0);
        Due.is("hour 2, third LOST one", x.hour(), 2);
        SunRows other = new SunRows();
        Due.is("objects share nothing", other.next(), 0);
    }

    private static void promise2Row() {
        SunRows x = new SunRows();
        Due.is("least of all", x.row(0, 0, -1000, 10, MOST), 0);
        Due.is("STUCK at -12", x.row(1, 1, 1000, 400, -12), 1);
        Due.is("LATE, step not looked at", x.row(2, 2, 0, 10, LEAST), 2);
        Due.is("a ROW's step", x.about(0, 5), 0);
        Due.is("a STUCK one's step", x.about(1, 5), -12);
        Due.is("a LATE one's step", x.about(2, 5), 0);
        for (int row = 3; row < 9; row++) {
            Due.is("row " + row, x.row(1, row * 10, row, 100, 12), row);
        }
        Due.is("the tenth at the last place", x.row(0, 10000, 0, 400, 0), 9);
        Due.is("an eleventh", x.row(0, 10000, 0, 400, 0), Due.SIZE);
        x.drop();
        Due.is("the tenth again", x.row(0, 9999, 0, 400, 0), 9);
        Due.is("an eleventh", x.row(0, 10000, 0, 400, 0), Due.FULL);
        Due.is("an eleventh, wrong too", x.row(0, 10000, 0, 401, 0), Due.BEYOND);
    }

    private static void promise2RowFindings() {
        SunRows x = new SunRows();
        int[][] beyond = {
            {-1, 5, 0, 100, 0}, {3, 5, 0, 100, 0}, {LEAST, 5, 0, 100, 0}, {MOST, 5, 0, 100, 0},
            {0, -1, 0, 100, 0}, {0, 10001, 0, 100, 0}, {0, LEAST, 0, 100, 0}, {0, MOST, 0, 100, 0},
            {0, 5, -1001, 100, 0}, {0, 5, 1001, 100, 0}, {0, 5, LEAST, 100, 0},
            {0, 5, 0, 9, 0}, {0, 5, 0, 401, 0}, {0, 5, 0, LEAST, 0}, {0, 5, 0, MOST, 0},
            {1, 5, 0, 100, 13}, {1, 5, 0, 100, -13}, {1, 5, 0, 100, LEAST}, {1, 5, 0, 100, MOST}
        };
        for (int[] told : beyond) {
            Due.is("row of " + java.util.Arrays.toString(told),
                    x.row(told[0], told[1], told[2], told[3], told[4]), Due.BEYOND);
        }
        Due.is("BEYOND was counted", x.found(Due.BEYOND), beyond.length);
        Due.is("none of these was made", x.row(0, 5, 0, 100, 0), 0);
        Due.is("the same place", x.row(0, 5, 0, 100, 0), Due.SIZE);
        Due.is("a lesser place", x.row(0, 4, 0, 100, 0), Due.SIZE);
        Due.is("BEYOND is asked ahead of SIZE", x.row(0, 4, 0, 9, 0), Due.BEYOND);
        Due.is("a place above", x.row(0, 6, 0, 100, 0), 1);
    }

    private static void promise3Drop() {
        SunRows x = new SunRows();
        x.row(0, 100, 0, 100, 0);
        x.row(1, 200, 7, 110, 5);
        x.string(1, 3);
        x.dust(1, 77);
        Due.is("drop", x.drop(), 1);
        Due.is("it is no more", x.about(1, 0), Due.BEYOND);
        Due.is("its place is free", x.row(0, 101, 0, 50, 0), 1);
        Due.is("the new one is in no string", x.about(1, 6), -1);
        Due.is("the new one has no dust", x.about(1, 4), 0);
        Due.is("the new one's step", x.about(1, 5), 0);
        Due.is("drop", x.drop(), 1);
        Due.is("drop", x.drop(), 0);
        Due.is("drop of none", x.drop(), Due.NONE);
        Due.is("any place will do then", x.row(0, 0, 0, 50, 0), 0);
    }

    private static void promise4About() {
        SunRows x = new SunRows();
        x.row(0, 0, 0, 10, 0);
        x.row(1, 321, -45, 67, -8);
        x.dust(1, 90);
        x.string(1, 2);
        int[] due = {1, 321, -45, 67, 90, -8, 2};
        for (int what = 0; what < due.length; what++) {
            Due.is("about(1, " + what + ")", x.about(1, what), due[what]);
        }
        Due.is("no string", x.about(0, 6), -1);
        Due.is("what 7", x.about(1, 7), Due.BEYOND);
        Due.is("what -1", x.about(1, -1), Due.BEYOND);
        Due.is("row 2", x.about(2, 0), Due.BEYOND);
        Due.is("row -1", x.about(-1, 0), Due.BEYOND);
        Due.is("row far off", x.about(MOST, LEAST), Due.BEYOND);
    }

    private static void promise5As() {
        SunRows x = new SunRows();
        x.row(0, 0, 0, 10, 0);
        x.row(1, 10, 0, 10, 7);
        x.row(2, 20, 0, 10, 0);
        x.turn(0, 3);
        x.turn(2, -4);
        int[][] due = {{3, Due.KIND, Due.KIND}, {7, 7, Due.KIND}, {-4, Due.KIND, -4}};
        for (int row = 0; row < 3; row++) {
            for (int kind = 0; kind < 3; kind++) {
                Due.is("as(" + row + ", " + kind + ")", x.as(row, kind), due[row][kind]);
            }
            Due.is("kind 3", x.as(row, 3), Due.BEYOND);
            Due.is("kind -1", x.as(row, -1), Due.BEYOND);
        }
        Due.is("row 3", x.as(3, 0), Due.BEYOND);
        Due.is("row -1", x.as(-1, 0), Due.BEYOND);
    }

    private static void promise6Turn() {
        SunRows x = new SunRows();
        x.row(0, 0, 0, 10, 0);
        x.row(1, 10, 0, 10, 7);
        x.row(2, 20, 0, 10, 0);
        Due.is("turn a ROW", x.turn(0, 12), 0);
        Due.is("turn it again", x.turn(0, -12), 12);
        Due.is("it stands so", x.about(0, 5), -12);
        Due.is("turn a LATE one", x.turn(2, 5), 0);
        Due.is("it stands so", x.about(2, 5), 5);
        Due.is("turn a STUCK one", x.turn(1, 7), Due.KIND);
        Due.is("a STUCK one, no step", x.turn(1, 13), Due.BEYOND);
        Due.is("step 13", x.turn(0, 13), Due.BEYOND);
        Due.is("step -13", x.turn(0, -13), Due.BEYOND);
        Due.is("row 3", x.turn(3, 0), Due.BEYOND);
        Due.is("row -1", x.turn(-1, 0), Due.BEYOND);
        Due.is("nothing was turned", x.about(0, 5), -12);
        Due.is("the STUCK one neither", x.about(1, 5), 7);
    }

    private static void promise7Dust() {
        SunRows x = new SunRows();
        x.row(1, 0, 0, 10, 0);
        Due.is("dust", x.dust(0, 1000), 0);
        Due.is("dust again", x.dust(0, 0), 1000);
        Due.is("dust again", x.dust(0, 8), 0);
        Due.is("1001", x.dust(0, 1001), Due.BEYOND);
        Due.is("-1", x.dust(0, -1), Due.BEYOND);
        Due.is("row 1", x.dust(1, 5), Due.BEYOND);
        Due.is("row -1", x.dust(-1, 5), Due.BEYOND);
        Due.is("it is as it was", x.about(0, 4), 8);
    }
}
