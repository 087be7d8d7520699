/** Promises 8 to 14: the sun, how rows turn to it, and shade. */
final class SunTest {
    public static void main(String[] args) {
        promise8Sun();
        promise9Suns();
        promise10Ideal();
        promise11Back();
        promise11BackAmongStuckRows();
        promise12Breadth();
        promise12BreadthAtAllSteps();
        promise13Shade();
        promise13ShadeOfManyRows();
        promise13ShadeUnderASunNearlyAbove();
        promise13ShadeOfTurnedRows();
        promise14Dark();
        Due.end();
    }

    private static void promise8Sun() {
        SunRows x = new SunRows();
        Due.is("sun", x.sun(0, -1000, 1), 1);
        Due.is("sun", x.sun(23, 1000, 1000), 1);
        Due.is("it has come", x.ideal(23), -9);
        Due.is("NIGHT", x.sun(23, 1000, 0), 0);
        Due.is("it has come", x.ideal(23), Due.NONE);
        Due.is("hour 24", x.sun(24, 0, 1), Due.BEYOND);
        Due.is("hour -1", x.sun(-1, 0, 1), Due.BEYOND);
        Due.is("x 1001", x.sun(0, 1001, 1), Due.BEYOND);
        Due.is("x -1001", x.sun(0, -1001, 1), Due.BEYOND);
        Due.is("x 1001 at NIGHT", x.sun(0, 1001, 0), Due.BEYOND);
        Due.is("y 1001", x.sun(0, 0, 1001), Due.BEYOND);
        Due.is("y -1", x.sun(0, 0, -1), Due.BEYOND);
        Due.is("hour 0 is as it was", x.ideal(0), 12);
    }

    private static void tellAll(SunRows x, int... numbers) {
        for (int number : numbers) {
            x.tell(number);
        }
    }

    private static void promise9Suns() {
        SunRows x = new SunRows();
        Due.is("an empty sheet", x.suns(), 0);
        tellAll(x, 4, 1000, 1000, 5, 0, 1000, 4, -1000, 1000);
        Due.is("three hours", x.suns(), 3);
        Due.is("the later one of hour 4", x.ideal(4), 9);
        Due.is("hour 5", x.ideal(5), 0);
        Due.is("the tape is empty", x.tell(5), 1);
        Due.is("one number", x.suns(), Due.SIZE);
        Due.is("it is still there", x.tell(0), 2);
        Due.is("two numbers", x.suns(), Due.SIZE);
        Due.is("three numbers", x.tell(0), 3);
        Due.is("NIGHT by a sheet", x.suns(), 1);
        Due.is("NIGHT has come", x.ideal(5), Due.NONE);
        int[][] wrong = {{24, 0, 1}, {-1, 0, 1}, {6, 1001, 1}, {6, -1001, 1}, {6, 0, 1001}, {6, 0, -1}};
        for (int[] last : wrong) {
            tellAll(x, 4, 0, 1000);
            tellAll(x, last);
            Due.is("a sheet with a wrong hour", x.suns(), Due.BEYOND);
            Due.is("nothing was done", x.ideal(4), 9);
            Due.is("the tape is empty", x.suns(), 0);
        }
        for (int hour = 0; hour < 24; hour++) {
            tellAll(x, hour, 0, 1 + hour);
        }
        Due.is("a full sheet", x.suns(), 24);
        Due.is("hour 23 has come", x.ideal(23), 0);
    }

    private static int idealOf(int x, int y) {
        SunRows rows = new SunRows();
        rows.sun(7, x, y);
        return rows.ideal(7);
    }

    private static void promise10Ideal() {
        Due.is("noon", idealOf(0, 1), 0);
        Due.is("low, x above 0", idealOf(1000, 1), -12);
        Due.is("low, x below 0", idealOf(-1000, 1), 12);
        Due.is("45 degrees", idealOf(1000, 1000), -9);
        Due.is("45 degrees", idealOf(-1, 1), 9);
        Due.is("0 and -1 are as good", idealOf(19, 436), 0);
        Due.is("0 and 1 are as good", idealOf(-19, 436), 0);
        Due.is("-1 and -2 are as good", idealOf(19, 144), -1);
        Due.is("1 and 2 are as good", idealOf(-19, 144), 1);
        Due.is("just past that", idealOf(20, 144), -2);
        SunRows x = new SunRows();
        Due.is("NIGHT", x.ideal(0), Due.NONE);
        Due.is("hour 24", x.ideal(24), Due.BEYOND);
        Due.is("hour -1", x.ideal(-1), Due.BEYOND);
    }

    private static void promise11Back() {
        SunRows x = new SunRows();
        x.sun(8, 1000, 200);
        x.sun(9, 500, 900);
        x.sun(10, -1000, 200);
        Due.is("no rows: IDEAL", x.back(8), -12);
        x.row(0, 0, 0, 200, 0);
        Due.is("one row: IDEAL", x.back(8), -12);
        x.row(0, 300, 0, 200, 0);
        // They overlap if 400 d is above 1200000000; d is 2864400 at -1 and 3705600 at -2.
        Due.is("two rows", x.back(8), -1);
        Due.is("two rows, sun from behind", x.back(10), 1);
        x.turn(0, 12);
        x.turn(1, -5);
        Due.is("how they stand is all one", x.back(8), -1);
        x.drop();
        x.row(2, 200, 0, 200, 0);
        Due.is("to touch is no SHADE", x.back(8), 0);
        Due.is("NIGHT", x.back(7), Due.KIND);
        Due.is("hour 24", x.back(24), Due.BEYOND);
        Due.is("hour -1", x.back(-1), Due.BEYOND);
        x.drop();
        x.drop();
        x.row(0, 0, 0, 400, 0);
        x.row(0, 450, -12, 400, 0);
        // 800 d is 8192640000 at -7, 8235200000 at -6, 8215760000 at -5; 8220000000 is between.
        Due.is("IDEAL", x.ideal(9), -6);
        Due.is("of two as near the lesser", x.back(9), -7);
    }

    private static void promise11BackAmongStuckRows() {
        SunRows x = new SunRows();
        x.sun(9, 500, 900);
        x.sun(10, -500, 900);
        x.sun(11, 0, 900);
        x.row(0, 0, 0, 10, 0);
        x.row(1, 1, 0, 400, 0);
        Due.is("a STUCK one shades at each step", x.back(9), Due.NONE);
        Due.is("a STUCK one that is shaded doesn't count", x.back(10), 6);
        Due.is("none is ahead if x is 0", x.back(11), 0);
        Due.is("NONE was counted", x.found(Due.NONE), 1);
        SunRows late = new SunRows();
        late.sun(9, 500, 900);
        late.row(2, 0, 0, 10, 0);
        late.row(1, 1, 0, 400, 0);
        Due.is("a LATE one counts", late.back(9), Due.NONE);
        SunRows low = new SunRows();
        low.sun(9, 1000, 1);
        low.row(0, 0, 0, 10, 0);
        low.row(1, 1, 0, 400, -12);
        // At -12 .. -1 it is LIT and shaded; at 0 it is LIT, too: 10 d is 100000 there.
        Due.is("a row that isn't LIT has no SHADE", low.back(9), 1);
    }

    private static void promise12Breadth() {
        SunRows x = new SunRows();
        x.row(0, 123, 45, 200, 0);
        x.sun(8, 1000, 200);
        x.sun(9, 1000, 1);
        Due.is("at 0", x.breadth(0, 8), 800000000L);
        x.turn(0, -12);
        Due.is("at -12", x.breadth(0, 8), 3864000000L);
        x.turn(0, 12);
        Due.is("at 12, below 0", x.breadth(0, 8), -3064000000L);
        Due.is("at 12, below 0", x.breadth(0, 9), -3462000000L);
        Due.is("that is no finding", x.found(Due.BEYOND) + x.found(Due.NONE), 0);
        Due.is("NIGHT", x.breadth(0, 0), Due.NONE);
        Due.is("hour 24", x.breadth(0, 24), Due.BEYOND);
        Due.is("hour -1", x.breadth(0, -1), Due.BEYOND);
        Due.is("row 1 at NIGHT", x.breadth(1, 0), Due.BEYOND);
        Due.is("row -1", x.breadth(-1, 8), Due.BEYOND);
    }

    private static void promise12BreadthAtAllSteps() {
        int[][] turns = {
            {10000, 0}, {9962, 872}, {9848, 1736}, {9659, 2588}, {9397, 3420}, {9063, 4226},
            {8660, 5000}, {8192, 5736}, {7660, 6428}, {7071, 7071}, {6428, 7660}, {5736, 8192},
            {5000, 8660}
        };
        SunRows x = new SunRows();
        x.row(0, 0, 0, 10, 0);
        x.sun(0, 0, 1);
        x.sun(1, 1000, 1);
        for (int step = 0; step <= 12; step++) {
            x.turn(0, step);
            Due.is("COSINE of " + step, x.breadth(0, 0), 20L * turns[step][0]);
            Due.is("SINE of " + step, x.breadth(0, 1), 20L * (turns[step][0] - 1000 * turns[step][1]));
            x.turn(0, -step);
            Due.is("COSINE of -" + step, x.breadth(0, 0), 20L * turns[step][0]);
            Due.is("SINE of -" + step, x.breadth(0, 1), 20L * (turns[step][0] + 1000 * turns[step][1]));
        }
    }

    private static void promise13Shade() {
        SunRows x = new SunRows();
        x.sun(1, 1000, 500);
        x.sun(2, -1000, 500);
        x.sun(3, 0, 500);
        x.row(0, 0, 0, 100, 0);
        x.row(1, 50, 0, 100, 0);
        x.row(2, 60, 0, 100, 0);
        Due.is("what two shade counts once", x.shade(0, 1), 500000000L);
        Due.is("row 1 behind row 2", x.shade(1, 1), 900000000L);
        Due.is("the last one", x.shade(2, 1), 0);
        Due.is("sun from the other side", x.shade(0, 2), 0);
        Due.is("row 1 behind row 0", x.shade(1, 2), 500000000L);
        Due.is("row 2 behind both", x.shade(2, 2), 900000000L);
        Due.is("x 0", x.shade(1, 3), 0);
        x.drop();
        x.drop();
        x.row(0, 10, 0, 10, 0);
        x.row(0, 40, 0, 10, 0);
        Due.is("two parts", x.shade(0, 1), 200000000L);
        Due.is("a row wholly shaded", x.shade(1, 2), 100000000L);
        x.drop();
        x.row(0, 20, 5, 10, 0);
        Due.is("HEIGHT sets a row off", x.shade(0, 1), 100000000L);
        Due.is("NIGHT", x.shade(0, 0), Due.NONE);
        Due.is("row 3 at NIGHT", x.shade(3, 0), Due.BEYOND);
        Due.is("row -1", x.shade(-1, 1), Due.BEYOND);
        Due.is("hour 24", x.shade(0, 24), Due.BEYOND);
        Due.is("hour -1", x.shade(0, -1), Due.BEYOND);
        x.turn(0, 12);
        Due.is("not LIT", x.shade(0, 1), Due.KIND);
    }

    private static void promise13ShadeOfManyRows() {
        SunRows x = new SunRows();
        x.sun(1, 1000, 500);
        x.row(0, 0, 0, 100, 0);
        x.row(0, 40, 0, 10, 0);
        x.row(0, 41, 20, 10, 0);
        x.row(0, 42, 40, 10, 0);
        // In units of 10000000: row 0 from -50 to 50; shaded 35 .. 45, -4 .. 6, -43 .. -33.
        Due.is("rows behind shade from lower on", x.shade(0, 1), 300000000L);
        Due.is("one part in each group", x.dark(0, 1), 7);
        x.row(0, 43, 5, 20, 0);
        Due.is("23 .. 43 overlaps 35 .. 45", x.shade(0, 1), 420000000L);
        x.row(0, 44, 5, 10, 0);
        Due.is("29 .. 39 is within these", x.shade(0, 1), 420000000L);
        for (int row = 6; row < 10; row++) {
            Due.is("rows up to the tenth", x.row(0, 39 + row, 5, 10, 0), row);
        }
        // They lie at 35 .. 38, 5 to each side: up to 43 at most.
        Due.is("ten rows", x.shade(0, 1), 420000000L);
        x.drop();
        x.row(0, 9000, 449, 400, 0);
        Due.is("one that is far off", x.shade(0, 1), 420000000L);
    }

    private static void promise13ShadeUnderASunNearlyAbove() {
        SunRows x = new SunRows();
        x.row(0, 0, 0, 100, 0);
        x.row(0, 1, 0, 100, 0);
        x.sun(1, 1, 500);
        x.sun(2, -1, 500);
        Due.is("x 1, row 0", x.shade(0, 1), 990000000L);
        Due.is("x 1, row 1", x.shade(1, 1), 0);
        Due.is("x -1, row 0", x.shade(0, 2), 0);
        Due.is("x -1, row 1", x.shade(1, 2), 990000000L);
    }

    private static void promise13ShadeOfTurnedRows() {
        SunRows x = new SunRows();
        x.sun(1, 1000, 500);
        x.row(0, 0, 0, 100, 0);
        x.row(0, 50, 0, 100, 0);
        x.turn(0, -12);
        x.turn(1, 12);
        Due.is("row 1 is turned away", x.breadth(1, 1), -1232000000L);
        Due.is("and shades all the same", x.shade(0, 1), 1232000000L);
        Due.is("two groups", x.dark(0, 1), 6);
        Due.is("it isn't LIT itself", x.shade(1, 1), Due.KIND);
        // BREADTH is just 0 at step -9 with x -1000, y 1000.
        x.sun(2, -1000, 1000);
        x.turn(0, -9);
        Due.is("BREADTH 0", x.breadth(0, 2), 0);
        Due.is("isn't LIT", x.shade(0, 2), Due.KIND);
        Due.is("nor has groups", x.dark(0, 2), Due.KIND);
        Due.is("nor CURRENT", x.current(0, 2), 0);
    }

    private static void promise14Dark() {
        SunRows x = new SunRows();
        x.sun(1, 1000, 500);
        x.sun(2, -1000, 500);
        x.row(0, 0, 0, 30, 0);
        x.row(0, 10, 0, 10, 0);
        Due.is("group 1 is touched at a point only", x.dark(0, 1), 4);
        x.turn(1, -1);
        Due.is("a little more", x.dark(0, 1), 6);
        x.turn(1, 0);
        Due.is("row 1 is wholly shaded", x.dark(1, 2), 7);
        Due.is("row 0 isn't", x.dark(0, 2), 0);
        x.drop();
        x.row(0, 4, 0, 10, 0);
        Due.is("the middle one and another", x.dark(0, 1), 6);
        x.row(0, 26, 0, 13, 0);
        Due.is("one that is past it", x.dark(0, 1), 6);
        x.drop();
        x.drop();
        x.row(0, 1, 10, 10, 0);
        Due.is("group 0, from below", x.dark(0, 1), 1);
        Due.is("NIGHT", x.dark(0, 0), Due.NONE);
        Due.is("row 2 at NIGHT", x.dark(2, 0), Due.BEYOND);
        Due.is("row -1", x.dark(-1, 1), Due.BEYOND);
        Due.is("hour 24", x.dark(0, 24), Due.BEYOND);
        Due.is("hour -1", x.dark(0, -1), Due.BEYOND);
        x.turn(0, 12);
        Due.is("not LIT", x.dark(0, 1), Due.KIND);
    }
}
