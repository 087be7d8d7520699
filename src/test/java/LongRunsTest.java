/** All promises: long runs of mixed calls, each answer held against the plain model's. */
final class LongRunsTest {
    private static final int RUNS = 1000;
    // With the calls of the beginning and of sheets an object stays below its 512.
    private static final int CALLS = 260;
    private static final int[] FAR = {
        Integer.MIN_VALUE, Integer.MIN_VALUE + 1, -1000000006, -1000000005, -1001, -13, -2, -1,
        0, 1, 13, 24, 72, 201, 401, 1001, 10001, 1000001, Integer.MAX_VALUE - 1, Integer.MAX_VALUE
    };

    private long seed;
    private SunRows rows;
    private PlainModel model;
    private String call = "";

    private LongRunsTest(long seed) {
        this.seed = seed;
    }

    public static void main(String[] args) {
        for (int run = 0; run < RUNS; run++) {
            new LongRunsTest(run * 7919L + 1).run(run);
        }
        Due.end();
    }

    // Numbers by a rule of our own: the same runs each time.
    private int upTo(int bound) {
        seed = seed * 6364136223846793005L + 1442695040888963407L;
        return (int) Math.floorMod(seed >>> 33, (long) bound);
    }

    private int from(int least, int most) {
        if (upTo(40) == 0) {
            return FAR[upTo(FAR.length)];
        }
        if (upTo(12) == 0) {
            return upTo(2) == 0 ? least - upTo(2) : most + upTo(2);
        }
        return least + upTo(most - least + 1);
    }

    private void run(int run) {
        rows = new SunRows();
        model = new PlainModel();
        begin(run);
        for (int made = 0; made < CALLS; made++) {
            int group = upTo(10);
            long[] answers = group < 3 ? askRows() : group < 6 ? askLight()
                    : group < 8 ? askHours() : askDustAndTape();
            Due.is("run " + run + ", call " + made + ": " + call, answers[0], answers[1]);
            if (answers[0] != answers[1]) {
                return;
            }
        }
    }

    /** Rows close to one another under low suns, so that most of what is asked is in SHADE. */
    private void begin(int run) {
        int place = upTo(100);
        int spread = run % 3 == 0 ? 30 : run % 3 == 1 ? 300 : 1000;
        int count = upTo(11);
        for (int row = 0; row < count; row++) {
            int kind = upTo(3);
            int height = upTo(2) == 0 ? 0 : upTo(101) - 50;
            int width = 10 + upTo(391);
            int step = upTo(25) - 12;
            Due.is("row", rows.row(kind, place, height, width, step),
                    model.row(kind, place, height, width, step));
            int string = upTo(5) - 1;
            Due.is("string", rows.string(row, string), model.string(row, string));
            place += 1 + upTo(spread);
        }
        for (int hour = 0; hour < 24; hour++) {
            if (upTo(4) != 0) {
                int x = (upTo(201) - 100) * 10;
                int y = upTo(2) == 0 ? upTo(101) * 10 : 1 + upTo(200);
                Due.is("sun", rows.sun(hour, x, y), model.sun(hour, x, y));
            }
            if (upTo(3) != 0) {
                int v = upTo(60);
                Due.is("wind", rows.wind(hour, v), model.wind(hour, v));
            }
        }
    }

    private static long[] both(long got, long want) {
        return new long[] {got, want};
    }

    private long[] askRows() {
        int a = from(0, 9);
        int which = upTo(9);
        int b;
        switch (which) {
            case 0:
                int[] t = {from(0, 2), from(0, 10000), from(-1000, 1000), from(10, 400), from(-12, 12)};
                call = "row " + java.util.Arrays.toString(t);
                return both(rows.row(t[0], t[1], t[2], t[3], t[4]),
                        model.row(t[0], t[1], t[2], t[3], t[4]));
            case 1:
                if (upTo(3) != 0) {
                    call = "next";
                    return both(rows.next(), model.next());
                }
                call = "drop";
                return both(rows.drop(), model.drop());
            case 2:
            case 3:
                b = from(0, 6);
                call = "about " + a + " " + b;
                return both(rows.about(a, b), model.about(a, b));
            case 4:
                b = from(0, 2);
                call = "as " + a + " " + b;
                return both(rows.as(a, b), model.as(a, b));
            case 5:
            case 6:
                b = from(-12, 12);
                call = "turn " + a + " " + b;
                return both(rows.turn(a, b), model.turn(a, b));
            case 7:
                b = from(0, 1000);
                call = "dust " + a + " " + b;
                return both(rows.dust(a, b), model.dust(a, b));
            default:
                b = from(-1, 3);
                call = "string " + a + " " + b;
                return both(rows.string(a, b), model.string(a, b));
        }
    }

    private long[] askLight() {
        int row = from(0, 9);
        int hour = from(0, 23);
        int which = upTo(9);
        call = "light " + which + " of " + row + " at " + hour;
        switch (which) {
            case 0:
                int x = from(-1000, 1000);
                int y = from(0, 1000);
                call = "sun " + hour + " " + x + " " + y;
                return both(rows.sun(hour, x, y), model.sun(hour, x, y));
            case 1:
                return both(rows.ideal(hour), model.ideal(hour));
            case 2:
                return both(rows.back(hour), model.back(hour));
            case 3:
                return both(rows.breadth(row, hour), model.breadth(row, hour));
            case 4:
            case 5:
                return both(rows.shade(row, hour), model.shade(row, hour));
            case 6:
                return both(rows.dark(row, hour), model.dark(row, hour));
            case 7:
                return both(rows.current(row, hour), model.current(row, hour));
            default:
                int string = from(0, 3);
                call = "gives " + string + " " + hour;
                return both(rows.gives(string, hour), model.gives(string, hour));
        }
    }

    private long[] askHours() {
        int hour = from(0, 23);
        int which = upTo(10);
        int v;
        switch (which) {
            case 0:
                v = upTo(3) == 0 ? from(-1, 200) : from(-1, 60);
                call = "wind " + hour + " " + v;
                return both(rows.wind(hour, v), model.wind(hour, v));
            case 1:
                v = upTo(3) == 0 ? from(1, 200) : 40 + upTo(30);
                call = "limit " + v;
                return both(rows.limit(v), model.limit(v));
            case 2:
                boolean on = upTo(3) == 0;
                call = "cleaning " + hour + " " + on;
                return both(rows.cleaning(hour, on), model.cleaning(hour, on));
            case 3:
                v = upTo(8) == 0 ? from(1, 48) : from(1, 3);
                call = "hours " + v;
                return both(rows.hours(v), model.hours(v));
            case 4:
                v = from(0, 5);
                call = "all " + v;
                return both(rows.all(v), model.all(v));
            case 5:
                int string = from(0, 3);
                v = upTo(2) == 0 ? from(0, 1000000) : from(0, 5000);
                call = "ceiling " + string + " " + v;
                return both(rows.ceiling(string, v), model.ceiling(string, v));
            case 6:
            case 7:
                call = "hour";
                return both(rows.hour(), model.hour());
            default:
                v = from(0, 7);
                call = "book " + v;
                return both(rows.book(v), model.book(v));
        }
    }

    private long[] askDustAndTape() {
        int which = upTo(10);
        int v;
        switch (which) {
            case 0:
            case 1:
                int days = upTo(2) == 0 ? from(1, 2) : from(1, 100);
                int price = upTo(2) == 0 ? from(0, 60) : from(0, 1000000);
                call = (which == 0 ? "plan " : "worth ") + days + " " + price;
                return which == 0 ? both(rows.plan(days, price), model.plan(days, price))
                        : both(rows.worth(days, price), model.worth(days, price));
            case 2:
                v = upTo(2) == 0 ? from(0, 1023) : from(0, 7);
                call = "wash " + v;
                return both(rows.wash(v), model.wash(v));
            case 3:
                v = upTo(2) == 0 ? from(0, 2) : from(0, 1000);
                call = "storm " + v;
                return both(rows.storm(v), model.storm(v));
            case 4:
                call = "suns after hours told";
                return tellSuns();
            case 5:
                call = "check after the book told";
                return tellBook();
            case 6:
                v = upTo(2) == 0 ? from(-1000000005, -1000000001) : -1000000001 - upTo(5);
                call = "found " + v;
                return both(rows.found(v), model.found(v));
            case 7:
                call = upTo(3) == 0 ? "suns" : "check";
                return call.equals("suns") ? both(rows.suns(), model.suns())
                        : both(rows.check(), model.check());
            default:
                v = from(0, 30);
                call = "tell " + v;
                return both(rows.tell(v), model.tell(v));
        }
    }

    private long[] tellSuns() {
        int hours = upTo(4);
        for (int at = 0; at < hours; at++) {
            int[] told = {from(0, 23), from(-1000, 1000), from(0, 1000)};
            for (int v : told) {
                rows.tell(v);
                model.tell(v);
            }
        }
        return both(rows.suns(), model.suns());
    }

    private long[] tellBook() {
        int count = upTo(3) == 0 ? upTo(9) : 6;
        for (int at = 0; at < count; at++) {
            int v = (int) model.book(at % 6) + (upTo(20) == 0 ? 1 : 0);
            rows.book(at % 6);
            rows.tell(v);
            model.tell(v);
        }
        return both(rows.check(), model.check());
    }
}
