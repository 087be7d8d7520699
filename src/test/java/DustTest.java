/** Promises 27 to 30: which rows are to be washed, washing, and storms. */
final class DustTest {
    public static void main(String[] args) {
        promise27And28Plan();
        promise27And28Ties();
        promise27And28Findings();
        promise29Wash();
        promise30Storm();
        Due.end();
    }

    private static SunRows fieldOf(int[] dust, int[] widths) {
        SunRows x = new SunRows();
        for (int row = 0; row < dust.length; row++) {
            x.row(row % 3, row * 1000, 0, widths[row], 0);
            x.dust(row, dust[row]);
        }
        return x;
    }

    private static void planIs(SunRows x, int days, int price, int set, long value) {
        Due.is("plan(" + days + ", " + price + ")", x.plan(days, price), set);
        Due.is("worth(" + days + ", " + price + ")", x.worth(days, price), value);
    }

    private static void promise27And28Plan() {
        planIs(new SunRows(), 1, 0, 0, 0);
        SunRows x = fieldOf(new int[] {1000, 0, 1000}, new int[] {10, 400, 20});
        planIs(x, 1, 0, 5, 29970);
        planIs(x, 2, 0, 5, 59970);
        planIs(x, 1, 10000, 4, 9990);
        planIs(x, 1, 9970, 5, 10030);
        planIs(x, 1, 19990, 0, 0);
        planIs(x, 1, 19989, 4, 1);
        SunRows one = fieldOf(new int[] {3, 5, 3}, new int[] {10, 10, 10});
        planIs(one, 1, 0, 7, 80);
        planIs(one, 1, 25, 2, 15);
        planIs(fieldOf(new int[] {0, 9, 9}, new int[] {10, 10, 10}), 1, 0, 6, 160);
        // The middle row gains just 1, or just 0, by itself.
        SunRows middle = fieldOf(new int[] {9, 1, 9}, new int[] {10, 11, 10});
        planIs(middle, 1, 10, 7, 131);
        planIs(middle, 1, 11, 5, 128);
        Due.is("a plan of other days", middle.plan(3, 11), 7);
        Due.is("the worth without its plan", middle.worth(1, 10), 131);
        Due.is("nothing is washed by a plan", one.about(1, 4), 5);
        SunRows most = new SunRows();
        for (int row = 0; row < 10; row++) {
            most.row(0, row, 0, 400, 0);
        }
        most.storm(1000);
        planIs(most, 100, 0, 1023, 399999900L);
        planIs(most, 100, 1000000, 1023, 389999900L);
    }

    private static void promise27And28Ties() {
        planIs(fieldOf(new int[] {1}, new int[] {10}), 1, 0, 0, 0);
        planIs(fieldOf(new int[] {3, 1}, new int[] {10, 10}), 1, 0, 1, 20);
        planIs(fieldOf(new int[] {1, 3}, new int[] {10, 10}), 1, 0, 2, 20);
        planIs(fieldOf(new int[] {2, 0, 2}, new int[] {10, 10, 10}), 1, 0, 1, 10);
        planIs(fieldOf(new int[] {1, 0, 1}, new int[] {15, 10, 15}), 1, 0, 1, 5);
        planIs(fieldOf(new int[] {9, 5, 9}, new int[] {10, 10, 10}), 1, 50, 5, 50);
    }

    private static void promise27And28Findings() {
        SunRows x = fieldOf(new int[] {1000}, new int[] {10});
        int[][] wrong = {{0, 0}, {101, 0}, {-1, 0}, {1, -1}, {1, 1000001},
            {Integer.MIN_VALUE, 5}, {5, Integer.MAX_VALUE}};
        for (int[] told : wrong) {
            planIs(x, told[0], told[1], Due.BEYOND, Due.BEYOND);
        }
        Due.is("they were counted", x.found(Due.BEYOND), 2 * wrong.length);
        planIs(x, 100, 1000000, 0, 0);
        planIs(x, 100, 0, 1, 999990);
    }

    private static void promise29Wash() {
        SunRows x = fieldOf(new int[] {7, 0, 9, 11}, new int[] {10, 10, 10, 10});
        Due.is("none", x.wash(0), 0);
        Due.is("16 is no row", x.wash(16), Due.BEYOND);
        Due.is("17 has one that is no row", x.wash(17), Due.BEYOND);
        Due.is("-1", x.wash(-1), Due.BEYOND);
        Due.is("the least", x.wash(Integer.MIN_VALUE), Due.BEYOND);
        Due.is("nothing was washed", x.about(0, 4), 7);
        Due.is("two of three lost some", x.wash(7), 2);
        Due.is("row 0", x.about(0, 4), 0);
        Due.is("row 2", x.about(2, 4), 0);
        Due.is("row 3 isn't of the set", x.about(3, 4), 11);
        Due.is("all", x.wash(15), 1);
        Due.is("again", x.wash(15), 0);
        x.dust(3, 1);
        Due.is("1 is some, too", x.wash(8), 1);
        Due.is("no rows, none washed", new SunRows().wash(0), 0);
        Due.is("no rows, one told", new SunRows().wash(1), Due.BEYOND);
    }

    private static void promise30Storm() {
        SunRows x = fieldOf(new int[] {0, 500, 999}, new int[] {10, 10, 10});
        Due.is("0 more", x.storm(0), 1499);
        Due.is("1 more", x.storm(1), 1502);
        Due.is("1 more", x.storm(1), 1504);
        Due.is("1000 at most", x.about(2, 4), 1000);
        Due.is("1001", x.storm(1001), Due.BEYOND);
        Due.is("-1", x.storm(-1), Due.BEYOND);
        Due.is("it is as it was", x.about(0, 4), 2);
        Due.is("1000 more", x.storm(1000), 3000);
        Due.is("no rows", new SunRows().storm(1000), 0);
    }
}
