/** Promises 31 to 33: the tape, the check of the book by it, and the count of findings. */
final class ToldTest {
    private static final int[] FINDINGS = {Due.BEYOND, Due.NONE, Due.KIND, Due.FULL, Due.SIZE};

    public static void main(String[] args) {
        promise31Tell();
        promise32Check();
        promise33Found();
        Due.end();
    }

    private static void promise31Tell() {
        SunRows x = new SunRows();
        for (int told = 1; told <= 72; told++) {
            Due.is("tell", x.tell(told % 2 == 0 ? Integer.MIN_VALUE : Integer.MAX_VALUE), told);
        }
        Due.is("a 73rd", x.tell(0), Due.FULL);
        Due.is("a 74th", x.tell(0), Due.FULL);
        Due.is("counted", x.found(Due.FULL), 2);
        Due.is("no sheet", x.suns(), Due.BEYOND);
        Due.is("it is empty then", x.tell(0), 1);
    }

    private static int checkOf(SunRows x, int... numbers) {
        for (int number : numbers) {
            x.tell(number);
        }
        return x.check();
    }

    private static void promise32Check() {
        SunRows x = new SunRows();
        Due.is("no hour went", checkOf(x, 1, 2, 3), Due.NONE);
        Due.is("the tape is empty", x.tell(1), 1);
        Due.is("no hour went", x.check(), Due.NONE);
        x.row(1, 0, 0, 100, 0);
        x.row(1, 50, 0, 100, 0);
        x.dust(0, 100);
        x.dust(1, 10);
        x.string(0, 0);
        x.string(1, 0);
        x.ceiling(0, 900);
        x.sun(0, 1000, 500);
        x.hour();
        Due.is("as booked", checkOf(x, 2000, 667, 43, 300, 90, 900), 0);
        Due.is("the tape is empty: the first is missing", x.check(), 1);
        Due.is("more", checkOf(x, 2000, 667, 43, 300, 90, 900, 0), 99);
        Due.is("the last is missing", checkOf(x, 2000, 667, 43, 300, 90), 6);
        Due.is("three are missing", checkOf(x, 2000, 667, 43), 4);
        Due.is("the first is wrong", checkOf(x, 2001, 667, 43, 300, 90, 900), 1);
        Due.is("the last is wrong", checkOf(x, 2000, 667, 43, 300, 90, 899), 6);
        Due.is("one is wrong, and more", checkOf(x, 2000, 0, 43, 300, 90, 900, 0), 2);
        Due.is("one is wrong, others missing", checkOf(x, 2000, 667, 44), 3);
        x.hour();
        Due.is("an hour of NIGHT", checkOf(x, 0, 0, 0, 0, 0, 0), 0);
    }

    private static void foundIs(SunRows x, int... due) {
        for (int at = 0; at < due.length; at++) {
            Due.is("found(" + FINDINGS[at] + ")", x.found(FINDINGS[at]), due[at]);
        }
    }

    private static void promise33Found() {
        SunRows x = new SunRows();
        foundIs(x, 0, 0, 0, 0, 0);
        x.drop();
        x.book(0);
        foundIs(x, 0, 2, 0, 0, 0);
        x.back(0);
        foundIs(x, 0, 2, 1, 0, 0);
        x.tell(1);
        x.suns();
        foundIs(x, 0, 2, 1, 0, 1);
        x.breadth(0, 0);
        x.worth(0, 0);
        foundIs(x, 2, 2, 1, 0, 1);
        Due.is("found(0)", x.found(0), Due.BEYOND);
        Due.is("found(-1000000000)", x.found(-1000000000), Due.BEYOND);
        Due.is("found(-1000000006)", x.found(-1000000006), Due.BEYOND);
        Due.is("found of the least", x.found(Integer.MIN_VALUE), Due.BEYOND);
        Due.is("found of the greatest", x.found(Integer.MAX_VALUE), Due.BEYOND);
        foundIs(x, 7, 2, 1, 0, 1);
        for (int told = 0; told < 74; told++) {
            x.tell(0);
        }
        foundIs(x, 7, 2, 1, 3, 1);
    }
}
