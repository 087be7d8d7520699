/** Promises 15 to 18: strings, their ceilings, and what rows and strings give. */
final class StringsTest {
    public static void main(String[] args) {
        promise15String();
        promise16Ceiling();
        promise17Current();
        promise17CurrentInShade();
        promise18Gives();
        Due.end();
    }

    private static void promise15String() {
        SunRows x = new SunRows();
        x.row(0, 0, 0, 100, 0);
        x.row(1, 500, 0, 100, 0);
        Due.is("into 0", x.string(0, 0), -1);
        Due.is("into 3", x.string(0, 3), 0);
        Due.is("it is in 3", x.about(0, 6), 3);
        Due.is("the other one isn't", x.about(1, 6), -1);
        Due.is("a STUCK one, too", x.string(1, 3), -1);
        Due.is("the same again", x.string(1, 3), 3);
        Due.is("out", x.string(0, -1), 3);
        Due.is("it is out", x.string(0, -1), -1);
        Due.is("string 4", x.string(0, 4), Due.BEYOND);
        Due.is("string -2", x.string(0, -2), Due.BEYOND);
        Due.is("row 2", x.string(2, 0), Due.BEYOND);
        Due.is("row -1", x.string(-1, 0), Due.BEYOND);
        Due.is("nothing has moved", x.about(0, 6), -1);
    }

    private static void promise16Ceiling() {
        SunRows x = new SunRows();
        for (int string = 0; string < 4; string++) {
            Due.is("at first", x.ceiling(string, string), 1000000);
        }
        for (int string = 0; string < 4; string++) {
            Due.is("then", x.ceiling(string, 1000000), string);
        }
        Due.is("0 is fine", x.ceiling(0, 0), 1000000);
        Due.is("1000001", x.ceiling(0, 1000001), Due.BEYOND);
        Due.is("-1", x.ceiling(0, -1), Due.BEYOND);
        Due.is("string 4", x.ceiling(4, 5), Due.BEYOND);
        Due.is("string -1", x.ceiling(-1, 5), Due.BEYOND);
        Due.is("it is as it was", x.ceiling(0, 7), 0);
    }

    private static void promise17Current() {
        SunRows x = new SunRows();
        x.row(0, 0, 0, 100, 0);
        x.row(0, 500, 0, 10, 0);
        x.row(0, 1000, 0, 11, 0);
        x.sun(12, 0, 1000);
        x.sun(13, 0, 7);
        x.sun(14, 1000, 1);
        Due.is("in no string", x.current(0, 12), 2000);
        x.dust(0, 333);
        x.dust(1, 333);
        Due.is("less dust", x.current(0, 12), 1334);
        Due.is("what is taken is cut: 66", x.current(1, 12), 134);
        x.dust(1, 1000);
        Due.is("all dust", x.current(1, 12), 0);
        Due.is("1.54 is cut", x.current(2, 13), 1);
        x.turn(0, 12);
        Due.is("not LIT", x.current(0, 14), 0);
        Due.is("NIGHT", x.current(0, 0), Due.NONE);
        Due.is("row 3 at NIGHT", x.current(3, 0), Due.BEYOND);
        Due.is("row -1", x.current(-1, 12), Due.BEYOND);
        Due.is("hour 24", x.current(0, 24), Due.BEYOND);
        Due.is("hour -1", x.current(0, -1), Due.BEYOND);
    }

    private static void promise17CurrentInShade() {
        SunRows x = new SunRows();
        x.sun(1, 1000, 500);
        x.row(1, 0, 0, 100, 0);
        x.row(1, 50, 0, 100, 0);
        Due.is("two groups are DARK", x.dark(0, 1), 6);
        Due.is("one group: 333.3 is cut", x.current(0, 1), 333);
        Due.is("all groups", x.current(1, 1), 1000);
        x.dust(0, 100);
        Due.is("33.3 is taken, cut", x.current(0, 1), 300);
        x.drop();
        x.row(1, 70, 0, 100, 0);
        Due.is("one group is DARK", x.dark(0, 1), 4);
        Due.is("two groups: 666, less 66", x.current(0, 1), 600);
    }

    private static void promise18Gives() {
        SunRows x = new SunRows();
        x.sun(12, 0, 1000);
        Due.is("a string of none", x.gives(0, 12), 0);
        int[] widths = {100, 10, 90, 100};
        for (int row = 0; row < widths.length; row++) {
            x.row(0, row * 500, 0, widths[row], 0);
        }
        x.string(0, 1);
        Due.is("one row", x.gives(1, 12), 2000);
        x.string(1, 1);
        Due.is("2 times 200 is less", x.gives(1, 12), 2000);
        x.string(2, 1);
        Due.is("2 times 1800", x.gives(1, 12), 3600);
        x.string(3, 1);
        Due.is("3 times 1800", x.gives(1, 12), 5400);
        x.dust(2, 500);
        Due.is("2 times 2000", x.gives(1, 12), 4000);
        x.ceiling(1, 5);
        Due.is("before the CEILING", x.gives(1, 12), 4000);
        Due.is("another string", x.gives(0, 12), 0);
        Due.is("as rows stand", x.turn(0, 12), 0);
        Due.is("row 0 at 1000, row 2 at 900", x.gives(1, 12), 2700);
        Due.is("NIGHT", x.gives(1, 0), Due.NONE);
        Due.is("string 4 at NIGHT", x.gives(4, 0), Due.BEYOND);
        Due.is("string -1", x.gives(-1, 12), Due.BEYOND);
        Due.is("hour 24", x.gives(0, 24), Due.BEYOND);
        Due.is("hour -1", x.gives(0, -1), Due.BEYOND);
    }
}
