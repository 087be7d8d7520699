/** One object of SunRows whose calls are told as text; an object is promised for 512 calls only. */
final class Calls {
    private static final int PROMISED = 512;

    private final SunRows rows = new SunRows();
    private int made = 0;

    long ask(String name, int... told) {
        made++;
        if (made > PROMISED) {
            throw new IllegalStateException("a test asks for more calls than are promised");
        }
        switch (told.length) {
            case 0:
                return askOfNone(name);
            case 1:
                return askOfOne(name, told[0]);
            case 2:
                return askOfTwo(name, told[0], told[1]);
            default:
                return askOfMore(name, told);
        }
    }

    private long askOfNone(String name) {
        switch (name) {
            case "drop":
                return rows.drop();
            case "suns":
                return rows.suns();
            case "hour":
                return rows.hour();
            case "next":
                return rows.next();
            case "check":
                return rows.check();
            default:
                throw new IllegalArgumentException(name);
        }
    }

    private long askOfOne(String name, int a) {
        switch (name) {
            case "ideal":
                return rows.ideal(a);
            case "back":
                return rows.back(a);
            case "limit":
                return rows.limit(a);
            case "hours":
                return rows.hours(a);
            case "book":
                return rows.book(a);
            case "all":
                return rows.all(a);
            case "wash":
                return rows.wash(a);
            case "storm":
                return rows.storm(a);
            case "tell":
                return rows.tell(a);
            case "found":
                return rows.found(a);
            default:
                throw new IllegalArgumentException(name);
        }
    }

    private long askOfTwo(String name, int a, int b) {
        switch (name) {
            case "about":
                return rows.about(a, b);
            case "as":
                return rows.as(a, b);
            case "turn":
                return rows.turn(a, b);
            case "dust":
                return rows.dust(a, b);
            case "breadth":
                return rows.breadth(a, b);
            case "shade":
                return rows.shade(a, b);
            case "dark":
                return rows.dark(a, b);
            case "string":
                return rows.string(a, b);
            case "ceiling":
                return rows.ceiling(a, b);
            case "current":
                return rows.current(a, b);
            case "gives":
                return rows.gives(a, b);
            case "wind":
                return rows.wind(a, b);
            case "cleaning":
                return rows.cleaning(a, b != 0);
            case "plan":
                return rows.plan(a, b);
            case "worth":
                return rows.worth(a, b);
            default:
                throw new IllegalArgumentException(name);
        }
    }

    private long askOfMore(String name, int[] told) {
        if (name.equals("sun") && told.length == 3) {
            return rows.sun(told[0], told[1], told[2]);
        }
        if (name.equals("row") && told.length == 5) {
            return rows.row(told[0], told[1], told[2], told[3], told[4]);
        }
        throw new IllegalArgumentException(name);
    }
}
