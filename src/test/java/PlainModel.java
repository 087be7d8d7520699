import java.util.ArrayList;
import java.util.List;
import java.util.TreeSet;

/**
 * The document once more, in the slowest and plainest way, so that long runs of calls can be held
 * against it: shade point by point, steps and washing sets all tried.
 */
final class PlainModel {
    private static final int[][] TURNS = {
        {10000, 0}, {9962, 872}, {9848, 1736}, {9659, 2588}, {9397, 3420}, {9063, 4226},
        {8660, 5000}, {8192, 5736}, {7660, 6428}, {7071, 7071}, {6428, 7660}, {5736, 8192},
        {5000, 8660}
    };

    private static final class Panel {
        int kind;
        int place;
        int height;
        int width;
        int dust;
        int step;
        int string = -1;
    }

    private final List<Panel> panels = new ArrayList<>();
    private final int[][] suns = new int[24][2];
    private final Integer[] winds = new Integer[24];
    private final boolean[] cleanings = new boolean[24];
    private final int[] ceilings = {1000000, 1000000, 1000000, 1000000};
    private final List<Integer> tape = new ArrayList<>();
    private final List<Integer> states = new ArrayList<>();
    private final List<Integer> targets = new ArrayList<>();
    private final List<long[]> books = new ArrayList<>();
    private final List<Boolean> losts = new ArrayList<>();
    private final int[] found = new int[5];
    private int limit = 50;

    private static boolean in(long v, long least, long most) {
        return least <= v && v <= most;
    }

    private long find(int finding) {
        found[-1000000001 - finding]++;
        return finding;
    }

    private boolean noRow(int row) {
        return !in(row, 0, panels.size() - 1);
    }

    private static boolean noHour(int hour) {
        return !in(hour, 0, 23);
    }

    private boolean night(int hour) {
        return suns[hour][1] == 0;
    }

    // ---- light

    private static long cosine(int step) {
        return TURNS[Math.abs(step)][0];
    }

    private static long sine(int step) {
        return Integer.signum(step) * (long) TURNS[Math.abs(step)][1];
    }

    private long look(int row, int end, int hour, int step) {
        Panel p = panels.get(row);
        int sign = end == 0 ? -1 : 1;
        long first = 20000L * p.place + sign * p.width * cosine(step);
        long second = 20000L * p.height + sign * p.width * sine(step);
        return first * suns[hour][1] - second * suns[hour][0];
    }

    private int[] stepsAsTheyStand() {
        int[] steps = new int[panels.size()];
        for (int row = 0; row < steps.length; row++) {
            steps[row] = panels.get(row).step;
        }
        return steps;
    }

    private long breadthAt(int row, int hour, int[] steps) {
        return look(row, 1, hour, steps[row]) - look(row, 0, hour, steps[row]);
    }

    private List<Integer> ahead(int row, int hour) {
        List<Integer> others = new ArrayList<>();
        for (int other = 0; other < panels.size(); other++) {
            int x = suns[hour][0];
            if ((x > 0 && other > row) || (x < 0 && other < row)) {
                others.add(other);
            }
        }
        return others;
    }

    /** SHADE, three times as great, between two points that are three times as great. */
    private long shadeWithin(int row, int hour, int[] steps, long low, long high) {
        TreeSet<Long> points = new TreeSet<>();
        points.add(low);
        points.add(high);
        List<Integer> others = ahead(row, hour);
        for (int other : others) {
            for (int end = 0; end < 2; end++) {
                long point = 3 * look(other, end, hour, steps[other]);
                if (low < point && point < high) {
                    points.add(point);
                }
            }
        }
        long sum = 0;
        Long before = null;
        for (long point : points) {
            if (before != null && covered(others, hour, steps, before, point)) {
                sum += point - before;
            }
            before = point;
        }
        return sum;
    }

    private boolean covered(List<Integer> others, int hour, int[] steps, long low, long high) {
        for (int other : others) {
            long a = 3 * look(other, 0, hour, steps[other]);
            long b = 3 * look(other, 1, hour, steps[other]);
            if (Math.min(a, b) <= low && high <= Math.max(a, b)) {
                return true;
            }
        }
        return false;
    }

    private long shadeAt(int row, int hour, int[] steps) {
        return shadeWithin(row, hour, steps, 3 * look(row, 0, hour, steps[row]),
                3 * look(row, 1, hour, steps[row])) / 3;
    }

    private int darkAt(int row, int hour, int[] steps) {
        long low = 3 * look(row, 0, hour, steps[row]);
        long third = breadthAt(row, hour, steps);
        int bits = 0;
        for (int group = 0; group < 3; group++) {
            if (shadeWithin(row, hour, steps, low + group * third, low + (group + 1) * third) > 0) {
                bits += 1 << group;
            }
        }
        return bits;
    }

    private int idealAt(int hour) {
        int best = -12;
        for (int step = -12; step <= 12; step++) {
            long now = cosine(step) * suns[hour][1] - sine(step) * suns[hour][0];
            long then = cosine(best) * suns[hour][1] - sine(best) * suns[hour][0];
            if (now > then || (now == then && Math.abs(step) < Math.abs(best))) {
                best = step;
            }
        }
        return best;
    }

    private Integer backAt(int hour) {
        Integer best = null;
        int ideal = idealAt(hour);
        for (int step = -12; step <= 12; step++) {
            if (free(hour, step)
                    && (best == null || Math.abs(step - ideal) < Math.abs(best - ideal))) {
                best = step;
            }
        }
        return best;
    }

    private boolean free(int hour, int step) {
        int[] steps = stepsAsTheyStand();
        for (int row = 0; row < steps.length; row++) {
            if (panels.get(row).kind != 1) {
                steps[row] = step;
            }
        }
        for (int row = 0; row < steps.length; row++) {
            if (panels.get(row).kind != 1 && breadthAt(row, hour, steps) > 0
                    && shadeAt(row, hour, steps) > 0) {
                return false;
            }
        }
        return true;
    }

    /** Of a row: its LIGHT, what its groups let through, and what DUST takes. */
    private long[] through(int row, int hour) {
        int[] steps = stepsAsTheyStand();
        long breadth = breadthAt(row, hour, steps);
        if (breadth <= 0) {
            return new long[3];
        }
        long open = (3 - Integer.bitCount(darkAt(row, hour, steps))) * breadth / 3000000;
        return new long[] {3 * breadth / 3000000, open, open * panels.get(row).dust / 1000};
    }

    private List<Long> currentsOf(int string, int hour) {
        List<Long> currents = new ArrayList<>();
        for (int row = 0; row < panels.size(); row++) {
            if (panels.get(row).string == string) {
                long[] light = through(row, hour);
                currents.add(light[1] - light[2]);
            }
        }
        return currents;
    }

    private static long bestOf(List<Long> currents) {
        long best = 0;
        for (long least : currents) {
            long as = 0;
            for (long other : currents) {
                as += other >= least ? least : 0;
            }
            best = Math.max(best, as);
        }
        return best;
    }

    // ---- hours

    private long pass() {
        int hour = states.size() % 24;
        Integer reading = winds[hour];
        losts.add(reading == null);
        int went = losts.size();
        boolean thirdLost = went >= 3 && losts.get(went - 1) && losts.get(went - 2)
                && losts.get(went - 3);
        boolean stowed = !states.isEmpty() && states.get(states.size() - 1) == 2;
        if ((reading != null && reading >= limit) || thirdLost) {
            stowed = true;
        } else if (stowed && reading != null && reading < limit / 2) {
            stowed = false;
        }
        int state = stowed ? 2 : cleanings[hour] ? 1 : 0;
        int target = targetAt(hour, state);
        boolean lateIsLate = !states.isEmpty() && states.get(states.size() - 1) != 2 && state != 2;
        for (Panel p : panels) {
            if (p.kind == 0 || (p.kind == 2 && !lateIsLate)) {
                p.step = target;
            } else if (p.kind == 2) {
                p.step = targets.get(targets.size() - 1);
            }
        }
        states.add(state);
        targets.add(target);
        books.add(night(hour) ? new long[6] : bookAt(hour));
        if (state == 1) {
            panels.forEach(p -> p.dust = 0);
        }
        return books.get(books.size() - 1)[5];
    }

    private int targetAt(int hour, int state) {
        if (state == 1) {
            return -12;
        }
        if (state == 2 || night(hour)) {
            return 0;
        }
        Integer back = backAt(hour);
        return back == null ? idealAt(hour) : back;
    }

    private long[] bookAt(int hour) {
        long[] book = new long[6];
        for (int row = 0; row < panels.size(); row++) {
            if (panels.get(row).string >= 0) {
                long[] light = through(row, hour);
                book[0] += light[0];
                book[1] += light[0] - light[1];
                book[2] += light[2];
            }
        }
        for (int string = 0; string < 4; string++) {
            List<Long> currents = currentsOf(string, hour);
            long best = bestOf(currents);
            book[3] += currents.stream().mapToLong(Long::longValue).sum() - best;
            book[4] += Math.max(0, best - ceilings[string]);
        }
        book[5] = book[0] - book[1] - book[2] - book[3] - book[4];
        return book;
    }

    private long[] latest() {
        return books.get(books.size() - 1);
    }

    // ---- washing

    private long[] bestWashing(int days, int price) {
        long[] best = {0, 0};
        for (int set = 1; set < 1 << panels.size(); set++) {
            long value = 0;
            int first = Integer.numberOfTrailingZeros(set);
            int last = 31 - Integer.numberOfLeadingZeros(set);
            for (int row = 0; row < panels.size(); row++) {
                if ((set & 1 << row) != 0) {
                    value += (long) panels.get(row).dust * panels.get(row).width * days - price;
                }
            }
            value -= 10L * (last - first + 1);
            if (value > best[1]) {
                best = new long[] {set, value};
            }
        }
        return best;
    }

    // ---- the calls, with the public face's names

    long row(int kind, int place, int height, int width, int step) {
        if (!in(kind, 0, 2) || !in(place, 0, 10000) || !in(height, -1000, 1000)
                || !in(width, 10, 400) || (kind == 1 && !in(step, -12, 12))) {
            return find(Due.BEYOND);
        }
        if (!panels.isEmpty() && panels.get(panels.size() - 1).place >= place) {
            return find(Due.SIZE);
        }
        if (panels.size() == 10) {
            return find(Due.FULL);
        }
        Panel p = new Panel();
        p.kind = kind;
        p.place = place;
        p.height = height;
        p.width = width;
        p.step = kind == 1 ? step : 0;
        panels.add(p);
        return panels.size() - 1;
    }

    long drop() {
        if (panels.isEmpty()) {
            return find(Due.NONE);
        }
        panels.remove(panels.size() - 1);
        return panels.size();
    }

    long about(int row, int what) {
        if (noRow(row) || !in(what, 0, 6)) {
            return find(Due.BEYOND);
        }
        Panel p = panels.get(row);
        return new int[] {p.kind, p.place, p.height, p.width, p.dust, p.step, p.string}[what];
    }

    long as(int row, int kind) {
        if (noRow(row) || !in(kind, 0, 2)) {
            return find(Due.BEYOND);
        }
        Panel p = panels.get(row);
        return kind == 0 || kind == p.kind ? p.step : find(Due.KIND);
    }

    long turn(int row, int step) {
        if (noRow(row) || !in(step, -12, 12)) {
            return find(Due.BEYOND);
        }
        Panel p = panels.get(row);
        if (p.kind == 1) {
            return find(Due.KIND);
        }
        long had = p.step;
        p.step = step;
        return had;
    }

    long dust(int row, int v) {
        if (noRow(row) || !in(v, 0, 1000)) {
            return find(Due.BEYOND);
        }
        long had = panels.get(row).dust;
        panels.get(row).dust = v;
        return had;
    }

    private static boolean isSun(int hour, int x, int y) {
        return !noHour(hour) && in(x, -1000, 1000) && in(y, 0, 1000);
    }

    long sun(int hour, int x, int y) {
        if (!isSun(hour, x, y)) {
            return find(Due.BEYOND);
        }
        suns[hour] = new int[] {x, y};
        return y == 0 ? 0 : 1;
    }

    long suns() {
        if (tape.size() % 3 != 0) {
            return find(Due.SIZE);
        }
        List<Integer> told = new ArrayList<>(tape);
        tape.clear();
        for (int at = 0; at < told.size(); at += 3) {
            if (!isSun(told.get(at), told.get(at + 1), told.get(at + 2))) {
                return find(Due.BEYOND);
            }
        }
        for (int at = 0; at < told.size(); at += 3) {
            sun(told.get(at), told.get(at + 1), told.get(at + 2));
        }
        return told.size() / 3;
    }

    long ideal(int hour) {
        return noHour(hour) ? find(Due.BEYOND) : night(hour) ? find(Due.NONE) : idealAt(hour);
    }

    long back(int hour) {
        if (noHour(hour)) {
            return find(Due.BEYOND);
        }
        if (night(hour)) {
            return find(Due.KIND);
        }
        Integer back = backAt(hour);
        return back == null ? find(Due.NONE) : back;
    }

    private boolean unseen(int row, int hour) {
        return noRow(row) || noHour(hour) || night(hour);
    }

    private long findUnseen(int row, int hour) {
        return find(noRow(row) || noHour(hour) ? Due.BEYOND : Due.NONE);
    }

    long breadth(int row, int hour) {
        return unseen(row, hour) ? findUnseen(row, hour) : breadthAt(row, hour, stepsAsTheyStand());
    }

    long shade(int row, int hour) {
        if (unseen(row, hour)) {
            return findUnseen(row, hour);
        }
        int[] steps = stepsAsTheyStand();
        return breadthAt(row, hour, steps) > 0 ? shadeAt(row, hour, steps) : find(Due.KIND);
    }

    long dark(int row, int hour) {
        if (unseen(row, hour)) {
            return findUnseen(row, hour);
        }
        int[] steps = stepsAsTheyStand();
        return breadthAt(row, hour, steps) > 0 ? darkAt(row, hour, steps) : find(Due.KIND);
    }

    long string(int row, int string) {
        if (noRow(row) || !in(string, -1, 3)) {
            return find(Due.BEYOND);
        }
        long was = panels.get(row).string;
        panels.get(row).string = string;
        return was;
    }

    long ceiling(int string, int v) {
        if (!in(string, 0, 3) || !in(v, 0, 1000000)) {
            return find(Due.BEYOND);
        }
        long was = ceilings[string];
        ceilings[string] = v;
        return was;
    }

    long current(int row, int hour) {
        if (unseen(row, hour)) {
            return findUnseen(row, hour);
        }
        long[] light = through(row, hour);
        return light[1] - light[2];
    }

    long gives(int string, int hour) {
        if (!in(string, 0, 3) || noHour(hour)) {
            return find(Due.BEYOND);
        }
        return night(hour) ? find(Due.NONE) : bestOf(currentsOf(string, hour));
    }

    long wind(int hour, int v) {
        if (noHour(hour) || !in(v, -1, 200)) {
            return find(Due.BEYOND);
        }
        winds[hour] = v == -1 ? null : Integer.valueOf(v);
        return v == -1 ? 0 : 1;
    }

    long limit(int v) {
        if (!in(v, 1, 200)) {
            return find(Due.BEYOND);
        }
        long was = limit;
        limit = v;
        return was;
    }

    long cleaning(int hour, boolean on) {
        if (noHour(hour)) {
            return find(Due.BEYOND);
        }
        boolean was = cleanings[hour];
        cleanings[hour] = on;
        return was == on ? 0 : 1;
    }

    long hour() {
        pass();
        return states.get(states.size() - 1);
    }

    long hours(int n) {
        if (!in(n, 1, 48)) {
            return find(Due.BEYOND);
        }
        long given = 0;
        for (int gone = 0; gone < n; gone++) {
            given += pass();
        }
        return given;
    }

    long book(int what) {
        if (books.isEmpty()) {
            return find(Due.NONE);
        }
        if (!in(what, 0, 7)) {
            return find(Due.BEYOND);
        }
        if (what == 6) {
            return states.get(states.size() - 1);
        }
        return what == 7 ? (states.size() - 1) % 24 : latest()[what];
    }

    long all(int what) {
        if (!in(what, 0, 5)) {
            return find(Due.BEYOND);
        }
        return books.stream().mapToLong(b -> b[what]).sum();
    }

    long next() {
        return states.size() % 24;
    }

    private static boolean isPlan(int days, int price) {
        return in(days, 1, 100) && in(price, 0, 1000000);
    }

    long plan(int days, int price) {
        return isPlan(days, price) ? bestWashing(days, price)[0] : find(Due.BEYOND);
    }

    long worth(int days, int price) {
        return isPlan(days, price) ? bestWashing(days, price)[1] : find(Due.BEYOND);
    }

    long wash(int set) {
        if (!in(set, 0, (1 << panels.size()) - 1)) {
            return find(Due.BEYOND);
        }
        int washed = 0;
        for (int row = 0; row < panels.size(); row++) {
            if ((set & 1 << row) != 0) {
                washed += panels.get(row).dust > 0 ? 1 : 0;
                panels.get(row).dust = 0;
            }
        }
        return washed;
    }

    long storm(int v) {
        if (!in(v, 0, 1000)) {
            return find(Due.BEYOND);
        }
        panels.forEach(p -> p.dust = Math.min(1000, p.dust + v));
        return panels.stream().mapToLong(p -> p.dust).sum();
    }

    long tell(int v) {
        if (tape.size() == 72) {
            return find(Due.FULL);
        }
        tape.add(v);
        return tape.size();
    }

    long check() {
        List<Integer> told = new ArrayList<>(tape);
        tape.clear();
        if (books.isEmpty()) {
            return find(Due.NONE);
        }
        for (int k = 0; k < 6; k++) {
            if (k == told.size() || told.get(k) != latest()[k]) {
                return 1 + k;
            }
        }
        return told.size() == 6 ? 0 : 99;
    }

    long found(int finding) {
        return in(finding, -1000000005, -1000000001) ? found[-1000000001 - finding]
                : find(Due.BEYOND);
    }
}
