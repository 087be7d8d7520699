/** A field of panels in rows along a slope, hour by hour. ../shared/DOC.md tells every promise. */
public final class SunRows {
    private static final int BEYOND = -1000000001;
    private static final int NONE = -1000000002;
    private static final int KIND = -1000000003;
    private static final int FULL = -1000000004;
    private static final int SIZE = -1000000005;
    private static final int FINDINGS = 5;

    private static final int ROW = 0;
    private static final int STUCK = 1;
    private static final int LATE = 2;

    private static final int WORK = 0;
    private static final int CLEANS = 1;
    private static final int STOW = 2;

    private static final int MOST_ROWS = 10;
    private static final int MOST_STEP = 12;
    private static final int CLEANING_STEP = -12;
    private static final int NO_STEP = 99;
    private static final int HOURS = 24;
    private static final int STRINGS = 4;
    private static final int NO_STRING = -1;
    private static final int MOST_CEILING = 1000000;
    private static final int MOST_DUST = 1000;
    private static final int MOST_WIND = 200;
    private static final int LOST = -1;
    private static final int MOST_TOLD = 72;
    private static final int GROUPS = 3;
    private static final long LIGHT_UNIT = 3000000L;

    private static final int BOOK_LIGHT = 0;
    private static final int BOOK_SHADE = 1;
    private static final int BOOK_DUST = 2;
    private static final int BOOK_STRINGS = 3;
    private static final int BOOK_CEILINGS = 4;
    private static final int BOOK_GIVEN = 5;
    private static final int BOOKED = 6;

    private static final int[] COSINES = {
        10000, 9962, 9848, 9659, 9397, 9063, 8660, 8192, 7660, 7071, 6428, 5736, 5000
    };
    private static final int[] SINES = {
        0, 872, 1736, 2588, 3420, 4226, 5000, 5736, 6428, 7071, 7660, 8192, 8660
    };

    private final Field field = new Field();
    private final Sky sky = new Sky();
    private final Strings strings = new Strings();
    private final Weather weather = new Weather();
    private final Ledger ledger = new Ledger();
    private final Washing washing = new Washing();
    private final Tape tape = new Tape();
    private final int[] answered = new int[FINDINGS];
    private int nextHour = 0;
    private int latestTarget = 0;

    public SunRows() {
    }

    // ---- rows

    public int row(int kind, int place, int height, int width, int step) {
        if (!isKind(kind) || !isWithin(height, -1000, 1000) || !isWithin(width, 10, 400)
                || (kind == STUCK && !isStep(step)) || !isWithin(place, 0, 10000)) {
            return answer(BEYOND);
        }
        if (!field.isAboveLast(place)) {
            return answer(SIZE);
        }
        if (field.count >= MOST_ROWS) {
            return answer(FULL);
        }
        Row made = field.rows[field.count];
        made.begin(kind, place, height, width, step);
        field.count++;
        return field.count - 1;
    }

    public int drop() {
        if (field.count <= 0) {
            return answer(NONE);
        }
        field.count--;
        return field.count;
    }

    public int about(int row, int what) {
        if (!isRow(row)) {
            return answer(BEYOND);
        }
        Row asked = field.rows[row];
        switch (what) {
            case 0:
                return asked.kind;
            case 1:
                return asked.place;
            case 2:
                return asked.height;
            case 3:
                return asked.width;
            case 4:
                return asked.dirt;
            case 5:
                return asked.step;
            case 6:
                return asked.inString;
            default:
                return answer(BEYOND);
        }
    }

    public int as(int row, int kind) {
        if (!isRow(row) || !isKind(kind)) {
            return answer(BEYOND);
        }
        Row asked = field.rows[row];
        if (!asked.isOf(kind)) {
            return answer(KIND);
        }
        return asked.step;
    }

    public int turn(int row, int step) {
        if (!isRow(row) || !isStep(step)) {
            return answer(BEYOND);
        }
        Row turned = field.rows[row];
        if (turned.kind == STUCK) {
            return answer(KIND);
        }
        int had = turned.step;
        turned.step = step;
        return had;
    }

    public int dust(int row, int v) {
        if (!isRow(row) || !isWithin(v, 0, MOST_DUST)) {
            return answer(BEYOND);
        }
        Row dusted = field.rows[row];
        int had = dusted.dirt;
        dusted.dirt = v;
        return had;
    }

    // ---- the sun

    public int sun(int hour, int x, int y) {
        if (!isSunWay(hour, x, y)) {
            return answer(BEYOND);
        }
        sky.put(hour, x, y);
        return sky.isNight(hour) ? 0 : 1;
    }

    public int suns() {
        int told = tape.size;
        if (told % 3 != 0) {
            return answer(SIZE);
        }
        tape.clear();
        // All are looked at before the first is put: one wrong number leaves the sky as it was.
        for (int at = 0; at + 2 < told; at += 3) {
            if (!isSunWay(tape.numbers[at], tape.numbers[at + 1], tape.numbers[at + 2])) {
                return answer(BEYOND);
            }
        }
        for (int at = 0; at + 2 < told; at += 3) {
            sky.put(tape.numbers[at], tape.numbers[at + 1], tape.numbers[at + 2]);
        }
        return told / 3;
    }

    public int ideal(int hour) {
        if (!isHour(hour)) {
            return answer(BEYOND);
        }
        if (sky.isNight(hour)) {
            return answer(NONE);
        }
        return field.idealStep(sky.x[hour], sky.y[hour]);
    }

    public int back(int hour) {
        if (!isHour(hour)) {
            return answer(BEYOND);
        }
        if (sky.isNight(hour)) {
            return answer(KIND);
        }
        int step = field.backStep(sky.x[hour], sky.y[hour]);
        return step == NO_STEP ? answer(NONE) : step;
    }

    public long breadth(int row, int hour) {
        int finding = findingOfSight(row, hour);
        if (finding != 0) {
            return answer(finding);
        }
        lookFrom(hour);
        return field.looks.stretch(row);
    }

    public long shade(int row, int hour) {
        int finding = findingOfShade(row, hour);
        if (finding != 0) {
            return answer(finding);
        }
        field.castShade(row);
        return field.looks.shaded();
    }

    public int dark(int row, int hour) {
        int finding = findingOfShade(row, hour);
        if (finding != 0) {
            return answer(finding);
        }
        field.castShade(row);
        return field.looks.darkGroups(row);
    }

    // ---- strings

    public int string(int row, int string) {
        if (!isRow(row) || !isWithin(string, NO_STRING, STRINGS - 1)) {
            return answer(BEYOND);
        }
        Row moved = field.rows[row];
        int was = moved.inString;
        moved.inString = string;
        return was;
    }

    public int ceiling(int string, int v) {
        if (!isString(string) || !isWithin(v, 0, MOST_CEILING)) {
            return answer(BEYOND);
        }
        int was = strings.ceilings[string];
        strings.ceilings[string] = v;
        return was;
    }

    public int current(int row, int hour) {
        int finding = findingOfSight(row, hour);
        if (finding != 0) {
            return answer(finding);
        }
        lookFrom(hour);
        field.weigh(row);
        return field.currents[row];
    }

    public int gives(int string, int hour) {
        if (!isString(string) || !isHour(hour)) {
            return answer(BEYOND);
        }
        if (sky.isNight(hour)) {
            return answer(NONE);
        }
        lookFrom(hour);
        field.weighAll();
        strings.rank(field, string);
        return strings.best();
    }

    // ---- hours and days

    public int wind(int hour, int v) {
        if (!isHour(hour) || !isWithin(v, LOST, MOST_WIND)) {
            return answer(BEYOND);
        }
        weather.readings[hour] = v;
        return v == LOST ? 0 : 1;
    }

    public int limit(int v) {
        if (!isWithin(v, 1, MOST_WIND)) {
            return answer(BEYOND);
        }
        int was = weather.stowAt;
        weather.stowAt = v;
        return was;
    }

    public int cleaning(int hour, boolean on) {
        if (!isHour(hour)) {
            return answer(BEYOND);
        }
        boolean isNew = weather.cleans[hour] != on;
        weather.cleans[hour] = on;
        return isNew ? 1 : 0;
    }

    public int hour() {
        passHour();
        return ledger.state;
    }

    public long hours(int n) {
        if (!isWithin(n, 1, 2 * HOURS)) {
            return answer(BEYOND);
        }
        long given = 0;
        for (int gone = 0; gone < n; gone++) {
            passHour();
            given += ledger.latest[BOOK_GIVEN];
        }
        return given;
    }

    public long book(int what) {
        if (!ledger.isBegun) {
            return answer(NONE);
        }
        if (isWithin(what, 0, BOOKED - 1)) {
            return ledger.latest[what];
        }
        if (what == BOOKED) {
            return ledger.state;
        }
        if (what == BOOKED + 1) {
            return ledger.whichHour;
        }
        return answer(BEYOND);
    }

    public long all(int what) {
        if (!isWithin(what, 0, BOOKED - 1)) {
            return answer(BEYOND);
        }
        return ledger.sums[what];
    }

    public int next() {
        return nextHour;
    }

    // ---- dust

    public int plan(int days, int price) {
        if (!isWashPlan(days, price)) {
            return answer(BEYOND);
        }
        washing.choose(field, days, price);
        return washing.bestSet;
    }

    public long worth(int days, int price) {
        if (!isWashPlan(days, price)) {
            return answer(BEYOND);
        }
        washing.choose(field, days, price);
        return washing.bestValue;
    }

    public int wash(int set) {
        if (set < 0 || (set >> field.count) != 0) {
            return answer(BEYOND);
        }
        return field.washRows(set);
    }

    public int storm(int v) {
        if (!isWithin(v, 0, MOST_DUST)) {
            return answer(BEYOND);
        }
        return field.addDust(v);
    }

    // ---- what is told

    public int tell(int v) {
        if (tape.size >= MOST_TOLD) {
            return answer(FULL);
        }
        tape.append(v);
        return tape.size;
    }

    public int check() {
        int told = tape.size;
        tape.clear();
        if (!ledger.isBegun) {
            return answer(NONE);
        }
        for (int k = 0; k < BOOKED; k++) {
            if (k >= told || tape.numbers[k] != ledger.latest[k]) {
                return 1 + k;
            }
        }
        return told > BOOKED ? 99 : 0;
    }

    public int found(int finding) {
        if (!isWithin(finding, SIZE, BEYOND)) {
            return answer(BEYOND);
        }
        return answered[BEYOND - finding];
    }

    // ---- findings

    private int answer(int finding) {
        answered[BEYOND - finding]++;
        return finding;
    }

    /** 0 if a row can be looked at from an hour's sun, else the finding. */
    private int findingOfSight(int row, int hour) {
        if (!isRow(row) || !isHour(hour)) {
            return BEYOND;
        }
        return sky.isNight(hour) ? NONE : 0;
    }

    /** Looks at the field, too, as only that tells whether the row is LIT. */
    private int findingOfShade(int row, int hour) {
        int finding = findingOfSight(row, hour);
        if (finding != 0) {
            return finding;
        }
        lookFrom(hour);
        return field.looks.isLit(row) ? 0 : KIND;
    }

    private boolean isRow(int row) {
        return isWithin(row, 0, field.count - 1);
    }

    private static boolean isWithin(int v, int least, int most) {
        return v >= least && v <= most;
    }

    private static boolean isKind(int kind) {
        return isWithin(kind, ROW, LATE);
    }

    private static boolean isStep(int step) {
        return isWithin(step, -MOST_STEP, MOST_STEP);
    }

    private static boolean isHour(int hour) {
        return isWithin(hour, 0, HOURS - 1);
    }

    private static boolean isString(int string) {
        return isWithin(string, 0, STRINGS - 1);
    }

    private static boolean isSunWay(int hour, int x, int y) {
        return isHour(hour) && isWithin(x, -1000, 1000) && isWithin(y, 0, 1000);
    }

    private static boolean isWashPlan(int days, int price) {
        return isWithin(days, 1, 100) && isWithin(price, 0, 1000000);
    }

    // ---- the going of hours

    private void lookFrom(int hour) {
        field.lookAsTurned(sky.x[hour], sky.y[hour]);
    }

    private void passHour() {
        int hour = nextHour;
        boolean lateFollows = ledger.isBegun && ledger.state != STOW;
        int state = weather.stateAt(hour);
        int target = targetStep(hour, state);
        field.turnTo(target, lateFollows && state != STOW ? latestTarget : target);
        ledger.begin(hour, state);
        if (!sky.isNight(hour)) {
            lookFrom(hour);
            field.weighAll();
            strings.bookInto(ledger, field);
        }
        ledger.addToSums();
        if (state == CLEANS) {
            field.washAll();
        }
        latestTarget = target;
        nextHour = (hour + 1) % HOURS;
    }

    /** The step that rows should have which are neither STUCK nor LATE. */
    private int targetStep(int hour, int state) {
        if (state == CLEANS) {
            return CLEANING_STEP;
        }
        if (state == STOW || sky.isNight(hour)) {
            return 0;
        }
        int step = field.backStep(sky.x[hour], sky.y[hour]);
        return step == NO_STEP ? field.idealStep(sky.x[hour], sky.y[hour]) : step;
    }

    /** One row of panels. */
    private static final class Row {
        int kind;
        int place;
        int height;
        int width;
        int dirt;
        int step;
        int inString = NO_STRING;

        void begin(int newKind, int newPlace, int newHeight, int newWidth, int stuckStep) {
            kind = newKind;
            place = newPlace;
            height = newHeight;
            width = newWidth;
            dirt = 0;
            step = newKind == STUCK ? stuckStep : 0;
            inString = NO_STRING;
        }

        boolean isOf(int asked) {
            return asked == ROW || asked == kind;
        }

        /** True if it had some. */
        boolean loseDust() {
            boolean had = dirt > 0;
            dirt = 0;
            return had;
        }
    }

    /** The sun's way at each hour; y is 0 at NIGHT. */
    private static final class Sky {
        final int[] x = new int[HOURS];
        final int[] y = new int[HOURS];

        void put(int hour, int newX, int newY) {
            x[hour] = newX;
            y[hour] = newY;
        }

        boolean isNight(int hour) {
            return y[hour] == 0;
        }
    }

    /** The LOOKS of all rows under one sun, and the shade on the row that was asked for last. */
    private static final class Looks {
        private final long[] start = new long[MOST_ROWS];
        private final long[] end = new long[MOST_ROWS];
        private final long[] from = new long[MOST_ROWS];
        private final long[] to = new long[MOST_ROWS];
        private int pieces;

        void put(int at, Row row, int step, int x, int y) {
            long cosine = COSINES[Math.abs(step)];
            long sine = step < 0 ? -SINES[-step] : SINES[step];
            long middle = 20000L * row.place * y - 20000L * row.height * x;
            long half = row.width * (cosine * y - sine * x);
            start[at] = middle - half;
            end[at] = middle + half;
        }

        long stretch(int at) {
            return end[at] - start[at];
        }

        boolean isLit(int at) {
            return end[at] > start[at];
        }

        /** True if some row from first to last takes more than a point of the LIT row's stretch. */
        boolean isShaded(int lit, int first, int last) {
            for (int other = first; other <= last; other++) {
                if (shadeStart(lit, other) < shadeEnd(lit, other)) {
                    return true;
                }
            }
            return false;
        }

        void cast(int lit, int first, int last) {
            pieces = 0;
            for (int other = first; other <= last; other++) {
                addPiece(shadeStart(lit, other), shadeEnd(lit, other));
            }
        }

        // A row ahead that is turned away from the sun shades just as well: its LOOKS stand the
        // other way round then, so the lesser of the two is where its shade begins.
        private long shadeStart(int lit, int other) {
            return Math.max(start[lit], Math.min(start[other], end[other]));
        }

        private long shadeEnd(int lit, int other) {
            return Math.min(end[lit], Math.max(start[other], end[other]));
        }

        /** Keeps pieces in the order of their beginnings, so that what overlaps is counted once. */
        private void addPiece(long begin, long stop) {
            if (begin >= stop || pieces >= MOST_ROWS) {
                return;
            }
            int at = pieces;
            while (at > 0 && from[at - 1] > begin) {
                from[at] = from[at - 1];
                to[at] = to[at - 1];
                at--;
            }
            from[at] = begin;
            to[at] = stop;
            pieces++;
        }

        long shaded() {
            if (pieces == 0) {
                return 0;
            }
            long sum = 0;
            long reached = from[0];
            for (int at = 0; at < pieces; at++) {
                long begin = Math.max(reached, from[at]);
                if (to[at] > begin) {
                    sum += to[at] - begin;
                    reached = to[at];
                }
            }
            return sum;
        }

        /** Three times each number is compared, as a third of the stretch may be no whole one. */
        int darkGroups(int lit) {
            long third = end[lit] - start[lit];
            int bits = 0;
            for (int group = 0; group < GROUPS; group++) {
                long begin = GROUPS * start[lit] + group * third;
                long stop = begin + third;
                for (int at = 0; at < pieces; at++) {
                    if (GROUPS * from[at] < stop && GROUPS * to[at] > begin) {
                        bits |= 1 << group;
                    }
                }
            }
            return bits;
        }
    }

    /** The rows, how they stand to a sun, and what they let through. */
    private static final class Field {
        final Row[] rows = new Row[MOST_ROWS];
        final Looks looks = new Looks();
        final long[] unshaded = new long[MOST_ROWS];
        final long[] taken = new long[MOST_ROWS];
        final int[] currents = new int[MOST_ROWS];
        int count = 0;
        private int sunX = 0;

        Field() {
            for (int at = 0; at < MOST_ROWS; at++) {
                rows[at] = new Row();
            }
        }

        boolean isAboveLast(int place) {
            return count <= 0 || place > rows[count - 1].place;
        }

        int idealStep(int x, int y) {
            int best = 0;
            long most = (long) COSINES[0] * y;
            // From 0 outwards, the lesser first, and only for more: so ties fall as told.
            for (int far = 1; far <= MOST_STEP; far++) {
                long level = (long) COSINES[far] * y;
                long tilt = (long) SINES[far] * x;
                if (level + tilt > most) {
                    most = level + tilt;
                    best = -far;
                }
                if (level - tilt > most) {
                    most = level - tilt;
                    best = far;
                }
            }
            return best;
        }

        /** NO_STEP if there is none. */
        int backStep(int x, int y) {
            int wanted = idealStep(x, y);
            for (int far = 0; far <= 2 * MOST_STEP; far++) {
                if (isFreeAt(wanted - far, x, y)) {
                    return wanted - far;
                }
                if (isFreeAt(wanted + far, x, y)) {
                    return wanted + far;
                }
            }
            return NO_STEP;
        }

        private boolean isFreeAt(int step, int x, int y) {
            if (!isStep(step)) {
                return false;
            }
            sunX = x;
            for (int at = 0; at < count; at++) {
                Row row = rows[at];
                looks.put(at, row, row.kind == STUCK ? row.step : step, x, y);
            }
            for (int at = 0; at < count; at++) {
                if (rows[at].kind != STUCK && looks.isLit(at)
                        && looks.isShaded(at, firstAhead(at), lastAhead(at))) {
                    return false;
                }
            }
            return true;
        }

        void lookAsTurned(int x, int y) {
            sunX = x;
            for (int at = 0; at < count; at++) {
                looks.put(at, rows[at], rows[at].step, x, y);
            }
        }

        private int firstAhead(int at) {
            return sunX > 0 ? at + 1 : 0;
        }

        private int lastAhead(int at) {
            if (sunX == 0) {
                return -1;
            }
            return sunX > 0 ? count - 1 : at - 1;
        }

        void castShade(int lit) {
            looks.cast(lit, firstAhead(lit), lastAhead(lit));
        }

        void weighAll() {
            for (int at = 0; at < count; at++) {
                weigh(at);
            }
        }

        void weigh(int at) {
            unshaded[at] = 0;
            taken[at] = 0;
            currents[at] = 0;
            if (!looks.isLit(at)) {
                return;
            }
            castShade(at);
            int open = GROUPS - Integer.bitCount(looks.darkGroups(at));
            unshaded[at] = open * looks.stretch(at) / LIGHT_UNIT;
            taken[at] = unshaded[at] * rows[at].dirt / 1000;
            currents[at] = (int) (unshaded[at] - taken[at]);
        }

        void turnTo(int target, int lateTarget) {
            for (int at = 0; at < count; at++) {
                Row row = rows[at];
                if (row.kind != STUCK) {
                    row.step = row.kind == LATE ? lateTarget : target;
                }
            }
        }

        void washAll() {
            for (int at = 0; at < count; at++) {
                rows[at].loseDust();
            }
        }

        int washRows(int set) {
            int washed = 0;
            for (int at = 0; at < count; at++) {
                if ((set >> at & 1) == 1 && rows[at].loseDust()) {
                    washed++;
                }
            }
            return washed;
        }

        int addDust(int more) {
            int sum = 0;
            for (int at = 0; at < count; at++) {
                rows[at].dirt = Math.min(MOST_DUST, rows[at].dirt + more);
                sum += rows[at].dirt;
            }
            return sum;
        }
    }

    /** The strings' ceilings, and the currents of the string that was ranked last. */
    private static final class Strings {
        final int[] ceilings = new int[STRINGS];
        private final int[] ranked = new int[MOST_ROWS];
        private int members = 0;

        Strings() {
            for (int at = 0; at < STRINGS; at++) {
                ceilings[at] = MOST_CEILING;
            }
        }

        /** The greatest CURRENT comes first. */
        void rank(Field field, int string) {
            members = 0;
            for (int row = 0; row < field.count; row++) {
                if (field.rows[row].inString == string) {
                    insert(field.currents[row]);
                }
            }
        }

        private void insert(int amount) {
            if (members >= MOST_ROWS) {
                return;
            }
            int at = members;
            while (at > 0 && ranked[at - 1] < amount) {
                ranked[at] = ranked[at - 1];
                at--;
            }
            ranked[at] = amount;
            members++;
        }

        int best() {
            int most = 0;
            for (int at = 0; at < members; at++) {
                most = Math.max(most, (at + 1) * ranked[at]);
            }
            return most;
        }

        private int sumOfRanked() {
            int sum = 0;
            for (int at = 0; at < members; at++) {
                sum += ranked[at];
            }
            return sum;
        }

        void bookInto(Ledger ledger, Field field) {
            for (int row = 0; row < field.count; row++) {
                if (field.rows[row].inString != NO_STRING && field.looks.isLit(row)) {
                    long light = GROUPS * field.looks.stretch(row) / LIGHT_UNIT;
                    ledger.latest[BOOK_LIGHT] += light;
                    ledger.latest[BOOK_SHADE] += light - field.unshaded[row];
                    ledger.latest[BOOK_DUST] += field.taken[row];
                }
            }
            for (int string = 0; string < STRINGS; string++) {
                rank(field, string);
                int most = best();
                int given = Math.min(most, ceilings[string]);
                ledger.latest[BOOK_STRINGS] += sumOfRanked() - most;
                ledger.latest[BOOK_CEILINGS] += most - given;
                ledger.latest[BOOK_GIVEN] += given;
            }
        }
    }

    /** Wind and cleaning hour by hour, and what state the field is in by them. */
    private static final class Weather {
        final int[] readings = new int[HOURS];
        final boolean[] cleans = new boolean[HOURS];
        int stowAt = 50;
        private int lostInARow = 0;
        private boolean isStowed = false;

        Weather() {
            for (int hour = 0; hour < HOURS; hour++) {
                readings[hour] = LOST;
            }
        }

        /** Moves on by that hour: to be asked once for each hour that goes. */
        int stateAt(int hour) {
            int reading = readings[hour];
            lostInARow = reading == LOST ? Math.min(lostInARow + 1, 3) : 0;
            if (reading >= stowAt || lostInARow >= 3) {
                isStowed = true;
            } else if (reading != LOST && reading < stowAt / 2) {
                isStowed = false;
            }
            if (isStowed) {
                return STOW;
            }
            return cleans[hour] ? CLEANS : WORK;
        }
    }

    /** The book of the latest hour, and the sums of all. */
    private static final class Ledger {
        final long[] latest = new long[BOOKED];
        final long[] sums = new long[BOOKED];
        boolean isBegun = false;
        int state = WORK;
        int whichHour = 0;

        void begin(int hour, int newState) {
            isBegun = true;
            whichHour = hour;
            state = newState;
            for (int what = 0; what < BOOKED; what++) {
                latest[what] = 0;
            }
        }

        void addToSums() {
            for (int what = 0; what < BOOKED; what++) {
                sums[what] += latest[what];
            }
        }
    }

    /** Which rows are best washed now. */
    private static final class Washing {
        private static final long WAY = 10;
        int bestSet = 0;
        long bestValue = 0;

        /**
         * For a first and a last row of the set the way is settled, so each row between them is
         * worth taking just if it gains by itself; one that gains nothing would only make the bits
         * greater.
         */
        void choose(Field field, int days, int price) {
            // The empty set gains nothing and costs nothing, so nothing worse is ever chosen.
            bestSet = 0;
            bestValue = 0;
            for (int first = 0; first < field.count; first++) {
                long inner = 0;
                int innerSet = 0;
                long firstGain = gain(field.rows[first], days, price);
                take(firstGain - WAY, 1 << first);
                for (int last = first + 1; last < field.count; last++) {
                    long lastGain = gain(field.rows[last], days, price);
                    take(firstGain + inner + lastGain - WAY * (last - first + 1),
                            1 << first | innerSet | 1 << last);
                    if (lastGain > 0) {
                        inner += lastGain;
                        innerSet |= 1 << last;
                    }
                }
            }
        }

        private static long gain(Row row, int days, int price) {
            return (long) row.dirt * row.width * days - price;
        }

        private void take(long value, int set) {
            if (value > bestValue || (value == bestValue && set < bestSet)) {
                bestValue = value;
                bestSet = set;
            }
        }
    }

    /** Numbers that were told and not yet used. */
    private static final class Tape {
        final int[] numbers = new int[MOST_TOLD];
        int size = 0;

        void append(int v) {
            if (size < MOST_TOLD) {
                numbers[size] = v;
                size++;
            }
        }

        // The numbers themselves stay, as suns() and check() still read those that they took.
        void clear() {
            size = 0;
        }
    }
}
