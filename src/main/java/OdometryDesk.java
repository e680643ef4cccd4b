import java.util.Arrays;

/** A desk for wheel odometry: ../shared/DOC.md promises what each public method answers. */
public final class OdometryDesk {
    public static final int NO_SUCH = -1, BAD_VALUE = -2, BAD_TEXT = -3, TOO_MANY = -4, NOT_POSSIBLE = -5, NONE = -6;
    public static final int GONE = 1000000000;
    public static final int LEFT = 0, RIGHT = 1, BASE = 2, SLIP = 3, TRUST = 4, BIAS = 5, PULL = 6, REACH = 7, TOLERANCE = 8;

    private static final int MOST_CORRIDORS = 8, MOST_MARKERS = 6, MOST_ENTRIES = 120, MOST_SIGNS = 100, SLOTS = 2;
    private static final int FARTHEST = 100000, MOST_TICKS = 300, MOST_TURN = 300000, MOST_TOLD = 2000000000;
    private static final int CIRCLE = 3600000, HALF_CIRCLE = 1800000, QUARTER_CIRCLE = 900000;
    /** Ten-thousandths of a degree in a turn whose way is as long as its radius. */
    private static final long RADIAN = 572958;

    private static final int[] LOWEST = {100, 100, 100, 0, 0, 1, 0, 0, 0};
    private static final int[] HIGHEST = {2000, 2000, 1000, 200000, 100, 64, 100, 2000, 900000};
    private static final int[] FIRST_VALUES = {500, 500, 300, 20000, 50, 8, 30, 300, 100000};

    private static final int STAND = 0, NO_SLIP = 1, LEFT_SLIPS = 2, RIGHT_SLIPS = 3, SIGHT = 4, KINDS = 5;

    /** Rows of a state: a sight has a marker of 0 or more, a step has NONE there. */
    private static final int LOG_MARKER = 0, LOG_LEFT = 1, LOG_RIGHT = 2, LOG_TURN = 3, LOG_ROWS = 4;
    private static final int LEAST_X = 0, GREATEST_X = 1, LEAST_Y = 2, GREATEST_Y = 3, DIRECTION = 4, CORRIDOR_ROWS = 5;

    /** Rows of a way: the numbers are those that pose() and about() are asked for. */
    private static final int POSE_X = 0, POSE_Y = 1, POSE_HEADING = 2, POSE_WAY = 3, POSE_BIAS = 4, POSE_ROWS = 5;
    private static final int KIND = 0, TICKS_OR_MARKER = 1, RIGHT_TICKS = 2, MEASURED = 3, BY_WHEELS = 4, TAKEN = 5,
        DISTANCE = 6, PULLED_BY = 7, PULLED_HOW_FAR = 8, ERROR_X = 9, ERROR_Y = 10, ABOUT_ROWS = 11;

    private final State state = new State();
    private final State firstSlot = new State();
    private final State secondSlot = new State();
    private final Way way = new Way();
    private final Pad pad = new Pad();
    private final int[] tried = FIRST_VALUES.clone();

    public OdometryDesk() {
    }

    // ---- settings, map, start

    public int set(int setting, int value) {
        if (!isSetting(setting, value)) {
            return BAD_VALUE;
        }
        int previous = item(state.settings, setting);
        keep(state.settings, setting, value);
        return previous;
    }

    public int corridor(int x1, int y1, int x2, int y2, int direction) {
        if (!isPlace(x1, y1) || !isPlace(x2, y2) || !isWithin(direction, 0, 17999)) {
            return BAD_VALUE;
        }
        int number = state.corridorCount;
        if (number >= MOST_CORRIDORS) {
            return TOO_MANY;
        }
        keep(state.corridors, LEAST_X, number, Math.min(x1, x2));
        keep(state.corridors, GREATEST_X, number, Math.max(x1, x2));
        keep(state.corridors, LEAST_Y, number, Math.min(y1, y2));
        keep(state.corridors, GREATEST_Y, number, Math.max(y1, y2));
        keep(state.corridors, DIRECTION, number, direction);
        state.corridorCount = number + 1;
        return number;
    }

    public int marker(int x, int y) {
        if (!isPlace(x, y)) {
            return BAD_VALUE;
        }
        int number = state.markerCount;
        if (number >= MOST_MARKERS) {
            return TOO_MANY;
        }
        keep(state.markers, POSE_X, number, x);
        keep(state.markers, POSE_Y, number, y);
        state.markerCount = number + 1;
        return number;
    }

    public int closeCorridor() {
        if (state.corridorCount <= 0) {
            return NOT_POSSIBLE;
        }
        state.corridorCount--;
        return state.corridorCount;
    }

    public int begin(int x, int y, int heading) {
        if (!isPlace(x, y) || !isWithin(heading, 0, CIRCLE - 1)) {
            return BAD_VALUE;
        }
        state.startX = x;
        state.startY = y;
        state.startHeading = heading;
        return state.entries;
    }

    // ---- the log

    public int step(int left, int right, int turn) {
        return state.addStep(left, right, turn);
    }

    public int see(int marker) {
        return state.addSight(marker);
    }

    public int cut(int many) {
        if (many < 1 || many > state.entries) {
            return BAD_VALUE;
        }
        state.entries -= many;
        return state.entries;
    }

    // ---- what there is

    public int pose(int entry, int what) {
        if (!isWithin(entry, -1, state.entries - 1)) {
            return NO_SUCH - GONE;
        }
        if (!isWithin(what, 0, 6)) {
            return BAD_VALUE - GONE;
        }
        way.follow(state, state.settings);
        return what < POSE_ROWS ? way.behind(entry, what) : way.spreadPlace(entry, what - POSE_ROWS, state.entries);
    }

    public int about(int entry, int what) {
        if (!isWithin(entry, 0, state.entries - 1)) {
            return NO_SUCH - GONE;
        }
        if (!isWithin(what, 0, ABOUT_ROWS - 1)) {
            return BAD_VALUE - GONE;
        }
        way.follow(state, state.settings);
        return item(way.facts, what, entry);
    }

    public int count(int what) {
        if (!isWithin(what, 0, 20)) {
            return BAD_VALUE;
        }
        if (what >= 12) {
            return item(state.settings, what - 12);
        }
        way.follow(state, state.settings);
        switch (what) {
            case 0: return state.entries;
            case 6: return way.pulls;
            case 7: return way.toldErrors();
            case 8: return way.length;
            case 9: return state.corridorCount;
            case 10: return state.markerCount;
            case 11: return pad.length;
            default: return item(way.kinds, what - 1);
        }
    }

    public int wave(int angle, int which) {
        if (!isWithin(angle, 0, 35999) || !isWithin(which, 0, 1)) {
            return BAD_VALUE - GONE;
        }
        return sine(which == 0 ? angle : angleOfCosine(angle));
    }

    // ---- what if; nothing changes

    public int ifSet(int setting, int value, int what) {
        if (!isSetting(setting, value) || !isWithin(what, 0, 4)) {
            return BAD_VALUE - GONE;
        }
        errorsWith(setting, value);
        switch (what) {
            case 0: return way.x;
            case 1: return way.y;
            case 2: return way.heading;
            case 3: return item(way.kinds, LEFT_SLIPS) + item(way.kinds, RIGHT_SLIPS);
            default: return way.toldErrors();
        }
    }

    public int bestBase() {
        if (!state.hasSights()) {
            return NONE;
        }
        int base = item(state.settings, BASE);
        int best = base;
        long least = errorsWith(BASE, base);
        // From the base outwards, the lesser one first: an equal one behind it is never better.
        for (int off = 1; off <= 20; off++) {
            for (int tryOut = base - off; tryOut <= base + off; tryOut += 2 * off) {
                if (isSetting(BASE, tryOut)) {
                    long errors = errorsWith(BASE, tryOut);
                    if (errors < least) {
                        least = errors;
                        best = tryOut;
                    }
                }
            }
        }
        return best;
    }

    public int bestTrust() {
        if (!state.hasSights()) {
            return NONE;
        }
        int best = 0;
        long least = errorsWith(TRUST, 0);
        for (int trust = 10; trust <= 100; trust += 10) {
            long errors = errorsWith(TRUST, trust);
            if (errors < least) {
                least = errors;
                best = trust;
            }
        }
        return best;
    }

    // ---- texts

    public int put(long characters) {
        int many = Pad.signsIn(characters);
        if (many == 0) {
            return BAD_VALUE;
        }
        if (pad.length + many > MOST_SIGNS) {
            return TOO_MANY;
        }
        pad.append(characters, many);
        return pad.length;
    }

    public int wipe() {
        int length = pad.length;
        pad.length = 0;
        return length;
    }

    public int fault() {
        return pad.findFault();
    }

    public int load() {
        if (pad.findFault() != NONE) {
            return BAD_TEXT;
        }
        int added = 0;
        pad.at = 0;
        // An entry takes two signs at least, so that there are fewer entries than signs.
        for (int i = 0; i < MOST_SIGNS && pad.at < pad.length && pad.readEntry(); i++) {
            pad.takes(';');
            if (addRead() < 0) {
                break;
            }
            added++;
        }
        pad.length = 0;
        return added;
    }

    // ---- saving

    public int save(int slot) {
        if (!isWithin(slot, 0, SLOTS - 1)) {
            return BAD_VALUE;
        }
        State kept = slotOf(slot);
        kept.takeOver(state);
        kept.isSaved = true;
        return state.entries;
    }

    public int restore(int slot) {
        if (!isWithin(slot, 0, SLOTS - 1)) {
            return BAD_VALUE;
        }
        State kept = slotOf(slot);
        if (!kept.isSaved) {
            return NOT_POSSIBLE;
        }
        state.takeOver(kept);
        return state.entries;
    }

    // ---- what the methods above share

    private State slotOf(int slot) {
        return slot == 0 ? firstSlot : secondSlot;
    }

    private int addRead() {
        int first = item(pad.numbers, 0);
        return pad.isSight ? state.addSight(first) : state.addStep(first, item(pad.numbers, 1), item(pad.numbers, 2));
    }

    /** The sum of the errors if a setting had another value; the way is then the one that there would be. */
    private long errorsWith(int setting, int value) {
        copy(state.settings, tried);
        keep(tried, setting, value);
        way.follow(state, tried);
        return way.errors;
    }

    private static boolean isWithin(int value, int least, int greatest) {
        return value >= least && value <= greatest;
    }

    private static boolean isPlace(int x, int y) {
        return isWithin(x, -FARTHEST, FARTHEST) && isWithin(y, -FARTHEST, FARTHEST);
    }

    private static boolean isSetting(int setting, int value) {
        return setting >= 0 && setting < LOWEST.length && setting < HIGHEST.length
            && isWithin(value, LOWEST[setting], HIGHEST[setting]);
    }

    private static int sine(int angle) {
        long x = angle > 18000 ? angle - 18000 : angle;
        long u = x * (18000 - x);
        int height = (int) ratio(4000000 * u, 405000000 - u);
        return angle > 18000 ? -height : height;
    }

    private static int angleOfCosine(int angle) {
        return (angle + 9000) % 36000;
    }

    private static int asHeading(long angle) {
        return (int) Math.floorMod(angle, (long) CIRCLE);
    }

    // Indexes and divisors that are no constants go through these, so that the machine never throws.

    private static long ratio(long whole, long divisor) {
        return divisor == 0 ? 0 : whole / divisor;
    }

    private static int item(int[] row, int index) {
        return index >= 0 && index < row.length ? row[index] : 0;
    }

    private static void keep(int[] row, int index, int value) {
        if (index >= 0 && index < row.length) {
            row[index] = value;
        }
    }

    private static int item(int[][] rows, int row, int index) {
        return row >= 0 && row < rows.length && index >= 0 && index < rows[row].length ? rows[row][index] : 0;
    }

    private static void keep(int[][] rows, int row, int index, int value) {
        if (row >= 0 && row < rows.length && index >= 0 && index < rows[row].length) {
            rows[row][index] = value;
        }
    }

    private static void copy(int[] from, int[] to) {
        System.arraycopy(from, 0, to, 0, Math.min(from.length, to.length));
    }

    private static void copy(int[][] from, int[][] to) {
        for (int row = 0; row < from.length && row < to.length; row++) {
            copy(from[row], to[row]);
        }
    }

    /** All that is saved in a slot: the settings, the map, the start and the log. */
    private static final class State {
        final int[] settings = FIRST_VALUES.clone();
        final int[][] corridors = new int[CORRIDOR_ROWS][MOST_CORRIDORS];
        final int[][] markers = new int[2][MOST_MARKERS];
        final int[][] log = new int[LOG_ROWS][MOST_ENTRIES];
        int corridorCount, markerCount, entries;
        int startX, startY, startHeading;
        boolean isSaved;

        void takeOver(State other) {
            copy(other.settings, settings);
            copy(other.corridors, corridors);
            copy(other.markers, markers);
            copy(other.log, log);
            corridorCount = other.corridorCount;
            markerCount = other.markerCount;
            entries = other.entries;
            startX = other.startX;
            startY = other.startY;
            startHeading = other.startHeading;
        }

        int addStep(int left, int right, int turn) {
            if (!isWithin(left, -MOST_TICKS, MOST_TICKS) || !isWithin(right, -MOST_TICKS, MOST_TICKS)
                || !isWithin(turn, -MOST_TURN, MOST_TURN)) {
                return BAD_VALUE;
            }
            if (entries >= MOST_ENTRIES) {
                return TOO_MANY;
            }
            keep(log, LOG_MARKER, entries, NONE);
            keep(log, LOG_LEFT, entries, left);
            keep(log, LOG_RIGHT, entries, right);
            keep(log, LOG_TURN, entries, turn);
            entries++;
            return entries;
        }

        int addSight(int number) {
            if (!isWithin(number, 0, markerCount - 1)) {
                return NO_SUCH;
            }
            if (entries >= MOST_ENTRIES) {
                return TOO_MANY;
            }
            keep(log, LOG_MARKER, entries, number);
            entries++;
            return entries;
        }

        boolean isSight(int entry) {
            return item(log, LOG_MARKER, entry) >= 0;
        }

        boolean hasSights() {
            for (int entry = 0; entry < entries; entry++) {
                if (isSight(entry)) {
                    return true;
                }
            }
            return false;
        }

        boolean isNear(int corridor, int x, int y, int reach) {
            return isWithin(x, item(corridors, LEAST_X, corridor) - reach, item(corridors, GREATEST_X, corridor) + reach)
                && isWithin(y, item(corridors, LEAST_Y, corridor) - reach, item(corridors, GREATEST_Y, corridor) + reach);
        }
    }

    /** The way of the vehicle along a log; its rows are filled anew each time it is followed. */
    private static final class Way {
        /** Behind each entry, and first of all at the start: an entry's column is its number plus 1. */
        final int[][] poses = new int[POSE_ROWS][MOST_ENTRIES + 1];
        final int[][] facts = new int[ABOUT_ROWS][MOST_ENTRIES];
        final int[] kinds = new int[KINDS];
        int x, y, heading, length, bias;
        int pulls;
        long errors;
        /** Of the step that is being driven. */
        int turn, distance;

        void follow(State state, int[] settings) {
            x = 1000 * state.startX;
            y = 1000 * state.startY;
            heading = state.startHeading;
            length = 0;
            bias = 0;
            pulls = 0;
            errors = 0;
            Arrays.fill(kinds, 0);
            for (int row = 0; row < facts.length; row++) {
                Arrays.fill(facts[row], NONE - GONE);
            }
            keepPose(0);
            for (int entry = 0; entry < state.entries; entry++) {
                if (state.isSight(entry)) {
                    meet(state, entry);
                } else {
                    go(state, settings, entry);
                }
                keepPose(entry + 1);
            }
        }

        int toldErrors() {
            return (int) Math.min(errors, MOST_TOLD);
        }

        int behind(int entry, int what) {
            return item(poses, what, entry + 1);
        }

        int spreadPlace(int entry, int axis, int entries) {
            int sight = firstSightFrom(entry, entries);
            if (entry < 0 || sight >= entries) {
                return behind(entry, axis);
            }
            int place = sight == entry ? behind(entry - 1, axis) : behind(entry, axis);
            int from = behind(lastSightAhead(entry), POSE_WAY);
            int span = behind(sight, POSE_WAY) - from;
            if (span == 0) {
                return place;
            }
            long error = item(facts, ERROR_X + axis, sight);
            return (int) (place - ratio(error * (behind(entry, POSE_WAY) - from), span));
        }

        private int firstSightFrom(int entry, int entries) {
            int sight = entry;
            while (sight < entries && item(facts, KIND, sight) != SIGHT) {
                sight++;
            }
            return sight;
        }

        /** The start, -1, if there is no sight ahead: the way up to it is 0. */
        private int lastSightAhead(int entry) {
            int sight = entry - 1;
            while (sight >= 0 && item(facts, KIND, sight) != SIGHT) {
                sight--;
            }
            return sight;
        }

        private void keepPose(int column) {
            keep(poses, POSE_X, column, x);
            keep(poses, POSE_Y, column, y);
            keep(poses, POSE_HEADING, column, heading);
            keep(poses, POSE_WAY, column, length);
            keep(poses, POSE_BIAS, column, bias);
        }

        private void keepKind(int entry, int kind) {
            keep(facts, KIND, entry, kind);
            keep(kinds, kind, item(kinds, kind) + 1);
        }

        private void meet(State state, int entry) {
            int number = item(state.log, LOG_MARKER, entry);
            int markerX = 1000 * item(state.markers, POSE_X, number);
            int markerY = 1000 * item(state.markers, POSE_Y, number);
            keepKind(entry, SIGHT);
            keep(facts, TICKS_OR_MARKER, entry, number);
            keep(facts, ERROR_X, entry, x - markerX);
            keep(facts, ERROR_Y, entry, y - markerY);
            errors += (long) Math.abs(x - markerX) + Math.abs(y - markerY);
            x = markerX;
            y = markerY;
        }

        private void go(State state, int[] settings, int entry) {
            int left = item(state.log, LOG_LEFT, entry);
            int right = item(state.log, LOG_RIGHT, entry);
            int measured = item(state.log, LOG_TURN, entry);
            keep(facts, TICKS_OR_MARKER, entry, left);
            keep(facts, RIGHT_TICKS, entry, right);
            keep(facts, MEASURED, entry, measured);
            if (left == 0 && right == 0) {
                keepKind(entry, STAND);
                bias += (int) ratio(16 * measured - bias, item(settings, BIAS));
                return;
            }
            weighStep(settings, entry, (long) item(settings, LEFT) * left, (long) item(settings, RIGHT) * right);
            keep(facts, TAKEN, entry, turn);
            keep(facts, DISTANCE, entry, distance);
            move();
            followCorridor(state, settings, entry);
        }

        private void weighStep(int[] settings, int entry, long leftWay, long rightWay) {
            long base = 1000L * item(settings, BASE);
            long byWheels = ratio((rightWay - leftWay) * RADIAN, base);
            long byRate = item(facts, MEASURED, entry) - bias / 16;
            keep(facts, BY_WHEELS, entry, (int) byWheels);
            if (Math.abs(byWheels - byRate) <= item(settings, SLIP)) {
                int trust = item(settings, TRUST);
                keepKind(entry, NO_SLIP);
                turn = (int) ((trust * byWheels + (100 - trust) * byRate) / 100);
                distance = (int) ((leftWay + rightWay) / 2);
                return;
            }
            long apart = byRate * base / RADIAN;
            boolean rightSlips = byWheels > byRate;
            keepKind(entry, rightSlips ? RIGHT_SLIPS : LEFT_SLIPS);
            turn = (int) byRate;
            distance = (int) ((rightSlips ? leftWay + (leftWay + apart) : (rightWay - apart) + rightWay) / 2);
        }

        private void move() {
            int angle = asHeading((long) heading + turn / 2) / 100;
            x += (int) ((long) distance * sine(angleOfCosine(angle)) / 1000000);
            y += (int) ((long) distance * sine(angle) / 1000000);
            heading = asHeading((long) heading + turn);
            length += Math.abs(distance);
        }

        private void followCorridor(State state, int[] settings, int entry) {
            for (int corridor = 0; corridor < state.corridorCount; corridor++) {
                int off = offDirection(item(state.corridors, DIRECTION, corridor));
                if (state.isNear(corridor, x / 1000, y / 1000, item(settings, REACH))
                    && Math.abs(off) <= item(settings, TOLERANCE)) {
                    int pull = off * item(settings, PULL) / 100;
                    heading = asHeading((long) heading - pull);
                    pulls++;
                    keep(facts, PULLED_BY, entry, corridor);
                    keep(facts, PULLED_HOW_FAR, entry, pull);
                    return;
                }
            }
        }

        /** A corridor can be driven both ways, so that half a circle makes no difference. */
        private int offDirection(int direction) {
            return Math.floorMod(heading - 100 * direction + QUARTER_CIRCLE, HALF_CIRCLE) - QUARTER_CIRCLE;
        }
    }

    /** The text from which entries are read, with the place that the reading has come to. */
    private static final class Pad {
        final int[] signs = new int[MOST_SIGNS];
        int length;
        int at;
        boolean isSight;
        final int[] numbers = new int[3];

        /** How many characters there are in the number; 0 if they are not as they have to be. */
        static int signsIn(long characters) {
            int many = 0;
            long rest = characters;
            while (many < 8 && rest != 0) {
                if (!isWithin((int) (rest & 255), 33, 126)) {
                    return 0;
                }
                rest >>>= 8;
                many++;
            }
            return many;
        }

        void append(long characters, int many) {
            for (int i = 0; i < many; i++) {
                keep(signs, length + i, (int) (characters >>> 8 * (many - 1 - i) & 255));
            }
            length += many;
        }

        /** What cannot be read stays unread: where the reading stops, the fault is. */
        int findFault() {
            at = 0;
            for (int i = 0; i <= MOST_SIGNS; i++) {
                if (!readEntry()) {
                    return at;
                }
                if (at >= length) {
                    return NONE;
                }
                if (!takes(';')) {
                    return at;
                }
            }
            return at;
        }

        boolean readEntry() {
            isSight = takes('m');
            if (isSight) {
                return readNumber(0, MOST_MARKERS - 1);
            }
            return readInteger(0, MOST_TICKS) && takes(',') && readInteger(1, MOST_TICKS) && takes(',')
                && readInteger(2, MOST_TURN);
        }

        boolean takes(char sign) {
            if (at >= length || item(signs, at) != sign) {
                return false;
            }
            at++;
            return true;
        }

        private boolean readInteger(int which, int most) {
            boolean isNegative = takes('-');
            if (!readNumber(which, most)) {
                return false;
            }
            if (isNegative) {
                keep(numbers, which, -item(numbers, which));
            }
            return true;
        }

        private boolean readNumber(int which, int most) {
            int value = digit();
            if (value < 0 || value > most) {
                return false;
            }
            at++;
            // Behind a 0 there is no digit, and there is none by which the number would be too great.
            while (at < length && value > 0 && digit() >= 0 && 10 * value + digit() <= most) {
                value = 10 * value + digit();
                at++;
            }
            keep(numbers, which, value);
            return true;
        }

        private int digit() {
            int sign = at < length ? item(signs, at) : 0;
            return isWithin(sign, '0', '9') ? sign - '0' : -1;
        }
    }
}
