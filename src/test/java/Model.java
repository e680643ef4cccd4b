import java.math.BigInteger;
import java.util.ArrayList;
import java.util.List;

/**
 * The document once more, written apart from the program and without care for speed: records and lists,
 * big numbers, a parser that tries completions. The program is compared with it.
 */
final class Model {
    static final int GONE = 1000000000;
    static final int[][] RANGES = {{100, 2000}, {100, 2000}, {100, 1000}, {0, 200000}, {0, 100}, {1, 64}, {0, 100},
        {0, 2000}, {0, 900000}};

    record Corridor(int x1, int y1, int x2, int y2, int direction) { }

    record Marker(int x, int y) { }

    /** A sight has a marker, a step has none. */
    record Entry(Integer marker, int left, int right, int turn) { }

    record World(List<Integer> settings, List<Corridor> corridors, List<Marker> markers, List<Entry> log, int startX,
        int startY, int startHeading) {
        World copy() {
            return new World(new ArrayList<>(settings), new ArrayList<>(corridors), new ArrayList<>(markers),
                new ArrayList<>(log), startX, startY, startHeading);
        }
    }

    /** The vehicle behind an entry, and what the entry tells (null: there is no such number). */
    static final class Point {
        long x, y, heading, way, bias;
        Long[] facts = new Long[11];
    }

    World world = new World(new ArrayList<>(List.of(500, 500, 300, 20000, 50, 8, 30, 300, 100000)), new ArrayList<>(),
        new ArrayList<>(), new ArrayList<>(), 0, 0, 0);
    final World[] slots = new World[2];
    String pad = "";

    static boolean in(long value, long least, long greatest) {
        return least <= value && value <= greatest;
    }

    static boolean far(int... places) {
        for (int place : places) {
            if (!in(place, -100000, 100000)) {
                return true;
            }
        }
        return false;
    }

    static boolean badSetting(int setting, int value) {
        return !in(setting, 0, 8) || !in(value, RANGES[setting][0], RANGES[setting][1]);
    }

    int set(int setting, int value) {
        return badSetting(setting, value) ? -2 : world.settings.set(setting, value);
    }

    int corridor(int x1, int y1, int x2, int y2, int direction) {
        if (far(x1, y1, x2, y2) || !in(direction, 0, 17999)) {
            return -2;
        }
        if (world.corridors.size() == 8) {
            return -4;
        }
        world.corridors.add(new Corridor(x1, y1, x2, y2, direction));
        return world.corridors.size() - 1;
    }

    int marker(int x, int y) {
        if (far(x, y)) {
            return -2;
        }
        if (world.markers.size() == 6) {
            return -4;
        }
        world.markers.add(new Marker(x, y));
        return world.markers.size() - 1;
    }

    int closeCorridor() {
        if (world.corridors.isEmpty()) {
            return -5;
        }
        world.corridors.remove(world.corridors.size() - 1);
        return world.corridors.size();
    }

    int begin(int x, int y, int heading) {
        if (far(x, y) || !in(heading, 0, 3599999)) {
            return -2;
        }
        world = new World(world.settings, world.corridors, world.markers, world.log, x, y, heading);
        return world.log.size();
    }

    int step(int left, int right, int turn) {
        if (!in(left, -300, 300) || !in(right, -300, 300) || !in(turn, -300000, 300000)) {
            return -2;
        }
        return add(new Entry(null, left, right, turn));
    }

    int see(int marker) {
        return !in(marker, 0, world.markers.size() - 1) ? -1 : add(new Entry(marker, 0, 0, 0));
    }

    private int add(Entry entry) {
        if (world.log.size() == 120) {
            return -4;
        }
        world.log.add(entry);
        return world.log.size();
    }

    int cut(int many) {
        if (many < 1 || many > world.log.size()) {
            return -2;
        }
        for (int i = 0; i < many; i++) {
            world.log.remove(world.log.size() - 1);
        }
        return world.log.size();
    }

    /** The points of the whole way: the start first. */
    static List<Point> way(World world, List<Integer> settings) {
        List<Point> points = new ArrayList<>();
        Point start = new Point();
        start.x = world.startX * 1000L;
        start.y = world.startY * 1000L;
        start.heading = world.startHeading;
        points.add(start);
        for (Entry entry : world.log) {
            points.add(next(world, settings, points.get(points.size() - 1), entry));
        }
        return points;
    }

    static Point next(World world, List<Integer> settings, Point from, Entry entry) {
        Point to = new Point();
        to.x = from.x;
        to.y = from.y;
        to.heading = from.heading;
        to.way = from.way;
        to.bias = from.bias;
        if (entry.marker != null) {
            Marker marker = world.markers.get(entry.marker);
            to.x = marker.x * 1000L;
            to.y = marker.y * 1000L;
            to.facts[0] = 4L;
            to.facts[1] = (long) entry.marker;
            to.facts[9] = from.x - to.x;
            to.facts[10] = from.y - to.y;
            return to;
        }
        to.facts[0] = 0L;
        to.facts[1] = (long) entry.left;
        to.facts[2] = (long) entry.right;
        to.facts[3] = (long) entry.turn;
        if (entry.left == 0 && entry.right == 0) {
            to.bias += (16L * entry.turn - from.bias) / settings.get(5);
            return to;
        }
        drive(world, settings, entry, to);
        return to;
    }

    static long divided(BigInteger whole, long divisor) {
        return whole.divide(BigInteger.valueOf(divisor)).longValueExact();
    }

    static BigInteger product(long... factors) {
        BigInteger all = BigInteger.ONE;
        for (long factor : factors) {
            all = all.multiply(BigInteger.valueOf(factor));
        }
        return all;
    }

    static void drive(World world, List<Integer> settings, Entry entry, Point to) {
        long a = (long) settings.get(0) * entry.left;
        long b = (long) settings.get(1) * entry.right;
        long w = divided(product(b - a, 572958), settings.get(2) * 1000L);
        long v = entry.turn - to.bias / 16;
        long s = divided(product(v, settings.get(2), 1000), 572958);
        long gap = w - v;
        long turn = v;
        if (gap > settings.get(3)) {
            to.facts[0] = 3L;
            b = a + s;
        } else if (-gap > settings.get(3)) {
            to.facts[0] = 2L;
            a = b - s;
        } else {
            to.facts[0] = 1L;
            turn = (settings.get(4) * w + (100 - settings.get(4)) * v) / 100;
        }
        long d = (a + b) / 2;
        long angle = wrapped(to.heading + turn / 2, 3600000) / 100;
        to.x += divided(product(d, wave(angle + 9000)), 1000000);
        to.y += divided(product(d, wave(angle)), 1000000);
        to.heading = wrapped(to.heading + turn, 3600000);
        to.way += d < 0 ? -d : d;
        to.facts[4] = w;
        to.facts[5] = turn;
        to.facts[6] = d;
        for (int i = 0; i < world.corridors.size(); i++) {
            Corridor corridor = world.corridors.get(i);
            long e = to.heading - 100L * corridor.direction;
            while (e < -900000) {
                e += 1800000;
            }
            while (e >= 900000) {
                e -= 1800000;
            }
            if (near(corridor, to, settings.get(7)) && in(e, -settings.get(8), settings.get(8))) {
                to.facts[7] = (long) i;
                to.facts[8] = e * settings.get(6) / 100;
                to.heading = wrapped(to.heading - to.facts[8], 3600000);
                return;
            }
        }
    }

    static boolean near(Corridor corridor, Point at, int reach) {
        long x = at.x / 1000;
        long y = at.y / 1000;
        return (x >= corridor.x1 - reach || x >= corridor.x2 - reach)
            && (x <= corridor.x1 + reach || x <= corridor.x2 + reach)
            && (y >= corridor.y1 - reach || y >= corridor.y2 - reach)
            && (y <= corridor.y1 + reach || y <= corridor.y2 + reach);
    }

    static long wrapped(long value, long circle) {
        return BigInteger.valueOf(value).mod(BigInteger.valueOf(circle)).longValueExact();
    }

    /** The sine of an angle of any size. */
    static long wave(long angle) {
        long x = wrapped(angle, 36000);
        if (x > 18000) {
            return -wave(x - 18000);
        }
        long u = x * (18000 - x);
        return divided(product(4000000, u), 405000000 - u);
    }

    int pose(int entry, int what) {
        if (entry < -1 || entry >= world.log.size()) {
            return -1 - GONE;
        }
        if (!in(what, 0, 6)) {
            return -2 - GONE;
        }
        List<Point> points = way(world, world.settings);
        Point at = points.get(entry + 1);
        long[] told = {at.x, at.y, at.heading, at.way, at.bias};
        return (int) (what < 5 ? told[what] : entry < 0 ? told[what - 5] : spread(points, entry, what == 5));
    }

    private long spread(List<Point> points, int entry, boolean isX) {
        boolean isSightItself = world.log.get(entry).marker != null;
        Point placed = points.get(isSightItself ? entry : entry + 1);
        long place = isX ? placed.x : placed.y;
        long p0 = 0;
        for (int i = 0; i < entry; i++) {
            p0 = world.log.get(i).marker == null ? p0 : points.get(i + 1).way;
        }
        for (int i = entry; i < world.log.size(); i++) {
            if (world.log.get(i).marker != null) {
                Point sight = points.get(i + 1);
                if (sight.way == p0) {
                    return place;
                }
                return place - divided(product(sight.facts[isX ? 9 : 10], points.get(entry + 1).way - p0),
                    sight.way - p0);
            }
        }
        return place;
    }

    int about(int entry, int what) {
        if (entry < 0 || entry >= world.log.size()) {
            return -1 - GONE;
        }
        if (!in(what, 0, 10)) {
            return -2 - GONE;
        }
        Long fact = way(world, world.settings).get(entry + 1).facts[what];
        return fact == null ? -6 - GONE : fact.intValue();
    }

    private static int ofKind(List<Point> points, int kind) {
        return (int) points.stream().filter(p -> p.facts[0] != null && p.facts[0] == kind).count();
    }

    private static long errors(List<Point> points) {
        return points.stream().filter(p -> p.facts[9] != null)
            .mapToLong(p -> Math.abs(p.facts[9]) + Math.abs(p.facts[10])).sum();
    }

    int count(int what) {
        if (!in(what, 0, 20)) {
            return -2;
        }
        if (what > 11) {
            return world.settings.get(what - 12);
        }
        List<Point> points = way(world, world.settings);
        return switch (what) {
            case 0 -> world.log.size();
            case 1, 2, 3, 4, 5 -> ofKind(points, what - 1);
            case 6 -> (int) points.stream().filter(p -> p.facts[7] != null).count();
            case 7 -> (int) Math.min(2000000000L, errors(points));
            case 8 -> (int) points.get(points.size() - 1).way;
            case 9 -> world.corridors.size();
            case 10 -> world.markers.size();
            default -> pad.length();
        };
    }

    int wave(int angle, int which) {
        if (!in(angle, 0, 35999) || !in(which, 0, 1)) {
            return -2 - GONE;
        }
        return (int) wave(which == 0 ? angle : angle + 9000L);
    }

    private List<Point> wayWith(int setting, int value) {
        List<Integer> settings = new ArrayList<>(world.settings);
        settings.set(setting, value);
        return way(world, settings);
    }

    int ifSet(int setting, int value, int what) {
        if (badSetting(setting, value) || !in(what, 0, 4)) {
            return -2 - GONE;
        }
        List<Point> points = wayWith(setting, value);
        Point last = points.get(points.size() - 1);
        return switch (what) {
            case 0 -> (int) last.x;
            case 1 -> (int) last.y;
            case 2 -> (int) last.heading;
            case 3 -> ofKind(points, 2) + ofKind(points, 3);
            default -> (int) Math.min(2000000000L, errors(points));
        };
    }

    private boolean hasNoSight() {
        return world.log.stream().allMatch(entry -> entry.marker == null);
    }

    int bestBase() {
        if (hasNoSight()) {
            return -6;
        }
        int now = world.settings.get(2);
        int best = now;
        for (int base = now - 20; base <= now + 20; base++) {
            if (badSetting(2, base)) {
                continue;
            }
            long gain = errors(wayWith(2, best)) - errors(wayWith(2, base));
            int nearer = Math.abs(best - now) - Math.abs(base - now);
            if (gain > 0 || gain == 0 && nearer > 0) {
                best = base;
            }
        }
        return best;
    }

    int bestTrust() {
        if (hasNoSight()) {
            return -6;
        }
        int best = 100;
        for (int trust = 100; trust >= 0; trust -= 10) {
            best = errors(wayWith(4, trust)) <= errors(wayWith(4, best)) ? trust : best;
        }
        return best;
    }

    int put(long characters) {
        StringBuilder text = new StringBuilder();
        for (int shift = 56; shift >= 0; shift -= 8) {
            int code = (int) (characters >> shift & 255);
            if (code == 0 && text.length() == 0) {
                continue;
            }
            if (!in(code, 33, 126)) {
                return -2;
            }
            text.append((char) code);
        }
        if (text.length() == 0) {
            return -2;
        }
        if (pad.length() + text.length() > 100) {
            return -4;
        }
        pad += text;
        return pad.length();
    }

    int wipe() {
        int length = pad.length();
        pad = "";
        return length;
    }

    /** A text that is complete as it is. */
    static boolean isWhole(String text) {
        for (String entry : text.split(";", -1)) {
            if (entry.matches("m[0-5]")) {
                continue;
            }
            String[] numbers = entry.split(",", -1);
            if (numbers.length != 3 || !isNumber(numbers[0], 300) || !isNumber(numbers[1], 300)
                || !isNumber(numbers[2], 300000)) {
                return false;
            }
        }
        return true;
    }

    private static boolean isNumber(String text, int most) {
        return text.matches("-?(0|[1-9][0-9]{0,5})") && Math.abs(Integer.parseInt(text)) <= most;
    }

    /** A text that some characters behind it, or none, would make complete. */
    static boolean canGoOn(String text) {
        for (String rest : new String[] {"", "0", ",0", "0,0", ",0,0", "0,0,0"}) {
            if (isWhole(text + rest)) {
                return true;
            }
        }
        return false;
    }

    int fault() {
        for (int i = 0; i < pad.length(); i++) {
            if (!canGoOn(pad.substring(0, i + 1))) {
                return i;
            }
        }
        return isWhole(pad) ? -6 : pad.length();
    }

    int load() {
        if (fault() != -6) {
            return -3;
        }
        int added = 0;
        for (String entry : pad.split(";")) {
            String[] numbers = entry.split(",");
            int answer = entry.charAt(0) == 'm' ? see(entry.charAt(1) - '0')
                : step(Integer.parseInt(numbers[0]), Integer.parseInt(numbers[1]), Integer.parseInt(numbers[2]));
            if (answer < 0) {
                break;
            }
            added++;
        }
        pad = "";
        return added;
    }

    int save(int slot) {
        if (!in(slot, 0, 1)) {
            return -2;
        }
        slots[slot] = world.copy();
        return world.log.size();
    }

    int restore(int slot) {
        if (!in(slot, 0, 1)) {
            return -2;
        }
        if (slots[slot] == null) {
            return -5;
        }
        world = slots[slot].copy();
        return world.log.size();
    }
}
