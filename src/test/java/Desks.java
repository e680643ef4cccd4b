/** What the tests share: the document's numbers, desks to begin with, and all that a desk tells. */
abstract class Desks {
    Check check = new Check();

    static final int NO_SUCH = -1, BAD_VALUE = -2, BAD_TEXT = -3, TOO_MANY = -4, NOT_POSSIBLE = -5, NONE = -6;
    static final int GONE = 1000000000;
    static final int MIN = Integer.MIN_VALUE, MAX = Integer.MAX_VALUE;
    static final int[] FIRST = {500, 500, 300, 20000, 50, 8, 30, 300, 100000};
    static final int[] LOWEST = {100, 100, 100, 0, 0, 1, 0, 0, 0};
    static final int[] HIGHEST = {2000, 2000, 1000, 200000, 100, 64, 100, 2000, 900000};

    final void due(String what, long got, long want) {
        check.due(what, got, want);
    }

    /** Puts a text of any length on the pad. */
    static void write(OdometryDesk desk, String text) {
        for (int i = 0; i < text.length(); i += 8) {
            desk.put(number(text.substring(i, Math.min(text.length(), i + 8))));
        }
    }

    static OdometryDesk withText(String text) {
        OdometryDesk desk = new OdometryDesk();
        write(desk, text);
        return desk;
    }

    static long number(String text) {
        long number = 0;
        for (char sign : text.toCharArray()) {
            number = number * 256 + sign;
        }
        return number;
    }

    static OdometryDesk withSteps(int many) {
        OdometryDesk desk = new OdometryDesk();
        for (int i = 0; i < many; i++) {
            desk.step(10, 10, 0);
        }
        return desk;
    }

    /** A desk whose first step is the one given. */
    static OdometryDesk withStep(int left, int right, int turn) {
        OdometryDesk desk = new OdometryDesk();
        desk.step(left, right, turn);
        return desk;
    }

    static OdometryDesk withMarkers(int many) {
        OdometryDesk desk = new OdometryDesk();
        for (int i = 0; i < many; i++) {
            desk.marker(10 * i, 10 * i + 5);
        }
        return desk;
    }

    /** Two markers as far apart as can be, seen by turns: 200 million at first, 400 million each time. */
    static OdometryDesk farApart(int sights) {
        OdometryDesk desk = new OdometryDesk();
        desk.marker(-100000, -100000);
        desk.marker(100000, 100000);
        for (int i = 0; i < sights; i++) {
            desk.see(i % 2);
        }
        return desk;
    }

    /** Something of all that can be saved: 2 corridors, 2 markers, 4 entries. */
    static OdometryDesk furnished() {
        OdometryDesk desk = new OdometryDesk();
        for (int setting = 0; setting < 9; setting++) {
            desk.set(setting, LOWEST[setting] + 50 - (setting == 5 ? 10 : 0));
        }
        desk.set(OdometryDesk.TOLERANCE, 800000);
        desk.corridor(0, 0, 1000, 0, 3);
        desk.corridor(-1000, -2000, 3000, 4000, 1);
        desk.marker(11, 12);
        desk.marker(13, 14);
        desk.begin(1, 2, 30);
        desk.step(100, 101, 500);
        desk.step(0, 0, 500);
        desk.see(1);
        desk.step(50, 51, 52);
        return desk;
    }

    /** All that a desk tells but for the pad; some 100 calls for four entries. */
    static String allOf(OdometryDesk desk) {
        StringBuilder all = new StringBuilder();
        for (int what = 0; what < 21; what++) {
            all.append(what == 11 ? 0 : desk.count(what)).append(' ');
        }
        int entries = desk.count(0);
        for (int entry = -1; entry < entries; entry++) {
            for (int what = 0; what < 7; what++) {
                all.append(desk.pose(entry, what)).append(' ');
            }
            for (int what = 0; what < 11 && entry >= 0; what++) {
                all.append(desk.about(entry, what)).append(' ');
            }
        }
        return all.toString();
    }
}
