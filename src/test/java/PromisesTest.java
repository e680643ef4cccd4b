/** The promises of the document one after the other: ordinary inputs, the edges that it names, wrong inputs. */
public final class PromisesTest extends Desks {
    public static void main(String[] args) {
        PromisesTest test = new PromisesTest();
        test.newObject();
        test.set();
        test.corridor();
        test.marker();
        test.closeCorridor();
        test.begin();
        test.step();
        test.see();
        test.cut();
        test.poseOfSteps();
        test.poseOfSpreadErrors();
        test.poseWithoutWay();
        test.aboutKinds();
        test.aboutSlip();
        test.aboutBias();
        test.aboutCorridors();
        test.aboutNear();
        test.aboutSights();
        test.count();
        test.countIsCut();
        test.wave();
        test.ifSet();
        test.bestBase();
        test.lesserOfTwoBases();
        test.bestTrust();
        test.bestOfUncutSums();
        test.put();
        test.wipe();
        test.fault();
        test.load();
        test.save();
        test.restore();
        test.restoreMap();
        test.anything();
        test.check.close("PromisesTest");
    }

    // ---- 1

    private void newObject() {
        OdometryDesk desk = new OdometryDesk();
        for (int what = 0; what < 12; what++) {
            due("1: count(" + what + ") at first", desk.count(what), 0);
        }
        for (int setting = 0; setting < 9; setting++) {
            due("1: the first value of " + setting, desk.count(12 + setting), FIRST[setting]);
        }
        for (int what = 0; what < 7; what++) {
            due("1: pose(-1, " + what + ") at first", desk.pose(-1, what), 0);
        }
        due("1: there is no entry", desk.pose(0, 0), NO_SUCH - GONE);
        due("1: slot 0 is empty", desk.restore(0), NOT_POSSIBLE);
        due("1: slot 1 is empty", desk.restore(1), NOT_POSSIBLE);
    }

    // ---- 2

    private void set() {
        OdometryDesk desk = new OdometryDesk();
        for (int setting = 0; setting < 9; setting++) {
            String name = "2: set(" + setting + ", ";
            due(name + "least)", desk.set(setting, LOWEST[setting]), FIRST[setting]);
            due(name + "greatest)", desk.set(setting, HIGHEST[setting]), LOWEST[setting]);
            due(name + "too small)", desk.set(setting, LOWEST[setting] - 1), BAD_VALUE);
            due(name + "too great)", desk.set(setting, HIGHEST[setting] + 1), BAD_VALUE);
            due(name + "MIN)", desk.set(setting, MIN), BAD_VALUE);
            due(name + "MAX)", desk.set(setting, MAX), BAD_VALUE);
            due(name + "..) kept", desk.count(12 + setting), HIGHEST[setting]);
            due(name + "first)", desk.set(setting, FIRST[setting]), HIGHEST[setting]);
        }
        for (int setting : new int[] {-1, 9, MIN, MAX}) {
            due("2: set(" + setting + ", 300)", desk.set(setting, 300), BAD_VALUE);
        }
        desk.step(100, 100, 0);
        desk.set(OdometryDesk.LEFT, 600);
        due("2: what is told follows the settings as they are now", desk.about(0, 6), 55000);
    }

    // ---- 3

    private void corridor() {
        OdometryDesk desk = new OdometryDesk();
        int[] good = {0, 0, 0, 0, 0};
        for (int argument = 0; argument < 5; argument++) {
            int[] wrong = argument < 4 ? new int[] {-100001, 100001, MIN, MAX} : new int[] {-1, 18000, MIN, MAX};
            for (int value : wrong) {
                int[] given = good.clone();
                given[argument] = value;
                due("3: argument " + argument + " is " + value,
                    desk.corridor(given[0], given[1], given[2], given[3], given[4]), BAD_VALUE);
            }
        }
        due("3: nothing was added", desk.count(9), 0);
        due("3: the edges", desk.corridor(-100000, 100000, 100000, -100000, 17999), 0);
        for (int number = 1; number < 8; number++) {
            due("3: number " + number, desk.corridor(100000, -100000, -100000, 100000, 0), number);
        }
        due("3: the ninth", desk.corridor(0, 0, 0, 0, 0), TOO_MANY);
        due("3: a wrong ninth", desk.corridor(0, 0, 0, 0, 18000), BAD_VALUE);
        due("3: eight", desk.count(9), 8);
    }

    // ---- 4

    private void marker() {
        OdometryDesk desk = new OdometryDesk();
        for (int value : new int[] {-100001, 100001, MIN, MAX}) {
            due("4: marker(" + value + ", 0)", desk.marker(value, 0), BAD_VALUE);
            due("4: marker(0, " + value + ")", desk.marker(0, value), BAD_VALUE);
        }
        due("4: none was added", desk.count(10), 0);
        due("4: an edge", desk.marker(-100000, 100000), 0);
        for (int number = 1; number < 6; number++) {
            due("4: number " + number, desk.marker(100000, -100000), number);
        }
        due("4: the seventh", desk.marker(0, 0), TOO_MANY);
        due("4: a wrong seventh", desk.marker(0, 100001), BAD_VALUE);
        due("4: six", desk.count(10), 6);
        desk.see(5);
        due("4: x of the last one", desk.pose(0, 0), 100000000);
        due("4: y of the last one", desk.pose(0, 1), -100000000);
    }

    // ---- 5

    private void closeCorridor() {
        OdometryDesk desk = new OdometryDesk();
        due("5: none", desk.closeCorridor(), NOT_POSSIBLE);
        desk.corridor(0, 0, 10, 10, 9000);
        desk.corridor(0, 0, 10, 10, 0);
        desk.step(10, 10, 0);
        due("5: the last one pulls", desk.about(0, 7), 1);
        due("5: one is left", desk.closeCorridor(), 1);
        due("5: it was the last one", desk.about(0, 7), NONE - GONE);
        due("5: its number is free", desk.corridor(0, 0, 10, 10, 100), 1);
        due("5: the new one pulls", desk.about(0, 8), -10000 * 30 / 100);
        due("5: one is left again", desk.closeCorridor(), 1);
        due("5: none is left", desk.closeCorridor(), 0);
        due("5: no more", desk.closeCorridor(), NOT_POSSIBLE);
        due("5: still none", desk.count(9), 0);
    }

    // ---- 6

    private void begin() {
        OdometryDesk desk = withSteps(2);
        for (int value : new int[] {-100001, 100001, MIN, MAX}) {
            due("6: begin(" + value + ", 0, 0)", desk.begin(value, 0, 0), BAD_VALUE);
            due("6: begin(0, " + value + ", 0)", desk.begin(0, value, 0), BAD_VALUE);
        }
        for (int value : new int[] {-1, 3600000, MIN, MAX}) {
            due("6: begin(7, 7, " + value + ")", desk.begin(7, 7, value), BAD_VALUE);
        }
        due("6: the start stayed", desk.pose(-1, 0), 0);
        due("6: an edge", desk.begin(-100000, 100000, 3599999), 2);
        due("6: x", desk.pose(-1, 0), -100000000);
        due("6: y", desk.pose(-1, 1), 100000000);
        due("6: the heading", desk.pose(-1, 2), 3599999);
        due("6: the other edge", desk.begin(100000, -100000, 0), 2);
        due("6: the entries are behind it", desk.pose(1, 0), 100000000 + 10000);
    }

    // ---- 7

    private void step() {
        OdometryDesk desk = new OdometryDesk();
        for (int value : new int[] {-301, 301, MIN, MAX}) {
            due("7: step(" + value + ", 0, 0)", desk.step(value, 0, 0), BAD_VALUE);
            due("7: step(0, " + value + ", 0)", desk.step(0, value, 0), BAD_VALUE);
        }
        for (int value : new int[] {-300001, 300001, MIN, MAX}) {
            due("7: step(0, 0, " + value + ")", desk.step(0, 0, value), BAD_VALUE);
        }
        due("7: none was added", desk.count(0), 0);
        due("7: an edge", desk.step(-300, 300, 300000), 1);
        due("7: the other edge", desk.step(300, -300, -300000), 2);
        for (int entry = 3; entry <= 120; entry++) {
            due("7: entry " + entry, desk.step(entry, -entry, 10 * entry), entry);
        }
        due("7: one too many", desk.step(0, 0, 0), TOO_MANY);
        due("7: a wrong one too many", desk.step(0, 0, 300001), BAD_VALUE);
        due("7: left ticks", desk.about(119, 1), 120);
        due("7: right ticks", desk.about(119, 2), -120);
        due("7: the turn", desk.about(119, 3), 1200);
        due("7: as many as there were", desk.count(0), 120);
    }

    // ---- 8

    private void see() {
        OdometryDesk desk = new OdometryDesk();
        due("8: no marker", desk.see(0), NO_SUCH);
        desk.marker(10, 20);
        desk.marker(30, 40);
        for (int value : new int[] {-1, 2, 6, MIN, MAX}) {
            due("8: see(" + value + ")", desk.see(value), NO_SUCH);
        }
        due("8: none was added", desk.count(0), 0);
        due("8: the first one", desk.see(0), 1);
        due("8: the second one", desk.see(1), 2);
        due("8: its x", desk.pose(1, 0), 30000);
        due("8: its y", desk.pose(1, 1), 40000);
        for (int entry = 3; entry <= 120; entry++) {
            due("8: entry " + entry, desk.see(entry % 2), entry);
        }
        due("8: one too many", desk.see(0), TOO_MANY);
        due("8: a wrong one too many", desk.see(2), NO_SUCH);
    }

    // ---- 9

    private void cut() {
        OdometryDesk desk = withSteps(5);
        for (int value : new int[] {0, -1, 6, MIN, MAX}) {
            due("9: cut(" + value + ")", desk.cut(value), BAD_VALUE);
        }
        due("9: nothing was cut", desk.count(0), 5);
        desk.step(20, 20, 0);
        due("9: the last one", desk.cut(1), 5);
        due("9: it was the last one", desk.about(4, 1), 10);
        due("9: some", desk.cut(3), 2);
        due("9: they are gone", desk.pose(2, 0), NO_SUCH - GONE);
        due("9: the way is shorter", desk.count(8), 10000);
        due("9: the next one", desk.step(7, 7, 0), 3);
        due("9: all", desk.cut(3), 0);
        due("9: none is left", desk.cut(1), BAD_VALUE);
    }

    // ---- 10

    private void poseOfSteps() {
        OdometryDesk desk = new OdometryDesk();
        desk.set(OdometryDesk.TRUST, 0);
        desk.step(100, 100, 20000);
        due("10: x", desk.pose(0, 0), 49992);
        due("10: y", desk.pose(0, 1), 887);
        due("10: the heading", desk.pose(0, 2), 20000);
        due("10: the way", desk.pose(0, 3), 50000);
        due("10: the bias", desk.pose(0, 4), 0);
        due("10: the spread x without a sight", desk.pose(0, 5), 49992);
        due("10: the spread y without a sight", desk.pose(0, 6), 887);
        desk.cut(1);
        desk.step(100, 100, -20000);
        due("10: y to the right", desk.pose(0, 1), -887);
        due("10: the heading to the right", desk.pose(0, 2), 3580000);
        desk.cut(1);
        desk.step(-100, -100, -1);
        due("10: half a turn of -1 is 0", desk.pose(0, 1), 0);
        due("10: the heading below 0", desk.pose(0, 2), 3599999);
        due("10: the way back counts, too", desk.pose(0, 3), 50000);
        due("10: x behind the start", desk.pose(0, 0), -50000);
        desk.begin(-3, 4, 900000);
        due("10: up: x", desk.pose(0, 0), -3000);
        due("10: up: y", desk.pose(0, 1), 4000 - 50000);
        desk.step(0, 0, 900);
        due("10: a stand stays", desk.pose(1, 1), 4000 - 50000);
        due("10: its bias", desk.pose(1, 4), 1800);
        due("10: its way", desk.pose(1, 3), 50000);
        for (int entry : new int[] {-2, 2, 120, MIN, MAX}) {
            due("10: pose(" + entry + ", 0)", desk.pose(entry, 0), NO_SUCH - GONE);
            due("10: pose(" + entry + ", 7)", desk.pose(entry, 7), NO_SUCH - GONE);
        }
        for (int what : new int[] {-1, 7, MIN, MAX}) {
            due("10: pose(1, " + what + ")", desk.pose(1, what), BAD_VALUE - GONE);
            due("10: pose(-1, " + what + ")", desk.pose(-1, what), BAD_VALUE - GONE);
        }
        due("10: the start's spread x", desk.pose(-1, 5), -3000);
        due("10: the start's spread y", desk.pose(-1, 6), 4000);
        due("10: the start's way", desk.pose(-1, 3), 0);
        due("10: the start's bias", desk.pose(-1, 4), 0);
    }

    private void poseOfSpreadErrors() {
        OdometryDesk desk = new OdometryDesk();
        desk.marker(110, 4);
        desk.step(100, 100, 0);
        desk.step(100, 100, 0);
        desk.see(0);
        desk.step(40, 40, 0);
        desk.step(60, 60, 0);
        desk.see(0);
        desk.step(10, 10, 0);
        int[] x = {55000, 110000, 110000, 130000 - 20000, 160000 - 50000, 110000, 115000};
        int[] y = {2000, 4000, 4000, 4000, 4000, 4000, 4000};
        for (int entry = 0; entry < 7; entry++) {
            due("10: spread x of " + entry, desk.pose(entry, 5), x[entry]);
            due("10: spread y of " + entry, desk.pose(entry, 6), y[entry]);
        }
        due("10: x behind the sight", desk.pose(2, 0), 110000);
        due("10: y behind the sight", desk.pose(2, 1), 4000);
        due("10: the way behind the sight", desk.pose(2, 3), 100000);
        desk.cut(5);
        due("10: without the sight x is as it is", desk.pose(0, 5), 50000);
        due("10: the start has no spread", desk.pose(-1, 5), 0);
    }

    private void poseWithoutWay() {
        OdometryDesk desk = new OdometryDesk();
        desk.marker(10, -20);
        desk.marker(30, 40);
        desk.step(0, 0, 0);
        desk.see(0);
        desk.see(1);
        due("10: a stand ahead of a sight without way", desk.pose(0, 5), 0);
        due("10: the sight without way is as ahead of it", desk.pose(1, 5), 0);
        due("10: y, too", desk.pose(1, 6), 0);
        due("10: a second sight at once: x", desk.pose(2, 5), 10000);
        due("10: a second sight at once: y", desk.pose(2, 6), -20000);
        due("10: but x is the marker's", desk.pose(2, 0), 30000);
        desk.step(3, 3, 0);
        desk.step(0, 0, 0);
        desk.step(4, 4, 0);
        desk.see(0);
        // The error in x is 33500 - 10000, in y 60000; the way is 1500 of 3500.
        due("10: rounded toward 0", desk.pose(3, 5), 31500 - 10071);
        due("10: a stand between steps", desk.pose(4, 6), 40000 - 25714);
        due("10: all of it", desk.pose(5, 6), -20000);
        desk.cut(7);
        // The right wheel slips: s is -190983 * 300000 / 572958 = -99998, the distance (50000 + 50000 - 99998) / 2.
        desk.step(100, 100, -190983);
        desk.see(0);
        due("10: the least way: p1", desk.pose(1, 3), 1);
        due("10: the least way: x", desk.pose(0, 5), 10000);
        due("10: the least way: y", desk.pose(0, 6), -20000);
    }

    // ---- 11

    private void aboutKinds() {
        OdometryDesk desk = new OdometryDesk();
        desk.step(0, 0, 123);
        desk.step(100, 110, 9500);
        int[] stand = {0, 0, 0, 123, NONE - GONE, NONE - GONE, NONE - GONE, NONE - GONE, NONE - GONE, NONE - GONE,
            NONE - GONE};
        for (int what = 0; what < 11; what++) {
            due("11: about a stand: " + what, desk.about(0, what), stand[what]);
        }
        // The bias is 16 * 123 / 8 = 246, of which 15 are taken from the turn: v is 9485, w is 9549.
        int[] step = {1, 100, 110, 9500, 9549, 9517, 52500, NONE - GONE, NONE - GONE, NONE - GONE, NONE - GONE};
        for (int what = 0; what < 11; what++) {
            due("11: about a step: " + what, desk.about(1, what), step[what]);
        }
        desk.set(OdometryDesk.TRUST, 100);
        due("11: all trust in the wheels", desk.about(1, 5), 9549);
        desk.set(OdometryDesk.TRUST, 0);
        due("11: no trust in the wheels", desk.about(1, 5), 9485);
        for (int entry : new int[] {-1, -2, 2, 120, MIN, MAX}) {
            due("11: about(" + entry + ", 0)", desk.about(entry, 0), NO_SUCH - GONE);
            due("11: about(" + entry + ", 11)", desk.about(entry, 11), NO_SUCH - GONE);
        }
        for (int what : new int[] {-1, 11, MIN, MAX}) {
            due("11: about(0, " + what + ")", desk.about(0, what), BAD_VALUE - GONE);
        }
        desk.set(OdometryDesk.LEFT, 101);
        desk.step(-1, 0, 0);
        due("11: the distance is rounded toward 0", desk.about(2, 6), -50);
        desk.step(0, 1, 0);
        due("11: one wheel alone is no stand", desk.about(3, 0), 1);
    }

    private void aboutSlip() {
        OdometryDesk desk = new OdometryDesk();
        desk.step(100, 100, 20000);
        desk.step(100, 100, 20001);
        desk.step(100, 100, -20000);
        desk.step(100, 100, -20001);
        int[] kinds = {1, 2, 1, 3};
        int[] turns = {10000, 20001, -10000, -20001};
        int[] distances = {50000, 44764, 50000, 44764};
        for (int entry = 0; entry < 4; entry++) {
            due("11: slip: kind of " + entry, desk.about(entry, 0), kinds[entry]);
            due("11: slip: w of " + entry, desk.about(entry, 4), 0);
            due("11: slip: turn of " + entry, desk.about(entry, 5), turns[entry]);
            due("11: slip: distance of " + entry, desk.about(entry, 6), distances[entry]);
        }
        desk.set(OdometryDesk.SLIP, 0);
        due("11: the least slip", desk.about(0, 0), 2);
        desk.step(100, 100, 0);
        due("11: no slip at all", desk.about(4, 0), 1);
        // Backwards, the left wheel's way is left out: s is 2001 * 300000 / 572958 = 1047.
        desk.step(-100, -100, 2001);
        due("11: backwards: kind", desk.about(5, 0), 2);
        due("11: backwards: distance", desk.about(5, 6), (-50000 - 51047) / 2);
        // The right wheel turns too much: w is 95493, and what is left of it is 2000 * 300000 / 572958 = 1047.
        desk.step(100, 200, 2000);
        due("11: too much to the left: kind", desk.about(6, 0), 3);
        due("11: too much to the left: w", desk.about(6, 4), 50000L * 572958 / 300000);
        due("11: too much to the left: distance", desk.about(6, 6), (50000 + 51047) / 2);
    }

    private void aboutBias() {
        OdometryDesk desk = new OdometryDesk();
        desk.step(0, 0, -1);
        due("11: bias: below 0", desk.pose(0, 4), -2);
        desk.step(100, 100, 4);
        desk.set(OdometryDesk.TRUST, 0);
        due("11: bias: -2 / 16 is 0", desk.about(1, 5), 4);
        desk.step(0, 0, 300000);
        due("11: bias: (4800000 + 2) / 8", desk.pose(2, 4), -2 + 600000);
        desk.set(OdometryDesk.BIAS, 1);
        due("11: bias: all at once", desk.pose(0, 4), -16);
        due("11: bias: of the last stand alone", desk.pose(2, 4), 4800000);
        due("11: bias: 1 less is measured", desk.about(1, 5), 5);
        desk.set(OdometryDesk.BIAS, 64);
        due("11: bias: too little", desk.pose(0, 4), 0);
        due("11: bias: a 64th", desk.pose(2, 4), 75000);
        desk.step(100, 100, 5000);
        due("11: bias: 75000 / 16 is taken off", desk.about(3, 5), 5000 - 4687);
        due("11: bias: what was measured stays", desk.about(3, 3), 5000);
    }

    private void aboutCorridors() {
        OdometryDesk desk = new OdometryDesk();
        desk.corridor(-100, -100, 1000, 100, 0);
        desk.corridor(-100, -100, 1000, 100, 0);
        desk.begin(0, 0, 50000);
        desk.step(100, 100, 0);
        desk.step(0, 0, 0);
        due("11: the first one pulls", desk.about(0, 7), 0);
        due("11: by a part of what it is off", desk.about(0, 8), 15000);
        due("11: the turn that was taken is without it", desk.about(0, 5), 0);
        due("11: the heading behind it", desk.pose(0, 2), 35000);
        due("11: a stand is not pulled", desk.about(1, 7), NONE - GONE);
        due("11: and keeps its heading", desk.pose(1, 2), 35000);
        desk.begin(0, 0, 100000);
        due("11: as much off as is tolerated", desk.about(0, 8), 30000);
        desk.begin(0, 0, 100001);
        due("11: too far off", desk.about(0, 7), NONE - GONE);
        due("11: too far off: by how much", desk.about(0, 8), NONE - GONE);
        desk.begin(0, 0, 3599999);
        due("11: -1 * 30 / 100 is 0", desk.about(0, 8), 0);
        due("11: and it has pulled", desk.count(6), 1);
        desk.begin(0, 0, 3500000);
        due("11: from the other side", desk.about(0, 8), -30000);
        due("11: the heading increases", desk.pose(0, 2), 3530000);
        desk.begin(0, 0, 1700000);
        due("11: the other way round", desk.about(0, 8), -30000);
        desk.set(OdometryDesk.PULL, 0);
        due("11: no pull", desk.about(0, 8), 0);
        desk.set(OdometryDesk.PULL, 100);
        due("11: all of it", desk.pose(0, 2), 1800000);
        desk.set(OdometryDesk.TOLERANCE, 900000);
        desk.begin(0, 0, 900000);
        due("11: just across it is -900000", desk.about(0, 8), -900000);
        desk.begin(0, 0, 899999);
        due("11: one less is 899999", desk.about(0, 8), 899999);
        desk.begin(0, 0, 2700000);
        due("11: across it the other way round", desk.pose(0, 2), 0);
        desk.set(OdometryDesk.TOLERANCE, 0);
        desk.begin(0, 0, 1);
        due("11: nothing is tolerated", desk.about(0, 7), NONE - GONE);
        desk.begin(0, 0, 0);
        due("11: but what is right", desk.about(0, 7), 0);
    }

    private void aboutNear() {
        int[][] starts = {{89, 0}, {90, 0}, {210, 0}, {211, 0}, {150, -61}, {150, -60}, {150, 60}, {150, 61}};
        for (int order = 0; order < 4; order++) {
            OdometryDesk desk = new OdometryDesk();
            boolean swapX = order % 2 == 1;
            boolean swapY = order > 1;
            desk.corridor(swapX ? 200 : 100, swapY ? 50 : -50, swapX ? 100 : 200, swapY ? -50 : 50, 0);
            desk.set(OdometryDesk.REACH, 10);
            desk.step(1, 1, 0);
            for (int i = 0; i < starts.length; i++) {
                boolean isNear = starts[i][0] != 89 && starts[i][0] != 211 && Math.abs(starts[i][1]) != 61;
                desk.begin(starts[i][0], starts[i][1], 0);
                due("11: near, order " + order + ", start " + i, desk.about(0, 7), isNear ? 0 : NONE - GONE);
            }
        }
        OdometryDesk desk = new OdometryDesk();
        desk.set(OdometryDesk.REACH, 0);
        desk.corridor(0, 0, 0, 0, 0);
        desk.step(-1, -1, 0);
        due("11: -500 / 1000 is 0", desk.about(0, 7), 0);
        desk.step(-1, -1, 0);
        due("11: -1000 / 1000 is not", desk.about(1, 7), NONE - GONE);
        desk.step(2, 1, 0);
        due("11: 999 or less / 1000 is 0", desk.about(2, 7), 0);
    }

    private void aboutSights() {
        OdometryDesk desk = new OdometryDesk();
        desk.marker(1, 1);
        desk.marker(60, -10);
        desk.step(100, 100, 0);
        desk.see(1);
        desk.see(0);
        int[] sight = {4, 1, NONE - GONE, NONE - GONE, NONE - GONE, NONE - GONE, NONE - GONE, NONE - GONE, NONE - GONE,
            -10000, 10000};
        for (int what = 0; what < 11; what++) {
            due("11: about a sight: " + what, desk.about(1, what), sight[what]);
        }
        due("11: the vehicle is at the marker then", desk.about(2, 9), 59000);
        due("11: in y, too", desk.about(2, 10), -11000);
        desk.begin(0, 0, 900000);
        due("11: the heading stays", desk.pose(2, 2), 900000);
        due("11: errors follow the start", desk.about(1, 9), -60000);
        desk.cut(2);
        desk.step(7, 8, 9);
        due("11: a step where a sight was", desk.about(1, 9), NONE - GONE);
        due("11: its left ticks", desk.about(1, 1), 7);
    }

    // ---- 12

    private void count() {
        OdometryDesk desk = new OdometryDesk();
        desk.marker(0, 0);
        desk.corridor(0, 0, 10, 0, 0);
        desk.corridor(0, 0, 10, 0, 0);
        desk.set(OdometryDesk.REACH, 0);
        desk.step(0, 0, 0);
        desk.step(0, 0, 0);
        desk.step(0, 0, 0);
        desk.step(0, 0, 0);
        desk.step(2, 2, 0);
        desk.step(100, 100, 0);
        desk.step(-100, -100, 0);
        desk.step(10, 10, 25000);
        desk.step(10, 10, 25000);
        desk.step(10, 10, -25000);
        desk.see(0);
        desk.see(0);
        desk.see(0);
        desk.see(0);
        desk.see(0);
        write(desk, "abc");
        due("12: entries", desk.count(0), 15);
        due("12: stands", desk.count(1), 4);
        due("12: steps without slip", desk.count(2), 3);
        due("12: steps whose left wheel slips", desk.count(3), 2);
        due("12: steps whose right wheel slips", desk.count(4), 1);
        due("12: sights", desk.count(5), 5);
        due("12: steps that a corridor pulled", desk.count(6), 3);
        due("12: corridors", desk.count(9), 2);
        due("12: markers", desk.count(10), 1);
        due("12: the length of the pad", desk.count(11), 3);
        desk.cut(8);
        due("12: the way", desk.count(8), 1000 + 50000 + 50000);
        desk.see(0);
        desk.begin(0, -2, 0);
        due("12: the sum of the errors", desk.count(7), 1000 + 2000);
        desk.step(100, 100, 0);
        desk.see(0);
        due("12: of all sights", desk.count(7), 1000 + 2000 + 50000);
        for (int setting = 0; setting < 9; setting++) {
            desk.set(setting, LOWEST[setting] + 1);
            due("12: setting " + setting, desk.count(12 + setting), LOWEST[setting] + 1);
        }
        for (int what : new int[] {-1, 21, MIN, MAX}) {
            due("12: count(" + what + ")", desk.count(what), BAD_VALUE);
        }
    }

    private void countIsCut() {
        OdometryDesk desk = farApart(5);
        due("12: below the cut", desk.count(7), 1800000000);
        desk.begin(100000, 100000, 0);
        due("12: at the cut", desk.count(7), 2000000000);
        desk.begin(0, 0, 0);
        desk.see(1);
        due("12: above the cut", desk.count(7), 2000000000);
        due("14: above the cut", desk.ifSet(OdometryDesk.LEFT, 100, 4), 2000000000);
        for (int i = 6; i < 120; i++) {
            desk.see(i % 2);
        }
        due("12: far above the cut", desk.count(7), 2000000000);
    }

    // ---- 13

    private void wave() {
        OdometryDesk desk = new OdometryDesk();
        int[][] waves = {{0, 0, 1000000}, {3000, 500000, 866025}, {9000, 1000000, 0}, {18000, 0, -1000000},
            {18001, -177, -999999}, {27000, -1000000, 0}, {35999, -177, 999999}, {100, 17757, 999845},
            {17999, 177, -999999}, {1, 177, 999999}};
        for (int[] wave : waves) {
            due("13: the sine of " + wave[0], desk.wave(wave[0], 0), wave[1]);
            int cosine = (int) Model.wave(wave[0] + 9000L);
            due("13: the cosine of " + wave[0], desk.wave(wave[0], 1), cosine);
            due("13: the cosine of " + wave[0] + " nearly", Math.abs(cosine - wave[2]) < 1800 ? 1 : 0, 1);
        }
        for (int angle = 0; angle < 36000; angle++) {
            desk = angle % 250 == 0 ? new OdometryDesk() : desk;
            due("13: wave(" + angle + ", 0)", desk.wave(angle, 0), Model.wave(angle));
            due("13: wave(" + angle + ", 1)", desk.wave(angle, 1), Model.wave(angle + 9000L));
        }
        desk = new OdometryDesk();
        due("13: the cosine of 0", desk.wave(0, 1), 1000000);
        due("13: the cosine of 27000", desk.wave(27000, 1), 0);
        due("13: the cosine of 6000", desk.wave(6000, 1), 500000);
        for (int angle : new int[] {-1, 36000, MIN, MAX}) {
            due("13: wave(" + angle + ", 0)", desk.wave(angle, 0), BAD_VALUE - GONE);
            due("13: wave(" + angle + ", 1)", desk.wave(angle, 1), BAD_VALUE - GONE);
        }
        for (int which : new int[] {-1, 2, MIN, MAX}) {
            due("13: wave(0, " + which + ")", desk.wave(0, which), BAD_VALUE - GONE);
        }
    }

    // ---- 14

    private void ifSet() {
        OdometryDesk desk = new OdometryDesk();
        desk.begin(5, -7, 123);
        due("14: an empty log: x", desk.ifSet(0, 100, 0), 5000);
        due("14: an empty log: y", desk.ifSet(0, 100, 1), -7000);
        due("14: an empty log: the heading", desk.ifSet(0, 100, 2), 123);
        desk.begin(0, 0, 0);
        desk.marker(40, 0);
        desk.step(100, 100, 0);
        desk.see(0);
        desk.step(100, 100, 15000);
        desk.step(100, 100, -15000);
        due("14: x", desk.ifSet(OdometryDesk.TRUST, 100, 0), 140000);
        due("14: y", desk.ifSet(OdometryDesk.TRUST, 100, 1), 0);
        due("14: the heading", desk.ifSet(OdometryDesk.TRUST, 0, 2), 0);
        due("14: steps with slip", desk.ifSet(OdometryDesk.SLIP, 14999, 3), 2);
        desk.step(100, 100, 15000);
        due("14: with slip of either wheel", desk.ifSet(OdometryDesk.SLIP, 14999, 3), 3);
        desk.cut(2);
        due("14: with slip of the left wheel", desk.ifSet(OdometryDesk.SLIP, 14999, 3), 1);
        desk.cut(1);
        desk.step(100, 100, -15000);
        due("14: with slip of the right wheel", desk.ifSet(OdometryDesk.SLIP, 14999, 3), 1);
        desk.step(100, 100, 15000);
        due("14: steps without slip", desk.ifSet(OdometryDesk.SLIP, 15000, 3), 0);
        due("14: the sum of the errors", desk.ifSet(OdometryDesk.RIGHT, 502, 4), 10100);
        desk.set(OdometryDesk.SLIP, 14999);
        due("14: as it is", desk.ifSet(OdometryDesk.TRUST, 7, 3), 2);
        due("14: nothing changes: slip", desk.count(12 + OdometryDesk.SLIP), 14999);
        due("14: nothing changes: trust", desk.count(12 + OdometryDesk.TRUST), 50);
        due("14: nothing changes: left", desk.count(12 + OdometryDesk.LEFT), 500);
        due("14: nothing changes: errors", desk.count(7), 10000);
        for (int setting = 0; setting < 9; setting++) {
            String name = "14: ifSet(" + setting + ", ";
            due(name + "too small, 3)", desk.ifSet(setting, LOWEST[setting] - 1, 3), BAD_VALUE - GONE);
            due(name + "too great, 3)", desk.ifSet(setting, HIGHEST[setting] + 1, 3), BAD_VALUE - GONE);
            due(name + "least, 4)", desk.ifSet(setting, LOWEST[setting], 4), setting < 2 ? 30000 : 10000);
        }
        for (int what : new int[] {-1, 5, MIN, MAX}) {
            due("14: ifSet(0, 100, " + what + ")", desk.ifSet(0, 100, what), BAD_VALUE - GONE);
        }
        for (int setting : new int[] {-1, 9, MIN, MAX}) {
            due("14: ifSet(" + setting + ", 300, 0)", desk.ifSet(setting, 300, 0), BAD_VALUE - GONE);
        }
    }

    // ---- 15

    private static OdometryDesk curve(int trust) {
        OdometryDesk desk = new OdometryDesk();
        desk.marker(0, 0);
        desk.step(100, 110, 19000);
        desk.see(0);
        desk.set(OdometryDesk.TRUST, trust);
        return desk;
    }

    private void bestBase() {
        OdometryDesk desk = curve(100);
        // Half of w is 44 hundredths of a degree for a base of 319 or more: of 319 and 320 the nearer one is told.
        due("15: the nearer one", desk.bestBase(), 319);
        due("15: the base stays", desk.count(14), 300);
        desk.set(OdometryDesk.TRUST, 0);
        due("15: all are the same", desk.bestBase(), 300);
        desk.cut(1);
        due("15: no sights", desk.bestBase(), NONE);
        desk = curve(100);
        desk.set(OdometryDesk.SLIP, 200000);
        int[] bases = {100, 101, 990, 1000};
        for (int base : bases) {
            desk.set(OdometryDesk.BASE, base);
            due("15: at the end of the range: " + base, desk.bestBase(), bestBaseByHand(desk, base));
            due("15: it stays: " + base, desk.count(14), base);
        }
    }

    private void lesserOfTwoBases() {
        OdometryDesk desk = new OdometryDesk();
        desk.set(OdometryDesk.TRUST, 100);
        desk.set(OdometryDesk.SLIP, 200000);
        desk.set(OdometryDesk.BASE, 401);
        desk.marker(49, 16);
        desk.begin(0, 0, 2202000);
        desk.step(-102, 21, 117465);
        desk.see(0);
        due("15: the errors of the lesser one", desk.ifSet(OdometryDesk.BASE, 400, 4), 36413);
        due("15: the errors of the base", desk.ifSet(OdometryDesk.BASE, 401, 4), 36414);
        due("15: the errors of the greater one", desk.ifSet(OdometryDesk.BASE, 402, 4), 36413);
        due("15: the lesser one of two that are as near", desk.bestBase(), 400);
    }

    /** By ifSet(), where no sum is cut. */
    private static int bestBaseByHand(OdometryDesk desk, int base) {
        int best = base;
        for (int off = 1; off <= 20; off++) {
            for (int other = base - off; other <= base + off; other += 2 * off) {
                if (other >= 100 && other <= 1000 && desk.ifSet(2, other, 4) < desk.ifSet(2, best, 4)) {
                    best = other;
                }
            }
        }
        return best;
    }

    // ---- 16

    private void bestTrust() {
        OdometryDesk desk = curve(50);
        due("16: the wheels are right", desk.bestTrust(), 100);
        due("16: the trust stays", desk.count(16), 50);
        desk.cut(1);
        due("16: no sights", desk.bestTrust(), NONE);
        desk.see(0);
        desk.set(OdometryDesk.SLIP, 0);
        due("16: all are the same", desk.bestTrust(), 0);
        desk = new OdometryDesk();
        desk.marker(0, 0);
        desk.step(100, 100, -500);
        desk.see(0);
        desk.begin(0, 0, 100);
        // Half of the turn is -250 to 0: with a trust of 60 to 90 the angle is 0, and the error in y, too.
        due("16: the least of several between the ends", desk.bestTrust(), 60);
    }

    private void bestOfUncutSums() {
        OdometryDesk desk = farApart(8);
        desk.step(100, 110, 19000);
        desk.see(1);
        due("16: the sum is not cut", desk.bestTrust(), 100);
        desk.set(OdometryDesk.TRUST, 100);
        due("15: the sum is not cut", desk.bestBase(), 319);
    }

    // ---- 17

    private void put() {
        OdometryDesk desk = new OdometryDesk();
        long[] wrong = {0, 32, 127, 255, -1, Long.MIN_VALUE, Long.MAX_VALUE, 0x4100L, 0x410041L, 0x2041L, 0x4120L,
            0x7F41L, 0x8000000000000041L, 0x4100000000000041L, 0x4141414141414100L, 0x41414100414141L,
            0x8041414141414141L, 0x2041414141414141L};
        for (long characters : wrong) {
            due("17: put(" + characters + ")", desk.put(characters), BAD_VALUE);
        }
        due("17: the pad is empty", desk.count(11), 0);
        due("17: the least code", desk.put(33), 1);
        due("17: the greatest code", desk.put(126), 2);
        due("17: both", desk.put(0x217EL), 4);
        desk.wipe();
        due("17: eight", desk.put(number("0,0,0;m0")), 8);
        due("17: the order is right", desk.fault(), NONE);
        due("17: they are appended", desk.put(number(";1,2,3")), 14);
        due("17: at the end", desk.fault(), NONE);
        desk.wipe();
        for (int i = 1; i <= 12; i++) {
            due("17: eight more", desk.put(number("12345678")), 8 * i);
        }
        due("17: one too many", desk.put(number("12345")), TOO_MANY);
        due("17: as many as can be", desk.put(number("1234")), 100);
        due("17: the pad is full", desk.put(33), TOO_MANY);
        due("17: a wrong code first", desk.put(32), BAD_VALUE);
        due("17: the length stays", desk.count(11), 100);
    }

    // ---- 18

    private void wipe() {
        OdometryDesk desk = new OdometryDesk();
        due("18: an empty pad", desk.wipe(), 0);
        write(desk, "1,2,3;m");
        due("18: a length", desk.wipe(), 7);
        due("18: it is empty", desk.wipe(), 0);
        due("18: and has a fault at 0", desk.fault(), 0);
        due("18: and length 0", desk.count(11), 0);
        due("18: it is written anew", desk.put(number("m1")), 2);
        due("18: without what there was", desk.fault(), NONE);
    }

    // ---- 19

    private void fault(String text, int want) {
        OdometryDesk desk = new OdometryDesk();
        write(desk, text);
        due("19: the fault of " + text, desk.fault(), want);
        due("19: again", desk.fault(), want);
        due("19: the pad stays", desk.count(11), text.length());
    }

    private void fault() {
        String[] right = {"m0", "m5", "0,0,0", "-0,-0,-0", "300,-300,300000", "-300,300,-300000", "m0;m1", "1,2,3;m3",
            "m4;1,2,3;10,20,-30", "9,99,99999", "100,199,199999"};
        for (String text : right) {
            fault(text, NONE);
        }
        fault("", 0);
        String[] wrong = {"|x", "m|", "m|6", "m|9", "m|-0", "m0|5", "m5|0", "m0|,0,0", "m0;|", "m0;|;", "|;m0",
            "|,1,1", "-|", "-|-1,0,0", "-|,0,0", "0|0,0,0", "-0|0,0,0", "0|1,0,0", "30|1,0,0", "300|0,0,0", "-30|1,0,0",
            "40|0,0,0", "99|9,0,0", "1|", "1,|", "1,2|", "1,2,|", "1,2,-|", "1,2,3;|", "1,2,3;4|", "1,2,3|,", "1,2,3|m",
            "1|;2", "1,2|;3", "1,30|1,3", "1,40|0,3", "1,1,30000|1", "1,1,40000|0", "1,1,300000|0", "1,1,30001|0",
            "1,1,-30000|1", "1,1,0|7", "|+1,2,3", "1,|m0", "1,2,|m", "1,|,2", "|M0", "1,2,3;m|;", "1,2,3;|.", "1,2,3|.",
            "m1|m2", "1,2,3;m1;4,5,6;300,300,30000|1"};
        for (String marked : wrong) {
            fault(marked.replace("|", ""), marked.indexOf('|'));
        }
        fault("100,100,0" + ";0,0,0".repeat(13) + ";m0", NONE);
        fault("0,0,100" + ";m0".repeat(31), NONE);
        fault("m0;".repeat(33), 99);
        fault("m0;".repeat(33) + "m", 100);
        fault("m0;".repeat(32) + "0,0,", 100);
        fault("m0;".repeat(33) + "x", 99);
    }

    // ---- 20

    private void load() {
        OdometryDesk desk = new OdometryDesk();
        due("20: an empty pad", desk.load(), BAD_TEXT);
        write(desk, "1,2,3;m");
        due("20: a fault", desk.load(), BAD_TEXT);
        due("20: the pad stays", desk.count(11), 7);
        due("20: nothing was added", desk.count(0), 0);
        due("20: a marker that there is not", loaded(desk, "m0"), 0);
        due("20: the pad is empty", desk.count(11), 0);
        due("20: until one fails", loaded(desk, "1,2,3;m0;4,5,6"), 1);
        desk.marker(1, 2);
        due("20: all of them", loaded(desk, "-7,-0,-8;m0;0,0,-300000"), 3);
        int[][] facts = {{1, 1, 1}, {1, 2, 2}, {1, 3, 3}, {2, 1, -7}, {2, 2, 0}, {2, 3, -8}, {3, 0, 4}, {3, 1, 0},
            {4, 0, 0}, {4, 3, -300000}};
        for (int[] fact : facts) {
            due("20: entry " + (fact[0] - 1) + ", " + fact[1], desk.about(fact[0] - 1, fact[1]), fact[2]);
        }
        due("20: a step, then a marker that there is not", loaded(desk, "1,1,1;m1"), 1);
        desk = withSteps(118);
        due("20: until the log is full", loaded(desk, "5,5,5;6,6,6;7,7,7"), 2);
        due("20: the last one", desk.about(119, 1), 6);
        due("20: the pad is empty again", desk.wipe(), 0);
        due("20: a full log", loaded(desk, "5,5,5"), 0);
        desk = new OdometryDesk();
        desk.marker(0, 0);
        due("20: as many as there can be", loaded(desk, "m0;".repeat(32) + "m0"), 33);
        due("20: they are added", desk.count(5), 33);
    }

    private static int loaded(OdometryDesk desk, String text) {
        desk.wipe();
        write(desk, text);
        return desk.load();
    }

    // ---- 21 and 22

    private static void overturn(OdometryDesk desk) {
        for (int setting = 0; setting < 9; setting++) {
            desk.set(setting, LOWEST[setting]);
        }
        desk.closeCorridor();
        desk.closeCorridor();
        desk.corridor(7, 7, 7, 7, 7);
        desk.marker(15, 16);
        desk.begin(-5, -6, 70);
        desk.cut(4);
        desk.see(0);
        desk.step(1, 2, 3);
        desk.step(4, 5, 6);
    }

    private void save() {
        OdometryDesk desk = furnished();
        for (int slot : new int[] {-1, 2, MIN, MAX}) {
            due("21: save(" + slot + ")", desk.save(slot), BAD_VALUE);
        }
        due("21: nothing was saved in 0", desk.restore(0), NOT_POSSIBLE);
        due("21: nothing was saved in 1", desk.restore(1), NOT_POSSIBLE);
        String before = allOf(desk);
        due("21: save(1)", desk.save(1), 4);
        overturn(desk);
        String after = allOf(desk);
        check.holds("21: all is other", !after.equals(before));
        due("21: save(0)", desk.save(0), 3);
        desk.restore(1);
        check.holds("21: slot 1 has what was saved there", allOf(desk).equals(before));
        desk.restore(0);
        check.holds("21: slot 0 has what was saved there", allOf(desk).equals(after));
        desk = furnished();
        desk.save(0);
        check.holds("21: saving changes nothing", allOf(desk).equals(before));
        desk = withSteps(3);
        desk.save(1);
        desk.cut(1);
        due("21: overwritten", desk.save(1), 2);
        desk.cut(2);
        due("21: what is there now", desk.restore(1), 2);
    }

    private void restore() {
        OdometryDesk desk = furnished();
        String before = allOf(desk);
        desk.save(0);
        for (int slot : new int[] {-1, 2, MIN, MAX}) {
            due("22: restore(" + slot + ")", desk.restore(slot), BAD_VALUE);
        }
        due("22: nothing was saved", desk.restore(1), NOT_POSSIBLE);
        for (int time = 0; time < 2; time++) {
            overturn(desk);
            due("22: restore(0)", desk.restore(0), 4);
            check.holds("22: all is as it was, time " + time, allOf(desk).equals(before));
        }
        write(desk, "1,2,3");
        due("22: again", desk.restore(0), 4);
        due("22: the pad stays", desk.count(11), 5);
        desk.wipe();
        desk.restore(0);
        due("22: the pad was not saved", desk.count(11), 0);
        write(desk, "m0");
        desk.save(1);
        desk.load();
        due("22: restore(1)", desk.restore(1), 4);
        due("22: the pad that was there comes not again", desk.count(11), 0);
        desk.set(0, 777);
        desk.save(0);
        desk.restore(1);
        desk.restore(0);
        due("22: what was saved last", desk.count(12), 777);
    }

    private void restoreMap() {
        OdometryDesk desk = new OdometryDesk();
        desk.marker(1, 2);
        desk.step(1, 1, 0);
        desk.save(0);
        desk.marker(3, 4);
        desk.corridor(-9, -9, 9, 9, 0);
        desk.see(1);
        desk.save(1);
        desk.restore(0);
        due("22: one marker", desk.count(10), 1);
        due("22: no corridor", desk.count(9), 0);
        due("22: it pulls no more", desk.about(0, 7), NONE - GONE);
        due("22: another second marker", desk.marker(5, 6), 1);
        due("22: another corridor", desk.corridor(500, 500, 500, 500, 50), 0);
        desk.see(1);
        due("22: the other marker", desk.pose(1, 0), 5000);
        desk.restore(1);
        due("22: two markers", desk.count(10), 2);
        due("22: the marker as it was: x", desk.pose(1, 0), 3000);
        due("22: the marker as it was: y", desk.pose(1, 1), 4000);
        due("22: the corridor as it was", desk.about(0, 8), 0);
        desk.restore(0);
        desk.see(0);
        desk.restore(0);
        due("22: the slot keeps its log", desk.count(5), 0);
    }

    // ---- rule 7 of the language: no call throws by itself

    private void anything() {
        int[] values = {MIN, MIN + 1, -GONE, -300001, -1, 0, 1, 8, 119, 120, 121, GONE, MAX - 1, MAX};
        for (int a : values) {
            for (int b : values) {
                OdometryDesk desk = furnished();
                check.quietly("set", () -> desk.set(a, b));
                check.quietly("corridor", () -> desk.corridor(a, b, b, a, a));
                check.quietly("marker", () -> desk.marker(a, b));
                check.quietly("begin", () -> desk.begin(a, b, a));
                check.quietly("step", () -> desk.step(a, b, b));
                check.quietly("see", () -> desk.see(a));
                check.quietly("pose", () -> desk.pose(a, b));
                check.quietly("about", () -> desk.about(a, b));
                check.quietly("count", () -> desk.count(a));
                check.quietly("wave", () -> desk.wave(a, b));
                check.quietly("ifSet", () -> desk.ifSet(a, b, a));
                check.quietly("bestBase", desk::bestBase);
                check.quietly("bestTrust", desk::bestTrust);
                check.quietly("put", () -> desk.put((long) a << 32 | b));
                check.quietly("put", () -> desk.put(a));
                check.quietly("fault", desk::fault);
                check.quietly("load", desk::load);
                check.quietly("save", () -> desk.save(a));
                check.quietly("restore", () -> desk.restore(b));
                check.quietly("cut", () -> desk.cut(a));
                check.quietly("closeCorridor", desk::closeCorridor);
                check.quietly("wipe", desk::wipe);
            }
        }
    }
}
