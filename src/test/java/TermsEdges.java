/** What the terms say of boundaries: conventions, units, settings, the map. */
final class TermsEdges extends Desks {
    private static final String UNITS = "Units", SETTINGS = "Settings", MAP = "The map";

    // ---- what it is

    @Sentence(promise = {1, 12, 15, 16}, under = "What it is",
        says = "An object is used for at most 512 calls after it has been made")
    void lastCalls() {
        OdometryDesk desk = farApart(120);
        desk.begin(0, 0, 1);
        // 122 calls made it: 122, and these.
        for (int call = 124; call < 508; call++) {
            desk.bestTrust();
        }
        due("call 508", desk.count(0), 120);
        due("call 509", desk.bestBase(), 300);
        due("call 510", desk.save(1), 120);
        due("call 511", desk.pose(119, 0), 100000000);
        due("call 512", desk.restore(1), 120);
    }

    // ---- conventions

    @Sentence(promise = {2, 5, 7, 8, 20}, under = "Terms",
        says = "A method that fails returns one of the error codes NO_SUCH (-1), BAD_VALUE (-2), BAD_TEXT (-3), "
            + "TOO_MANY (-4) and NOT_POSSIBLE (-5)")
    void errorCodes() {
        OdometryDesk desk = withSteps(120);
        due("NO_SUCH", desk.see(0), -1);
        due("BAD_VALUE", desk.set(0, 0), -2);
        due("BAD_TEXT", desk.load(), -3);
        due("TOO_MANY", desk.step(0, 0, 0), -4);
        due("NOT_POSSIBLE", desk.closeCorridor(), -5);
    }

    @Sentence(promise = {3, 4, 7, 8, 10, 11, 17, 22}, under = "Terms",
        says = "it names its errors in the order in which they are checked, and the first one that applies is returned")
    void orderOfErrors() {
        OdometryDesk desk = farApart(120);
        for (int i = 0; i < 8; i++) {
            desk.corridor(0, 0, 0, 0, 0);
            desk.marker(0, 0);
        }
        write(desk, "0".repeat(100));
        due("corridor: BAD_VALUE ahead of TOO_MANY", desk.corridor(0, 0, 0, 0, -1), BAD_VALUE);
        due("marker: BAD_VALUE ahead of TOO_MANY", desk.marker(0, -100001), BAD_VALUE);
        due("step: BAD_VALUE ahead of TOO_MANY", desk.step(0, 0, -300001), BAD_VALUE);
        due("see: NO_SUCH ahead of TOO_MANY", desk.see(6), NO_SUCH);
        due("put: BAD_VALUE ahead of TOO_MANY", desk.put(32), BAD_VALUE);
        due("pose: NO_SUCH ahead of BAD_VALUE", desk.pose(120, 7), NO_SUCH - GONE);
        due("pose: the same below", desk.pose(-2, -1), NO_SUCH - GONE);
        due("about: NO_SUCH ahead of BAD_VALUE", desk.about(120, 11), NO_SUCH - GONE);
        due("about: the same below", desk.about(-1, -1), NO_SUCH - GONE);
        due("restore: BAD_VALUE ahead of NOT_POSSIBLE", desk.restore(2), BAD_VALUE);
    }

    /** A call, to be made on any desk. */
    private interface Call {
        int on(OdometryDesk desk);
    }

    private static OdometryDesk filled() {
        OdometryDesk desk = furnished();
        desk.save(0);
        desk.cut(1);
        desk.set(OdometryDesk.PULL, 99);
        write(desk, "1,2,3;m1");
        return desk;
    }

    /** All that a filled desk tells, with its pad and its slots; some 400 calls. */
    private static String story(OdometryDesk desk) {
        StringBuilder story = new StringBuilder(allOf(desk));
        story.append('|').append(desk.count(11)).append(' ').append(desk.fault()).append(' ').append(desk.load());
        story.append('|').append(allOf(desk)).append('|').append(desk.restore(1)).append(desk.restore(0));
        return story.append('|').append(allOf(desk)).toString();
    }

    @Sentence(promise = {2, 3, 4, 6, 7, 8, 9, 10, 11, 12, 13, 14, 17, 21, 22}, under = "Terms",
        says = "A call that returns an error changes nothing.")
    void errorsChangeNothing() {
        Call[] refused = {d -> d.set(-1, 100), d -> d.set(9, 100), d -> d.set(0, 99), d -> d.set(0, 2001),
            d -> d.set(8, 900001), d -> d.corridor(-100001, 1, 2, 3, 4), d -> d.corridor(1, 100001, 2, 3, 4),
            d -> d.corridor(1, 2, 100001, 3, 4), d -> d.corridor(1, 2, 3, -100001, 4), d -> d.corridor(1, 2, 3, 4, 18000),
            d -> d.marker(100001, 0), d -> d.marker(0, 100001), d -> d.begin(100001, 5, 6), d -> d.begin(5, 100001, 6),
            d -> d.begin(5, 6, 3600000), d -> d.step(301, 1, 1), d -> d.step(1, 301, 1), d -> d.step(1, 1, 300001),
            d -> d.see(2), d -> d.see(-1), d -> d.cut(0), d -> d.cut(4), d -> d.pose(3, 0), d -> d.pose(0, 7),
            d -> d.about(3, 0), d -> d.about(0, 11), d -> d.count(21), d -> d.wave(36000, 0), d -> d.wave(0, 2),
            d -> d.ifSet(9, 100, 0), d -> d.ifSet(0, 99, 0), d -> d.ifSet(0, 700, 5), d -> d.put(0), d -> d.put(0x4120),
            d -> d.put(0x2041), d -> d.save(2), d -> d.save(-1), d -> d.restore(2), d -> d.restore(-1),
            d -> d.restore(1)};
        String untouched = story(filled());
        for (int i = 0; i < refused.length; i++) {
            OdometryDesk desk = filled();
            check.holds("call " + i + " is refused", refused[i].on(desk) < 0);
            check.holds("call " + i + " changes nothing", story(desk).equals(untouched));
        }
    }

    @Sentence(promise = {3, 4, 5, 7, 8, 17, 20}, under = "Terms", says = "A call that returns an error changes nothing.")
    void errorsOfWhatIsFullChangeNothing() {
        OdometryDesk desk = farApart(119);
        desk.step(7, 8, 9);
        desk.closeCorridor();
        due("no corridor is left", desk.count(9), 0);
        for (int i = 0; i < 8; i++) {
            desk.corridor(-100000, 99000, 100000, 100000, 0);
            desk.marker(i, i);
        }
        desk.step(1, 2, 3);
        desk.see(0);
        due("the log: entries", desk.count(0), 120);
        due("the log: the last one", desk.about(119, 1), 7);
        desk.corridor(0, 0, 0, 0, 17999);
        due("the map: corridors", desk.count(9), 8);
        due("the map: markers", desk.count(10), 6);
        for (int i = 0; i < 8; i++) {
            desk.closeCorridor();
        }
        due("the map: the first corridor is as it was", desk.corridor(0, 0, 0, 0, 0), 0);
        write(desk, "0,0,0" + ";0,0,0".repeat(15));
        due("the pad: too long", desk.put(number(";m0;m0")), TOO_MANY);
        due("the pad: its length", desk.count(11), 95);
        due("the pad: its text", desk.fault(), NONE);
        desk.put('x');
        due("the pad: with a fault", desk.load(), BAD_TEXT);
        due("the pad: it stays", desk.fault(), 95);
    }

    @Sentence(promise = {11, 15, 16, 19}, under = "Terms",
        says = "NONE (-6) is not an error; it is returned only if no error applies.")
    void noneIsNoError() {
        OdometryDesk desk = withStep(0, 0, 0);
        due("nothing to be told", desk.about(0, 9), -6 - GONE);
        due("what is out of range comes first", desk.about(0, 11), BAD_VALUE - GONE);
        due("what is below its range, too", desk.about(0, -1), BAD_VALUE - GONE);
        due("an entry that there is not comes first", desk.about(1, 9), NO_SUCH - GONE);
        due("no sights: the base", desk.bestBase(), -6);
        due("no sights: the trust", desk.bestTrust(), -6);
        write(desk, "m0");
        due("no fault", desk.fault(), -6);
    }

    @Sentence(promise = {10, 11, 13, 14}, under = "Terms",
        says = "Methods that return amounts that can be negative return error codes and NONE minus GONE, where GONE is "
            + "1000000000.")
    void errorsMinusGone() {
        OdometryDesk desk = withStep(-1, -1, 0);
        due("pose", desk.pose(1, 0), -1000000001);
        due("pose: what", desk.pose(0, 7), -1000000002);
        due("pose: an amount that is negative", desk.pose(0, 0), -500);
        due("about", desk.about(1, 0), -1000000001);
        due("about: what", desk.about(0, 11), -1000000002);
        due("about: none", desk.about(0, 7), -1000000006);
        due("wave", desk.wave(36000, 0), -1000000002);
        due("ifSet", desk.ifSet(9, 0, 0), -1000000002);
        due("GONE", OdometryDesk.GONE, 1000000000);
    }

    @Sentence(promise = {10, 11}, under = "Terms", says = "Divisions are rounded toward 0.")
    void divisionsOfTurns() {
        // 500 * 572958 / 300000 is 954.93.
        due("w below 0", withStep(0, -1, 0).about(0, 4), -954);
        due("w above 0", withStep(0, 1, 0).about(0, 4), 954);
        due("the mixed turn below 0", withStep(100, 100, -1).about(0, 5), 0);
        due("the mixed turn above 0", withStep(100, 100, 1).about(0, 5), 0);
        // -20001 * 300000 / 572958 is -10472.5: 50000 - 10472 + 50000 = 89528.
        due("the way by the turn, below 0", withStep(100, 100, -20001).about(0, 6), 44764);
        due("the way by the turn, above 0", withStep(100, 100, 20001).about(0, 6), 44764);
        OdometryDesk desk = withStep(-1, 0, 0);
        desk.set(OdometryDesk.LEFT, 101);
        due("the distance below 0", desk.about(0, 6), -50);
        desk.set(OdometryDesk.TRUST, 0);
        desk.cut(1);
        desk.step(100, 100, -1);
        due("half of the turn below 0", desk.pose(0, 1), 0);
        desk.begin(0, 0, 900100);
        desk.cut(1);
        desk.step(1, 1, 0);
        due("x below 0: 500 * -177 / 1000000", desk.pose(0, 0), 0);
        desk.begin(0, 0, 1800100);
        due("y below 0: 500 * -177 / 1000000", desk.pose(0, 1), 0);
    }

    @Sentence(promise = {10, 11}, under = "Terms", says = "Divisions are rounded toward 0.")
    void divisionsOfTheBias() {
        OdometryDesk desk = withStep(0, 0, -1);
        desk.set(OdometryDesk.BIAS, 5);
        due("the bias below 0: -16 / 5", desk.pose(0, 4), -3);
        desk.set(OdometryDesk.TRUST, 0);
        desk.step(1, 1, 4);
        due("a part of it below 0: -3 / 16", desk.about(1, 5), 4);
        desk.set(OdometryDesk.BIAS, 64);
        due("the bias below 0: -16 / 64", desk.pose(0, 4), 0);
        desk.cut(2);
        desk.set(OdometryDesk.BIAS, 5);
        desk.step(0, 0, 1);
        due("the bias above 0: 16 / 5", desk.pose(0, 4), 3);
    }

    @Sentence(promise = {10, 11}, under = "Terms", says = "Divisions are rounded toward 0.")
    void divisionsOfPulls() {
        OdometryDesk desk = withStep(1, 1, 0);
        desk.corridor(0, 0, 0, 0, 0);
        desk.begin(0, 0, 3599999);
        due("a pull below 0: -1 * 30 / 100", desk.about(0, 8), 0);
        due("it leaves the heading", desk.pose(0, 2), 3599999);
        desk.begin(0, 0, 3599996);
        due("a pull below 0: -4 * 30 / 100", desk.about(0, 8), -1);
        desk.begin(0, 0, 4);
        due("a pull above 0: 4 * 30 / 100", desk.about(0, 8), 1);
    }

    @Sentence(promise = {11}, under = "Terms", says = "Divisions are rounded toward 0.")
    void divisionsOfPlaces() {
        OdometryDesk desk = withStep(1, 1, 0);
        desk.set(OdometryDesk.REACH, 0);
        desk.corridor(0, 0, 0, 0, 0);
        desk.corridor(0, 0, 0, 0, 9000);
        desk.begin(0, 0, 1800000);
        due("-500 / 1000 in x", desk.about(0, 7), 0);
        desk.begin(0, 0, 2700000);
        due("-500 / 1000 in y", desk.about(0, 7), 1);
        desk.step(1, 1, 0);
        due("-1000 / 1000 in y", desk.about(1, 7), NONE - GONE);
        desk.begin(0, 0, 1800000);
        due("-1000 / 1000 in x", desk.about(1, 7), NONE - GONE);
    }

    @Sentence(promise = {10}, under = "Terms", says = "Divisions are rounded toward 0.")
    void divisionsOfSpreadErrors() {
        OdometryDesk desk = new OdometryDesk();
        for (int i = 0; i < 3; i++) {
            desk.step(1, 1, 0);
        }
        desk.marker(2, 1);
        desk.marker(1, -1);
        desk.see(0);
        // An error of -500 in x and -1000 in y: a third is -166.7 and -333.3, two thirds -333.3 and -666.7.
        due("x, an error below 0", desk.pose(0, 5), 500 + 166);
        due("y, an error below 0", desk.pose(0, 6), 333);
        due("x, two thirds", desk.pose(1, 5), 1000 + 333);
        due("y, two thirds", desk.pose(1, 6), 666);
        desk.cut(1);
        desk.see(1);
        due("x, an error above 0", desk.pose(0, 5), 500 - 166);
        due("y, an error above 0", desk.pose(0, 6), -333);
    }

    @Sentence(promise = {2, 3, 4, 10, 11, 19, 21}, under = "Terms", says = "Everything is numbered from 0.")
    void numberedFromZero() {
        OdometryDesk desk = new OdometryDesk();
        due("corridors", desk.corridor(0, 0, 0, 0, 0), 0);
        due("markers", desk.marker(0, 0), 0);
        desk.step(5, 6, 7);
        due("entries", desk.about(0, 1), 5);
        due("settings", desk.set(0, 501), 500);
        due("slots", desk.save(0), 1);
        due("characters", desk.put('x') + desk.fault(), 1);
    }

    // ---- units

    @Sentence(promise = {3, 4, 6, 10}, under = UNITS,
        says = "Positions and distances are in thousandths of a millimeter, but for corridors, markers and the start, which "
            + "are in millimeters.")
    void millimeters() {
        OdometryDesk desk = withStep(2, 2, 0);
        desk.begin(3, -4, 0);
        desk.marker(5, -6);
        desk.corridor(4, -4, 4, -4, 0);
        desk.set(OdometryDesk.REACH, 0);
        desk.see(0);
        due("the start", desk.pose(-1, 0), 3000);
        due("its y", desk.pose(-1, 1), -4000);
        due("the position", desk.pose(0, 0), 4000);
        due("the distance", desk.about(0, 6), 1000);
        due("the corridor", desk.about(0, 7), 0);
        due("the marker", desk.pose(1, 0), 5000);
        due("its y", desk.pose(1, 1), -6000);
    }

    private static OdometryDesk turned(int heading, int turn) {
        OdometryDesk desk = withStep(100, 100, turn);
        desk.set(OdometryDesk.TRUST, 0);
        desk.begin(0, 0, heading);
        return desk;
    }

    @Sentence(promise = {6, 10, 14}, under = UNITS,
        says = "a heading is from 0 to 3599999 (0 is the direction of x, 900000 that of y), and sums of headings are taken "
            + "mod 3600000 so that they are in this range.")
    void headingsWrapAround() {
        due("just below the wrap", turned(3599998, 1).pose(0, 2), 3599999);
        due("just at it", turned(3599999, 1).pose(0, 2), 0);
        due("just behind it", turned(3599999, 2).pose(0, 2), 1);
        due("down to 0", turned(1, -1).pose(0, 2), 0);
        due("below 0", turned(0, -1).pose(0, 2), 3599999);
        due("far up", turned(3599999, 300000).pose(0, 2), 299999);
        due("far down", turned(0, -300000).pose(0, 2), 3300000);
        due("if something were set, too", turned(3599999, 2).ifSet(OdometryDesk.TRUST, 0, 2), 1);
        due("0 is the direction of x", turned(0, 0).pose(0, 0), 50000);
        due("not that of y", turned(0, 0).pose(0, 1), 0);
        due("900000 is that of y", turned(900000, 0).pose(0, 1), 50000);
        due("not that of x", turned(900000, 0).pose(0, 0), 0);
    }

    @Sentence(promise = {10}, under = "The log", says = "the angle (the heading plus turn / 2, as a heading) / 100")
    void halfTurnsWrapAround() {
        // The sine of 90 hundredths is 15983: 50000 * 15983 / 1000000 is 799.
        due("y behind the wrap", turned(3599000, 20000).pose(0, 1), 799);
        due("x behind the wrap", turned(3599000, 20000).pose(0, 0), 49993);
        due("y below 0", turned(1000, -20000).pose(0, 1), -799);
        due("x below 0", turned(1000, -20000).pose(0, 0), 49993);
        due("just at the wrap", turned(3599990, 20).pose(0, 1), 0);
        // The sine of 35999 is -177.
        due("just below the wrap", turned(3599989, 20).pose(0, 1), -8);
        due("hundredths are cut, not rounded", turned(99, 0).pose(0, 1), 0);
        due("the next one", turned(100, 0).pose(0, 1), 8);
    }

    @Sentence(promise = {10}, under = UNITS,
        says = "sums of headings are taken mod 3600000 so that they are in this range")
    void pulledHeadingsWrapAround() {
        OdometryDesk desk = withStep(1, 1, 0);
        desk.corridor(0, 0, 0, 0, 0);
        desk.corridor(0, 0, 0, 0, 17999);
        desk.set(OdometryDesk.PULL, 100);
        desk.begin(0, 0, 3599999);
        due("from below 0 to 0", desk.pose(0, 2), 0);
        desk.set(OdometryDesk.TOLERANCE, 300);
        desk.begin(0, 0, 3599000);
        due("not pulled", desk.pose(0, 2), 3599000);
        desk.set(OdometryDesk.TOLERANCE, 900000);
        desk.closeCorridor();
        desk.closeCorridor();
        desk.corridor(0, 0, 0, 0, 17999);
        desk.begin(0, 0, 100);
        due("from above 0 to below it", desk.pose(0, 2), 3599900);
        desk.begin(0, 0, 0);
        due("from 0 to below it", desk.pose(0, 2), 3599900);
    }

    @Sentence(promise = {13}, under = UNITS,
        says = "The sine of an angle x from 0 to 18000 hundredths of a degree is 4000000 * u / (405000000 - u) with u = x * "
            + "(18000 - x);")
    void sineOfTheFirstHalf() {
        int[][] sines = {{0, 0}, {1, 177}, {2018, 346096}, {2069, 354384}, {3000, 500000}, {8999, 999999}, {9000, 1000000},
            {9001, 999999}, {15000, 500000}, {17999, 177}, {18000, 0}};
        for (int[] sine : sines) {
            due("the sine of " + sine[0], new OdometryDesk().wave(sine[0], 0), sine[1]);
        }
    }

    @Sentence(promise = {13}, under = UNITS, says = "that of an angle x from 18001 to 35999 is minus that of x - 18000.")
    void sineOfTheSecondHalf() {
        int[][] sines = {{18001, -177}, {21000, -500000}, {26999, -999999}, {27000, -1000000}, {27001, -999999},
            {33000, -500000}, {35999, -177}};
        for (int[] sine : sines) {
            due("the sine of " + sine[0], new OdometryDesk().wave(sine[0], 0), sine[1]);
        }
    }

    @Sentence(promise = {13}, under = UNITS, says = "The cosine of x is the sine of (x + 9000) mod 36000.")
    void cosineWrapsAround() {
        int[][] cosines = {{0, 1000000}, {8999, 177}, {9000, 0}, {9001, -177}, {18000, -1000000}, {26999, -177},
            {27000, 0}, {27001, 177}, {33000, 864864}, {35999, 999999}};
        for (int[] cosine : cosines) {
            due("the cosine of " + cosine[0], new OdometryDesk().wave(cosine[0], 1), cosine[1]);
        }
    }

    // ---- settings

    private void range(int setting, int least, int greatest, int first) {
        OdometryDesk desk = new OdometryDesk();
        due("the first value", desk.count(12 + setting), first);
        due("too small", desk.set(setting, least - 1), BAD_VALUE);
        due("too great", desk.set(setting, greatest + 1), BAD_VALUE);
        due("far too small", desk.set(setting, MIN), BAD_VALUE);
        due("far too great", desk.set(setting, MAX), BAD_VALUE);
        due("the least", desk.set(setting, least), first);
        due("the greatest", desk.set(setting, greatest), least);
        due("it is set", desk.count(12 + setting), greatest);
        due("if it were too small", desk.ifSet(setting, least - 1, 0), BAD_VALUE - GONE);
        due("if it were too great", desk.ifSet(setting, greatest + 1, 0), BAD_VALUE - GONE);
        due("if it were the least", desk.ifSet(setting, least, 0), 0);
        due("if it were the greatest", desk.ifSet(setting, greatest, 0), 0);
    }

    @Sentence(promise = {1, 2, 12}, under = SETTINGS, says = "(In parentheses: range; first value.)")
    void firstValues() {
        OdometryDesk desk = new OdometryDesk();
        for (int setting = 0; setting < 9; setting++) {
            due("told of " + setting, desk.count(12 + setting), FIRST[setting]);
            due("when " + setting + " is set", desk.set(setting, HIGHEST[setting]), FIRST[setting]);
        }
    }

    @Sentence(promise = {2, 14}, under = SETTINGS, says = "LEFT and RIGHT (100 to 2000; 500)")
    void rangeOfLeft() {
        range(OdometryDesk.LEFT, 100, 2000, 500);
    }

    @Sentence(promise = {2, 14}, under = SETTINGS, says = "LEFT and RIGHT (100 to 2000; 500)")
    void rangeOfRight() {
        range(OdometryDesk.RIGHT, 100, 2000, 500);
    }

    @Sentence(promise = {2, 14}, under = SETTINGS, says = "BASE (100 to 1000; 300)")
    void rangeOfBase() {
        range(OdometryDesk.BASE, 100, 1000, 300);
    }

    @Sentence(promise = {2, 14}, under = SETTINGS, says = "SLIP (0 to 200000; 20000)")
    void rangeOfSlip() {
        range(OdometryDesk.SLIP, 0, 200000, 20000);
    }

    @Sentence(promise = {2, 14}, under = SETTINGS, says = "TRUST (0 to 100; 50)")
    void rangeOfTrust() {
        range(OdometryDesk.TRUST, 0, 100, 50);
    }

    @Sentence(promise = {2, 14}, under = SETTINGS, says = "BIAS (1 to 64; 8)")
    void rangeOfBias() {
        range(OdometryDesk.BIAS, 1, 64, 8);
    }

    @Sentence(promise = {2, 14}, under = SETTINGS, says = "PULL (0 to 100; 30)")
    void rangeOfPull() {
        range(OdometryDesk.PULL, 0, 100, 30);
    }

    @Sentence(promise = {2, 14}, under = SETTINGS, says = "REACH (0 to 2000; 300)")
    void rangeOfReach() {
        range(OdometryDesk.REACH, 0, 2000, 300);
    }

    @Sentence(promise = {2, 14}, under = SETTINGS, says = "TOLERANCE (0 to 900000; 100000)")
    void rangeOfTolerance() {
        range(OdometryDesk.TOLERANCE, 0, 900000, 100000);
    }

    // ---- the map

    @Sentence(promise = {3, 5, 11}, under = MAP, says = "There are up to 8 corridors.")
    void eightCorridors() {
        OdometryDesk desk = withStep(1, 1, 0);
        for (int i = 0; i < 7; i++) {
            desk.corridor(9000, 9000, 9000, 9000, 0);
        }
        due("the eighth", desk.corridor(0, 0, 0, 0, 0), 7);
        due("it pulls", desk.about(0, 7), 7);
        due("the ninth", desk.corridor(0, 0, 0, 0, 0), TOO_MANY);
        due("one is closed", desk.closeCorridor(), 7);
        due("the eighth once more", desk.corridor(0, 0, 0, 0, 0), 7);
        due("the ninth once more", desk.corridor(0, 0, 0, 0, 0), TOO_MANY);
    }

    @Sentence(promise = {3}, under = MAP,
        says = "A corridor has two corners, x and y of each from -100000 to 100000, and a direction (0 to 17999 hundredths "
            + "of a degree;")
    void farthestCorridors() {
        OdometryDesk desk = new OdometryDesk();
        due("from edge to edge", desk.corridor(-100000, -100000, 100000, 100000, 0), 0);
        due("from edge to edge back", desk.corridor(100000, 100000, -100000, -100000, 17999), 1);
        due("x1", desk.corridor(-100001, 0, 0, 0, 0), BAD_VALUE);
        due("y1", desk.corridor(0, -100001, 0, 0, 0), BAD_VALUE);
        due("x2", desk.corridor(0, 0, 100001, 0, 0), BAD_VALUE);
        due("y2", desk.corridor(0, 0, 0, 100001, 0), BAD_VALUE);
        due("a direction too small", desk.corridor(0, 0, 0, 0, -1), BAD_VALUE);
        due("a direction too great", desk.corridor(0, 0, 0, 0, 18000), BAD_VALUE);
        due("two of them", desk.count(9), 2);
    }

    @Sentence(promise = {11}, under = MAP, says = "it can be driven both ways")
    void bothWays() {
        OdometryDesk desk = withStep(1, 1, 0);
        desk.corridor(0, 0, 0, 0, 17999);
        desk.begin(0, 0, 1799910);
        due("along it", desk.about(0, 8), 3);
        desk.begin(0, 0, 3599910);
        due("the other way", desk.about(0, 8), 3);
        desk.begin(0, 0, 3599890);
        due("the other way, from the other side", desk.about(0, 8), -3);
    }

    /** Whether a corridor from (100, -50) to (200, 50) with a reach of 10 is near to a start. */
    private boolean isNear(int x, int y) {
        OdometryDesk desk = withStep(1, -1, 0);
        desk.corridor(100, -50, 200, 50, 0);
        desk.set(OdometryDesk.REACH, 10);
        desk.begin(x, y, 0);
        return desk.about(0, 7) == 0;
    }

    @Sentence(promise = {11}, under = MAP,
        says = "It is near a position (x, y), if x / 1000 is at least the lesser x of the corners minus REACH,")
    void nearTheLesserX() {
        check.holds("at it", isNear(90, 0));
        check.holds("below it", !isNear(89, 0));
        OdometryDesk desk = withStep(1, 0, 0);
        desk.set(OdometryDesk.REACH, 2000);
        desk.corridor(-98000, 0, 0, 0, 0);
        desk.begin(-100000, 0, 0);
        due("with the whole reach", desk.about(0, 7), 0);
        desk.set(OdometryDesk.REACH, 1999);
        due("with one less: -99999751 / 1000 is -99999", desk.about(0, 7), 0);
        desk.begin(-100000, 0, 1800000);
        due("but -100000249 / 1000 is less", desk.about(0, 7), NONE - GONE);
    }

    @Sentence(promise = {11}, under = MAP, says = "and at most the greater one plus REACH,")
    void nearTheGreaterX() {
        check.holds("at it", isNear(210, 0));
        check.holds("above it", !isNear(211, 0));
        int[] corridors = reachedBeyondTheEdge(0);
        due("102000000", corridors[7], 0);
        due("102000499 / 1000 is 102000", corridors[8], 0);
        due("102000998 / 1000 is 102000", corridors[9], 0);
        due("102001497 / 1000 is more", corridors[10], NONE - GONE);
    }

    /** From the greatest x or y 2000 mm on, then half a mm each time: the corridors that pulled. */
    private static int[] reachedBeyondTheEdge(int heading) {
        OdometryDesk desk = new OdometryDesk();
        desk.set(OdometryDesk.LEFT, 1000);
        desk.set(OdometryDesk.RIGHT, 1000);
        desk.set(OdometryDesk.REACH, 2000);
        desk.corridor(0, 0, 100000, 100000, heading / 100);
        desk.begin(100000, 100000, heading);
        int[] corridors = new int[11];
        for (int i = 0; i < 11; i++) {
            desk.step(i < 8 ? 250 : 1, i < 8 ? 250 : 0, 0);
            corridors[i] = desk.about(i, 7);
        }
        return corridors;
    }

    @Sentence(promise = {11}, under = MAP, says = "and the same for y.")
    void nearInY() {
        check.holds("at the lesser one", isNear(150, -60));
        check.holds("below it", !isNear(150, -61));
        check.holds("at the greater one", isNear(150, 60));
        check.holds("above it", !isNear(150, 61));
        check.holds("at a corner", isNear(210, 60));
        check.holds("beyond a corner in y", !isNear(210, 61));
        check.holds("beyond a corner in x", !isNear(211, 60));
        int[] corridors = reachedBeyondTheEdge(900000);
        due("102000000", corridors[7], 0);
        due("102000499 / 1000 is 102000", corridors[8], 0);
        due("102000998 / 1000 is 102000", corridors[9], 0);
        due("102001497 / 1000 is more", corridors[10], NONE - GONE);
    }

    @Sentence(promise = {3, 11}, under = MAP, says = "the lesser x of the corners")
    void cornersInAnyOrder() {
        int[][] corners = {{100, -50, 200, 50}, {200, -50, 100, 50}, {100, 50, 200, -50}, {200, 50, 100, -50}};
        for (int[] corner : corners) {
            OdometryDesk desk = withStep(1, -1, 0);
            desk.set(OdometryDesk.REACH, 0);
            desk.corridor(corner[0], corner[1], corner[2], corner[3], 0);
            int[][] places = {{100, -50, 0}, {200, 50, 0}, {150, 0, 0}, {99, 0, 1}, {201, 0, 1}, {150, -51, 1},
                {150, 51, 1}};
            for (int[] place : places) {
                desk.begin(place[0], place[1], 0);
                due(corner[0] + ", " + corner[1] + ": at " + place[0] + ", " + place[1], desk.about(0, 7),
                    place[2] == 0 ? 0 : NONE - GONE);
            }
        }
    }

    @Sentence(promise = {4, 8}, under = MAP,
        says = "There are up to 6 markers, each with x and y from -100000 to 100000.")
    void sixMarkers() {
        OdometryDesk desk = withMarkers(5);
        due("too far in x", desk.marker(-100001, 0), BAD_VALUE);
        due("too far in y", desk.marker(0, 100001), BAD_VALUE);
        due("the sixth, at an edge", desk.marker(-100000, 100000), 5);
        due("the seventh", desk.marker(0, 0), TOO_MANY);
        due("the sixth is seen", desk.see(5), 1);
        due("its x", desk.pose(0, 0), -100000000);
        due("its y", desk.pose(0, 1), 100000000);
        due("the seventh is not", desk.see(6), NO_SUCH);
    }
}
