/** What the terms say of boundaries: the log, step by step, and spread errors. */
final class LogEdges extends Desks {
    private static final String LOG = "The log", SPREAD = "Spread errors";

    // ---- the log

    @Sentence(promise = {7, 8, 20}, under = LOG, says = "The log has up to 120 entries: steps and sights.")
    void entries() {
        OdometryDesk desk = farApart(60);
        for (int entry = 61; entry <= 119; entry++) {
            desk.step(1, 1, 0);
        }
        due("the last one, a sight", desk.see(0), 120);
        due("a step more", desk.step(1, 1, 0), TOO_MANY);
        due("a sight more", desk.see(0), TOO_MANY);
        due("without it", desk.cut(1), 119);
        due("the last one, a step", desk.step(2, 2, 0), 120);
        due("a sight more than that", desk.see(0), TOO_MANY);
        due("it is told", desk.about(119, 1), 2);
    }

    @Sentence(promise = {7}, under = LOG,
        says = "A step has the ticks of the left and of the right wheel (-300 to 300 each)")
    void ticks() {
        OdometryDesk desk = new OdometryDesk();
        due("too few on the left", desk.step(-301, 0, 0), BAD_VALUE);
        due("too many on the left", desk.step(301, 0, 0), BAD_VALUE);
        due("too few on the right", desk.step(0, -301, 0), BAD_VALUE);
        due("too many on the right", desk.step(0, 301, 0), BAD_VALUE);
        due("the fewest on the left", desk.step(-300, 300, 0), 1);
        due("the fewest on the right", desk.step(300, -300, 0), 2);
        due("left: -300", desk.about(0, 1), -300);
        due("right: 300", desk.about(0, 2), 300);
        due("left: 300", desk.about(1, 1), 300);
        due("right: -300", desk.about(1, 2), -300);
    }

    @Sentence(promise = {7}, under = LOG, says = "and the turn that was measured (-300000 to 300000).")
    void measuredTurns() {
        OdometryDesk desk = new OdometryDesk();
        due("too far down", desk.step(1, 1, -300001), BAD_VALUE);
        due("too far up", desk.step(1, 1, 300001), BAD_VALUE);
        due("a stand, too far down", desk.step(0, 0, -300001), BAD_VALUE);
        due("the least", desk.step(1, 1, -300000), 1);
        due("the greatest", desk.step(1, 1, 300000), 2);
        due("-300000", desk.about(0, 3), -300000);
        due("300000", desk.about(1, 3), 300000);
    }

    @Sentence(promise = {2, 3, 5, 6, 10, 11, 12}, under = LOG,
        says = "All that is told is found from the start and the whole log, by the settings and the map as they are now.")
    void asTheyAreNow() {
        OdometryDesk desk = withStep(100, 100, 0);
        due("the distance", desk.about(0, 6), 50000);
        desk.set(OdometryDesk.LEFT, 502);
        due("by a setting of now", desk.about(0, 6), 50100);
        desk.set(OdometryDesk.LEFT, 500);
        desk.begin(7, 0, 0);
        due("from a start of now", desk.pose(0, 0), 57000);
        desk.corridor(0, 0, 0, 0, 0);
        due("by a map of now", desk.count(6), 1);
        desk.closeCorridor();
        due("by a map that is empty again", desk.count(6), 0);
        desk.cut(1);
        due("by a log that is empty again", desk.count(8), 0);
    }

    @Sentence(promise = {1, 6, 10, 12}, under = LOG,
        says = "At the start, the vehicle is where the start is, with its heading; the bias (in sixteenths) and all counts "
            + "are 0.")
    void atTheStart() {
        OdometryDesk desk = withStep(0, 0, 300000);
        desk.step(100, 100, 0);
        desk.begin(-100000, 100000, 3599999);
        int[] start = {-100000000, 100000000, 3599999, 0, 0, -100000000, 100000000};
        for (int what = 0; what < 7; what++) {
            due("pose(-1, " + what + ")", desk.pose(-1, what), start[what]);
        }
        desk.cut(2);
        for (int what = 0; what < 9; what++) {
            due("count(" + what + ") of an empty log", desk.count(what), 0);
        }
        desk.step(0, 0, 2);
        due("the bias begins with 0, in sixteenths", desk.pose(0, 4), 4);
    }

    @Sentence(promise = {10, 11, 12}, under = LOG, says = "A step with no ticks of both wheels:")
    void stands() {
        int[][] steps = {{0, 0, 0, 0}, {0, 0, 300000, 0}, {1, 0, 0, 1}, {0, 1, 0, 1}, {-1, 0, 0, 1}, {0, -1, 0, 1},
            {1, -1, 0, 1}, {-1, 1, 0, 1}, {300, -300, 0, 2}};
        for (int[] step : steps) {
            OdometryDesk desk = withStep(step[0], step[1], step[2]);
            due(step[0] + ", " + step[1] + ": its kind", desk.about(0, 0), step[3]);
            due(step[0] + ", " + step[1] + ": stands", desk.count(1), step[3] == 0 ? 1 : 0);
        }
    }

    @Sentence(promise = {10}, under = LOG,
        says = "the bias increases by (16 * the turn that was measured - the bias) / BIAS;")
    void farthestBias() {
        OdometryDesk desk = withStep(0, 0, 300000);
        desk.step(0, 0, -300000);
        due("an eighth", desk.pose(0, 4), 600000);
        due("an eighth of the way back", desk.pose(1, 4), 600000 - 675000);
        desk.set(OdometryDesk.BIAS, 1);
        due("all of it", desk.pose(0, 4), 4800000);
        due("all of it back", desk.pose(1, 4), -4800000);
        desk.set(OdometryDesk.BIAS, 64);
        due("a 64th", desk.pose(0, 4), 75000);
        due("a 64th of the way back", desk.pose(1, 4), 75000 - 76171);
        desk.step(1, 1, 300000);
        due("a step leaves it", desk.pose(2, 4), 75000 - 76171);
    }

    @Sentence(promise = {10, 11}, under = LOG, says = "the vehicle stands, and it is a stand.")
    void aStandMovesNothing() {
        OdometryDesk desk = withStep(100, 100, 300000);
        desk.step(0, 0, 300000);
        desk.set(OdometryDesk.SLIP, 0);
        desk.set(OdometryDesk.TOLERANCE, 900000);
        desk.corridor(0, 0, 0, 0, 3);
        desk.begin(10, 20, 30);
        for (int what = 0; what < 4; what++) {
            due("pose: " + what, desk.pose(1, what), desk.pose(0, what));
        }
        due("no corridor pulls", desk.about(1, 7), NONE - GONE);
        due("its kind", desk.about(1, 0), 0);
    }

    @Sentence(promise = {11}, under = LOG, 
        says = "Another step, with a as LEFT times the left ticks, b as RIGHT times the right ticks, w = (b - a) * 572958 / "
            + "(BASE * 1000),")
    void farthestTurnsByTheWheels() {
        OdometryDesk desk = withStep(300, -300, 0);
        desk.step(-300, 300, 0);
        desk.set(OdometryDesk.LEFT, 2000);
        desk.set(OdometryDesk.RIGHT, 2000);
        desk.set(OdometryDesk.BASE, 100);
        due("the least", desk.about(0, 4), -6875496);
        due("the greatest", desk.about(1, 4), 6875496);
        desk.set(OdometryDesk.LEFT, 100);
        desk.set(OdometryDesk.RIGHT, 100);
        desk.set(OdometryDesk.BASE, 1000);
        due("with the least wheels and the greatest base", desk.about(0, 4), -34377);
        desk.set(OdometryDesk.LEFT, 2000);
        due("with the greatest wheel on the left", desk.about(0, 4), -360963);
        desk.set(OdometryDesk.LEFT, 100);
        desk.set(OdometryDesk.RIGHT, 2000);
        due("with the greatest wheel on the right", desk.about(1, 4), 360963);
    }

    @Sentence(promise = {11}, under = LOG, says = "v as the turn that was measured minus (the bias) / 16:")
    void farthestTurnsByTheRate() {
        OdometryDesk desk = withStep(0, 0, 300000);
        desk.step(1, 0, -300000);
        desk.step(0, 0, -300000);
        desk.step(0, 1, 300000);
        desk.set(OdometryDesk.BIAS, 1);
        desk.set(OdometryDesk.BASE, 1000);
        due("the least", desk.about(1, 5), -600000);
        due("the greatest", desk.about(3, 5), 600000);
        // s is 600000 * 1000000 / 572958 = 1047197: (500 - 1046697) / 2 is -523098.5.
        due("its distance, the right wheel left out", desk.about(1, 6), -523098);
        due("its distance, the left wheel left out", desk.about(3, 6), -523098);
        desk.cut(4);
        desk.step(0, 0, 1);
        desk.step(100, 100, 5);
        desk.set(OdometryDesk.TRUST, 0);
        due("16 sixteenths", desk.about(1, 5), 4);
        desk.set(OdometryDesk.BIAS, 2);
        due("8 sixteenths", desk.about(1, 5), 5);
        due("what was measured stays", desk.about(1, 3), 5);
    }

    @Sentence(promise = {11, 12, 14}, under = LOG,
        says = "If the absolute value of w - v is greater than SLIP, a wheel slips:")
    void justNoSlip() {
        due("v is greater by SLIP", withStep(100, 100, 20000).about(0, 0), 1);
        due("by 1 more", withStep(100, 100, 20001).about(0, 0), 2);
        due("v is less by SLIP", withStep(100, 100, -20000).about(0, 0), 1);
        due("by 1 more below", withStep(100, 100, -20001).about(0, 0), 3);
        OdometryDesk desk = withStep(100, 100, 200000);
        desk.step(100, 100, 200001);
        desk.step(100, 100, 0);
        desk.step(100, 100, 1);
        desk.set(OdometryDesk.SLIP, 200000);
        due("the greatest SLIP", desk.about(0, 0), 1);
        due("1 more than that", desk.about(1, 0), 2);
        due("steps with slip", desk.count(3), 1);
        due("if SLIP were 1 less", desk.ifSet(OdometryDesk.SLIP, 199999, 3), 2);
        desk.set(OdometryDesk.SLIP, 0);
        due("the least SLIP, with nothing between w and v", desk.about(2, 0), 1);
        due("the least SLIP, with 1 between them", desk.about(3, 0), 2);
    }

    @Sentence(promise = {11, 12}, under = LOG, says = "the right one, if w is greater than v, otherwise the left one.")
    void whichWheelSlips() {
        OdometryDesk desk = withStep(100, 110, 0);
        desk.step(110, 100, 0);
        desk.step(100, 110, 9550);
        desk.step(100, 110, 9548);
        desk.set(OdometryDesk.SLIP, 0);
        due("w is greater", desk.about(0, 0), 3);
        due("w is less", desk.about(1, 0), 2);
        due("w is less by 1", desk.about(2, 0), 2);
        due("w is greater by 1", desk.about(3, 0), 3);
        due("left ones", desk.count(3), 2);
        due("right ones", desk.count(4), 2);
    }

    @Sentence(promise = {11}, under = LOG,
        says = "The way of this wheel is left out: b becomes a + s, or a becomes b - s, with s = v * BASE * 1000 / 572958.")
    void theWayThatIsLeftOut() {
        // s is 2000 * 300000 / 572958 = 1047.
        due("the right one", withStep(100, 200, 2000).about(0, 6), (50000 + 51047) / 2);
        due("the left one", withStep(200, 100, -2000).about(0, 6), (50000 + 51047) / 2);
        due("the right one is behind", withStep(100, 200, -2000).about(0, 6), (50000 + 48953) / 2);
        due("the left one is behind", withStep(200, 100, 2000).about(0, 6), (50000 + 48953) / 2);
        OdometryDesk desk = withStep(0, 300, 300000);
        desk.set(OdometryDesk.RIGHT, 2000);
        desk.set(OdometryDesk.BASE, 1000);
        desk.set(OdometryDesk.SLIP, 0);
        // w is 343774, and s is 300000 * 1000000 / 572958 = 523598.
        due("the greatest base", desk.about(0, 6), 523598 / 2);
    }

    @Sentence(promise = {10, 11}, under = LOG, says = "The turn is v.")
    void theTurnOfASlip() {
        OdometryDesk desk = withStep(100, 100, 20001);
        desk.set(OdometryDesk.TRUST, 100);
        due("with all trust in the wheels", desk.about(0, 5), 20001);
        due("the heading", desk.pose(0, 2), 20001);
    }

    @Sentence(promise = {11, 14}, under = LOG, says = "Otherwise the turn is (TRUST * w + (100 - TRUST) * v) / 100.")
    void theTurnWithoutSlip() {
        OdometryDesk desk = withStep(100, 110, -451);
        due("w", desk.about(0, 4), 9549);
        due("half and half", desk.about(0, 5), 4549);
        desk.set(OdometryDesk.TRUST, 0);
        due("no trust", desk.about(0, 5), -451);
        desk.set(OdometryDesk.TRUST, 100);
        due("all trust", desk.about(0, 5), 9549);
        desk.set(OdometryDesk.TRUST, 1);
        due("a hundredth", desk.about(0, 5), -351);
        due("if it were all but a hundredth", desk.ifSet(OdometryDesk.TRUST, 99, 2), 9449);
    }

    @Sentence(promise = {10}, under = LOG,
        says = "With d = (a + b) / 2 and the angle (the heading plus turn / 2, as a heading) / 100: x increases by d * cosine "
            + "/ 1000000, y by d * sine / 1000000.")
    void farthestSteps() {
        OdometryDesk desk = withStep(300, 300, 0);
        desk.step(-300, -300, 0);
        desk.set(OdometryDesk.LEFT, 2000);
        desk.set(OdometryDesk.RIGHT, 2000);
        desk.begin(100000, -100000, 0);
        due("the longest distance", desk.about(0, 6), 600000);
        due("the longest distance back", desk.about(1, 6), -600000);
        due("x", desk.pose(0, 0), 100600000);
        due("x back", desk.pose(1, 0), 100000000);
        desk.begin(100000, -100000, 2700000);
        due("y", desk.pose(0, 1), -100600000);
        due("y back", desk.pose(1, 1), -100000000);
        desk.begin(0, 0, 300000);
        due("x at 30 degrees", desk.pose(0, 0), 518918);
        due("y at 30 degrees", desk.pose(0, 1), 300000);
    }

    @Sentence(promise = {10, 11}, under = LOG,
        says = "x increases by d * cosine / 1000000, y by d * sine / 1000000.")
    void farthestStepsWithSlip() {
        OdometryDesk desk = withStep(0, 0, 300000);
        desk.step(-300, -300, -300000);
        desk.set(OdometryDesk.BIAS, 1);
        desk.set(OdometryDesk.LEFT, 2000);
        desk.set(OdometryDesk.RIGHT, 2000);
        desk.set(OdometryDesk.BASE, 1000);
        // v is -600000, s -1047197, and half of -600000 and -1647197 is -1123598.5.
        desk.begin(0, 0, 300000);
        due("the distance", desk.about(1, 6), -1123598);
        due("x", desk.pose(1, 0), -1123598);
        due("no y", desk.pose(1, 1), 0);
        desk.begin(0, 0, 1200000);
        due("y", desk.pose(1, 1), -1123598);
        due("no x", desk.pose(1, 0), 0);
        due("the way", desk.pose(1, 3), 1123598);
    }

    @Sentence(promise = {10, 12}, under = LOG,
        says = "The heading increases by the turn; the way increases by the absolute value of d.")
    void theWay() {
        OdometryDesk desk = withStep(100, 100, 100);
        desk.step(-100, -100, 100);
        desk.step(1, -1, 0);
        desk.step(0, 0, 0);
        desk.set(OdometryDesk.TRUST, 0);
        due("forward", desk.pose(0, 3), 50000);
        due("backward, too", desk.pose(1, 3), 100000);
        due("not on the spot", desk.pose(2, 3), 100000);
        due("not at a stand", desk.pose(3, 3), 100000);
        due("all of it", desk.count(8), 100000);
        due("the heading", desk.pose(0, 2), 100);
        due("the heading, driven backward", desk.pose(1, 2), 200);
    }

    // ---- corridors

    private static OdometryDesk inCorridor(int heading, int tolerance) {
        OdometryDesk desk = withStep(1, 1, 0);
        desk.corridor(0, 0, 0, 0, 0);
        desk.set(OdometryDesk.PULL, 100);
        desk.set(OdometryDesk.TOLERANCE, tolerance);
        desk.begin(0, 0, heading);
        return desk;
    }

    @Sentence(promise = {11}, under = LOG,
        says = "Of the corridors, in ascending order, the first one that is near, and for which the absolute value of e is at "
            + "most TOLERANCE, pulls:")
    void theFirstCorridorPulls() {
        OdometryDesk desk = withStep(1, 1, 0);
        desk.corridor(50000, 50000, 50000, 50000, 0);
        desk.corridor(0, 0, 0, 0, 9000);
        due("one too far, one too much off", desk.about(0, 7), NONE - GONE);
        desk.corridor(0, 0, 0, 0, 10);
        desk.corridor(0, 0, 0, 0, 0);
        due("the first that is neither", desk.about(0, 7), 2);
        due("it alone pulls", desk.about(0, 8), -300);
        due("the heading is pulled once", desk.pose(0, 2), 300);
        desk.begin(0, 0, 900000);
        due("another heading, another corridor", desk.about(0, 7), 1);
        desk.begin(50000, 50000, 0);
        due("another place, another corridor", desk.about(0, 7), 0);
    }

    @Sentence(promise = {11}, under = LOG, says = "the absolute value of e is at most TOLERANCE")
    void justTolerated() {
        int[][] cases = {{100000, 100000, 0}, {100001, 100000, 1}, {3500000, 100000, 0}, {3499999, 100000, 1}, {0, 0, 0},
            {1, 0, 1}, {3599999, 0, 1}, {1800000, 0, 0}, {1800001, 0, 1}, {900000, 900000, 0}, {900000, 899999, 1},
            {899999, 899999, 0}, {899999, 899998, 1}};
        for (int[] one : cases) {
            due("heading " + one[0] + ", TOLERANCE " + one[1], inCorridor(one[0], one[1]).about(0, 7),
                one[2] == 0 ? 0 : NONE - GONE);
        }
    }

    @Sentence(promise = {10, 11, 12}, under = LOG,
        says = "the heading decreases by e * PULL / 100 (it has pulled also if that is 0).")
    void aPullOfNothing() {
        OdometryDesk desk = inCorridor(0, 0);
        due("nothing off: who pulled", desk.about(0, 7), 0);
        due("nothing off: by how much", desk.about(0, 8), 0);
        due("nothing off: it counts", desk.count(6), 1);
        desk = inCorridor(50000, 100000);
        due("all of it", desk.about(0, 8), 50000);
        due("the heading then", desk.pose(0, 2), 0);
        desk.set(OdometryDesk.PULL, 0);
        due("no PULL: who pulled", desk.about(0, 7), 0);
        due("no PULL: by how much", desk.about(0, 8), 0);
        due("no PULL: it counts", desk.count(6), 1);
        due("no PULL: the heading", desk.pose(0, 2), 50000);
        desk.set(OdometryDesk.PULL, 30);
        desk.begin(0, 0, 3);
        due("too little: it counts", desk.count(6), 1);
        due("too little: by how much", desk.about(0, 8), 0);
    }

    @Sentence(promise = {11}, under = LOG,
        says = "Here e is the heading minus 100 * the direction, changed by multiples of 1800000 so that it is from -900000 "
            + "to 899999.")
    void offTheDirection() {
        int[][] offs = {{0, 0}, {1, 1}, {899999, 899999}, {900000, -900000}, {900001, -899999}, {1799999, -1},
            {1800000, 0}, {2699999, 899999}, {2700000, -900000}, {3599999, -1}};
        for (int[] off : offs) {
            due("heading " + off[0], inCorridor(off[0], 900000).about(0, 8), off[1]);
        }
        OdometryDesk desk = inCorridor(0, 900000);
        desk.closeCorridor();
        desk.corridor(0, 0, 0, 0, 17999);
        due("the greatest direction", desk.about(0, 8), 100);
        desk.begin(0, 0, 899899);
        due("the greatest direction, the greatest e", desk.about(0, 8), 899999);
        desk.begin(0, 0, 899900);
        due("the greatest direction, the least e", desk.about(0, 8), -900000);
        desk.begin(0, 0, 3599999);
        due("the greatest direction, the greatest heading", desk.about(0, 8), 99);
    }

    // ---- sights

    @Sentence(promise = {10, 11, 12}, under = LOG,
        says = "A sight of a marker: its error is the position minus that of the marker (1000 * its x and y); the vehicle is "
            + "at the marker then; the heading stays.")
    void sights() {
        OdometryDesk desk = farApart(3);
        desk.begin(-100000, 100000, 3599999);
        due("no error in x", desk.about(0, 9), 0);
        due("the greatest error in y", desk.about(0, 10), 200000000);
        due("the least error in x", desk.about(1, 9), -200000000);
        due("from one marker to the other", desk.about(2, 9), 200000000);
        due("it is at the marker", desk.pose(1, 1), 100000000);
        due("the heading stays", desk.pose(2, 2), 3599999);
        due("no way to it", desk.pose(2, 3), 0);
        due("they are all counted", desk.count(5), 3);
        desk.step(0, 0, 1);
        desk.step(100, 100, 0);
        desk.see(0);
        due("the bias stays", desk.pose(5, 4), 2);
        due("the way stays", desk.pose(5, 3), 50000);
    }

    // ---- spread errors

    /** 50, a sight at 40 and 4, 60, 40, a sight there once more. */
    private static OdometryDesk twoSights() {
        OdometryDesk desk = withStep(100, 100, 0);
        desk.marker(40, 4);
        desk.see(0);
        desk.step(120, 120, 0);
        desk.step(80, 80, 0);
        desk.see(0);
        return desk;
    }

    @Sentence(promise = {10}, under = SPREAD,
        says = "For an entry with a sight behind it or in it, let the errors of the first such sight be ex and ey,")
    void theFirstSightBehind() {
        OdometryDesk desk = twoSights();
        // Errors of 10 and -4, then of 100 and 0.
        due("x ahead of the first one", desk.pose(0, 5), 40000);
        due("y ahead of the first one", desk.pose(0, 6), 4000);
        due("x in the first one", desk.pose(1, 5), 40000);
        due("x ahead of the second one", desk.pose(2, 5), 100000 - 60000);
        due("x just ahead of it", desk.pose(3, 5), 140000 - 100000);
        due("x in the last one", desk.pose(4, 5), 40000);
    }

    @Sentence(promise = {10}, under = SPREAD,
        says = "p the way up to the entry, p0 the way up to the last sight ahead of the entry (0 if there is none),")
    void theLastSightAhead() {
        OdometryDesk desk = twoSights();
        desk.begin(10, 0, 0);
        // The errors are 20 and -4 over the way of 50 from 0, then 100 over that of 100 from 50.
        due("none ahead", desk.pose(0, 5), 60000 - 20000);
        due("one ahead", desk.pose(2, 5), 100000 - 60000);
        desk.cut(5);
        desk.step(20, 20, 0);
        desk.step(80, 80, 0);
        desk.see(0);
        due("none ahead: a fifth", desk.pose(0, 5), 20000 - 20000 / 5);
        due("none ahead: the sight itself", desk.pose(2, 5), 40000);
        desk.see(0);
        desk.see(0);
        desk.step(10, 10, 0);
        desk.step(10, 10, 0);
        desk.see(0);
        due("the last one of several", desk.pose(5, 5), 45000 - 5000);
    }

    @Sentence(promise = {10}, under = SPREAD,
        says = "and p1 that up to this first sight: the spread position is x - ex * (p - p0) / (p1 - p0), and likewise for y, "
            + "with x and y as they are behind the entry (for the sight itself: ahead of it);")
    void theSightItself() {
        OdometryDesk desk = twoSights();
        due("it is ahead of it: x", desk.pose(4, 5), 140000 - 100000);
        due("it is ahead of it: y", desk.pose(4, 6), 4000);
        due("not ahead of it: x", desk.pose(4, 0), 40000);
        desk.cut(1);
        desk.step(0, 0, 0);
        desk.see(0);
        due("a stand just ahead of it", desk.pose(4, 5), 40000);
        desk = new OdometryDesk();
        desk.set(OdometryDesk.LEFT, 2000);
        desk.set(OdometryDesk.RIGHT, 2000);
        desk.begin(100000, 100000, 0);
        for (int i = 0; i < 10; i++) {
            desk.step(300, 300, 0);
        }
        desk.marker(-100000, -100000);
        desk.see(0);
        // Errors of 206000000 and 200000000, of which seven tenths are spread.
        due("great errors over a long way: x", desk.pose(6, 5), 104200000 - 144200000);
        due("great errors over a long way: y", desk.pose(6, 6), 100000000 - 140000000);
    }

    @Sentence(promise = {10}, under = SPREAD,
        says = "if p1 is p0, it is these x and y as they are (for the sight itself, too: ahead of it).")
    void noWay() {
        OdometryDesk desk = withMarkers(2);
        desk.begin(1, 2, 0);
        desk.step(0, 0, 0);
        desk.see(0);
        desk.step(1, -1, 0);
        desk.see(1);
        desk.see(0);
        due("a stand from the start: x", desk.pose(0, 5), 1000);
        due("a stand from the start: y", desk.pose(0, 6), 2000);
        due("the sight: x", desk.pose(1, 5), 1000);
        due("the sight: y", desk.pose(1, 6), 2000);
        due("a step on the spot: x", desk.pose(2, 5), 0);
        due("a step on the spot: y", desk.pose(2, 6), 5000);
        due("the sight behind it: x", desk.pose(3, 5), 0);
        due("the sight behind it: y", desk.pose(3, 6), 5000);
        due("a sight at once: x", desk.pose(4, 5), 10000);
        due("a sight at once: y", desk.pose(4, 6), 15000);
        desk.cut(5);
        desk.see(0);
        due("the first entry of all", desk.pose(0, 5), 1000);
        // s is -190983 * 300000 / 572958 = -99998: of 50000 and -49998 the half is 1.
        desk.cut(1);
        desk.step(100, 100, -190983);
        desk.see(1);
        due("but over a way of 1: p1", desk.pose(1, 3), 1);
        due("but over a way of 1: x", desk.pose(0, 5), 10000);
    }

    @Sentence(promise = {10}, under = SPREAD, says = "For an entry without such a sight, it is x and y.")
    void withoutASight() {
        OdometryDesk desk = twoSights();
        desk.step(100, 100, 0);
        desk.step(0, 0, 0);
        due("a step behind all sights: x", desk.pose(5, 5), 90000);
        due("a step behind all sights: y", desk.pose(5, 6), 4000);
        due("a stand behind all sights: x", desk.pose(6, 5), 90000);
        desk.cut(6);
        due("no sights at all: x", desk.pose(0, 5), 50000);
        due("no sights at all: y", desk.pose(0, 6), 0);
    }
}
