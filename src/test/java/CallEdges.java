/** What promises 1 to 16, 21 and 22 say of boundaries. */
final class CallEdges extends Desks {
    /** Too far for a place. */
    private static final int[] FAR = {-100001, 100001, MIN, MAX};
    /** The greatest places that there are. */
    private static final int[] FARTHEST = {-100000, 100000};

    // ---- 1: a new object

    @Sentence(promise = {1}, says = "Creates a desk with an empty log and an empty map;")
    void emptyAtFirst() {
        OdometryDesk desk = new OdometryDesk();
        for (int what = 0; what < 12; what++) {
            due("count(" + what + ")", desk.count(what), 0);
        }
        due("no entry", desk.pose(0, 0), NO_SUCH - GONE);
        due("no entry to tell of", desk.about(0, 0), NO_SUCH - GONE);
        due("none to be cut", desk.cut(1), BAD_VALUE);
        due("no corridor", desk.closeCorridor(), NOT_POSSIBLE);
        due("no marker", desk.see(0), NO_SUCH);
        due("nothing in slot 0", desk.restore(0), NOT_POSSIBLE);
        due("nothing in slot 1", desk.restore(1), NOT_POSSIBLE);
        due("nothing on the pad", desk.wipe(), 0);
        OdometryDesk other = furnished();
        due("another desk has nothing of it", new OdometryDesk().count(0) + 4, other.count(0));
    }

    @Sentence(promise = {1}, says = "the start is at (0, 0) with the heading 0.")
    void startsAtZero() {
        OdometryDesk desk = new OdometryDesk();
        for (int what = 0; what < 7; what++) {
            due("pose(-1, " + what + ")", desk.pose(-1, what), 0);
        }
    }

    // ---- 2: set

    @Sentence(promise = {2}, says = "Returns the previous value; BAD_VALUE if there is no such setting,")
    void noSuchSetting() {
        OdometryDesk desk = new OdometryDesk();
        for (int setting : new int[] {-1, 9, 10, MIN, MAX}) {
            due("set(" + setting + ", 100)", desk.set(setting, 100), BAD_VALUE);
            due("set(" + setting + ", 0)", desk.set(setting, 0), BAD_VALUE);
        }
        for (int setting = 0; setting < 9; setting++) {
            due("the previous value of " + setting, desk.set(setting, LOWEST[setting]), FIRST[setting]);
            due("the previous value then", desk.set(setting, LOWEST[setting]), LOWEST[setting]);
        }
    }

    @Sentence(promise = {2}, says = "or the value is out of its range.")
    void settingsOutOfRange() {
        OdometryDesk desk = new OdometryDesk();
        for (int setting = 0; setting < 9; setting++) {
            for (int value : new int[] {LOWEST[setting] - 1, HIGHEST[setting] + 1, MIN, MAX}) {
                due("set(" + setting + ", " + value + ")", desk.set(setting, value), BAD_VALUE);
            }
            due("setting " + setting + " stays", desk.count(12 + setting), FIRST[setting]);
        }
    }

    // ---- 3: corridor

    private void cornerRange(int argument) {
        OdometryDesk desk = new OdometryDesk();
        int number = 0;
        for (int value : FARTHEST) {
            int[] at = new int[4];
            at[argument] = value;
            due("argument " + argument + ": " + value, desk.corridor(at[0], at[1], at[2], at[3], 0), number++);
        }
        for (int value : FAR) {
            int[] at = new int[4];
            at[argument] = value;
            due("argument " + argument + ": " + value, desk.corridor(at[0], at[1], at[2], at[3], 0), BAD_VALUE);
        }
        due("argument " + argument + ": corridors", desk.count(9), 2);
    }

    @Sentence(promise = {3}, says = "- `x1`: -100000 to 100000")
    void rangeOfX1() {
        cornerRange(0);
    }

    @Sentence(promise = {3}, says = "- `y1`: -100000 to 100000")
    void rangeOfY1() {
        cornerRange(1);
    }

    @Sentence(promise = {3}, says = "- `x2`: -100000 to 100000")
    void rangeOfX2() {
        cornerRange(2);
    }

    @Sentence(promise = {3}, says = "- `y2`: -100000 to 100000")
    void rangeOfY2() {
        cornerRange(3);
    }

    @Sentence(promise = {3}, says = "- `direction`: 0 to 17999")
    void rangeOfDirection() {
        OdometryDesk desk = new OdometryDesk();
        for (int value : new int[] {-1, 18000, 35999, MIN, MAX}) {
            due("direction " + value, desk.corridor(0, 0, 0, 0, value), BAD_VALUE);
        }
        due("the least", desk.corridor(0, 0, 0, 0, 0), 0);
        due("the greatest", desk.corridor(0, 0, 0, 0, 17999), 1);
    }

    @Sentence(promise = {3}, says = "Returns its number; BAD_VALUE if an argument is out of range;")
    void refusedCorridorsHaveNoNumber() {
        OdometryDesk desk = new OdometryDesk();
        due("the first one", desk.corridor(1, 1, 1, 1, 1), 0);
        due("a refused one", desk.corridor(1, 1, 1, 100001, 1), BAD_VALUE);
        due("the second one", desk.corridor(1, 1, 1, 1, 1), 1);
    }

    @Sentence(promise = {3}, says = "TOO_MANY if there are 8 corridors.")
    void tooManyCorridors() {
        OdometryDesk desk = new OdometryDesk();
        for (int number = 0; number < 8; number++) {
            due("corridor " + number, desk.corridor(0, 0, 0, 0, 0), number);
        }
        due("one more", desk.corridor(0, 0, 0, 0, 0), TOO_MANY);
        due("corridors", desk.count(9), 8);
        due("a wrong one more", desk.corridor(0, 0, 0, 0, 18000), BAD_VALUE);
    }

    // ---- 4: marker

    @Sentence(promise = {4}, says = "- `x`: -100000 to 100000")
    void rangeOfMarkersX() {
        OdometryDesk desk = new OdometryDesk();
        for (int value : FAR) {
            due("x is " + value, desk.marker(value, 0), BAD_VALUE);
        }
        due("the least", desk.marker(-100000, 0), 0);
        due("the greatest", desk.marker(100000, 0), 1);
    }

    @Sentence(promise = {4}, says = "- `y`: -100000 to 100000")
    void rangeOfMarkersY() {
        OdometryDesk desk = new OdometryDesk();
        for (int value : FAR) {
            due("y is " + value, desk.marker(0, value), BAD_VALUE);
        }
        due("the least", desk.marker(0, -100000), 0);
        due("the greatest", desk.marker(0, 100000), 1);
    }

    @Sentence(promise = {4}, says = "Returns its number; BAD_VALUE if an argument is out of range;")
    void refusedMarkersHaveNoNumber() {
        OdometryDesk desk = withMarkers(1);
        due("a refused one", desk.marker(100001, 100001), BAD_VALUE);
        due("the second one", desk.marker(1, 1), 1);
    }

    @Sentence(promise = {4}, says = "TOO_MANY if there are 6 markers.")
    void tooManyMarkers() {
        OdometryDesk desk = withMarkers(5);
        due("the last one", desk.marker(1, 1), 5);
        due("one more", desk.marker(1, 1), TOO_MANY);
        due("markers", desk.count(10), 6);
        due("a wrong one more", desk.marker(1, 100001), BAD_VALUE);
    }

    // ---- 5: closeCorridor

    @Sentence(promise = {5}, says = "Removes the last corridor.")
    void theLastCorridor() {
        OdometryDesk desk = withStep(1, 1, 0);
        desk.corridor(0, 0, 0, 0, 1);
        desk.corridor(0, 0, 0, 0, 2);
        due("the first one is left", desk.closeCorridor(), 1);
        due("it pulls", desk.about(0, 8), -30);
        due("the only one", desk.closeCorridor(), 0);
        due("nothing pulls", desk.about(0, 7), NONE - GONE);
    }

    @Sentence(promise = {5}, says = "Returns the number of corridors that are left; NOT_POSSIBLE if there is none.")
    void noCorridor() {
        OdometryDesk desk = new OdometryDesk();
        due("none at first", desk.closeCorridor(), NOT_POSSIBLE);
        due("and none then", desk.count(9), 0);
        for (int i = 0; i < 8; i++) {
            desk.corridor(0, 0, 0, 0, 0);
        }
        for (int left = 7; left >= 0; left--) {
            due(left + " are left", desk.closeCorridor(), left);
        }
        due("none again", desk.closeCorridor(), NOT_POSSIBLE);
        due("the next one's number", desk.corridor(0, 0, 0, 0, 0), 0);
    }

    // ---- 6: begin

    @Sentence(promise = {6}, says = "- `x`: -100000 to 100000")
    void rangeOfStartsX() {
        OdometryDesk desk = new OdometryDesk();
        for (int value : FARTHEST) {
            due("x is " + value, desk.begin(value, 0, 0), 0);
            due("it is there", desk.pose(-1, 0), 1000 * value);
        }
        for (int value : FAR) {
            due("x is " + value, desk.begin(value, 0, 0), BAD_VALUE);
        }
        due("it stays", desk.pose(-1, 0), 100000000);
    }

    @Sentence(promise = {6}, says = "- `y`: -100000 to 100000")
    void rangeOfStartsY() {
        OdometryDesk desk = new OdometryDesk();
        for (int value : FARTHEST) {
            due("y is " + value, desk.begin(0, value, 0), 0);
            due("it is there", desk.pose(-1, 1), 1000 * value);
        }
        for (int value : FAR) {
            due("y is " + value, desk.begin(0, value, 0), BAD_VALUE);
        }
        due("it stays", desk.pose(-1, 1), 100000000);
    }

    @Sentence(promise = {6}, says = "- `heading`: 0 to 3599999")
    void rangeOfStartsHeading() {
        OdometryDesk desk = new OdometryDesk();
        for (int value : new int[] {0, 3599999}) {
            due("the heading is " + value, desk.begin(0, 0, value), 0);
            due("it is so", desk.pose(-1, 2), value);
        }
        for (int value : new int[] {-1, 3600000, MIN, MAX}) {
            due("the heading is " + value, desk.begin(0, 0, value), BAD_VALUE);
        }
        due("it stays", desk.pose(-1, 2), 3599999);
    }

    @Sentence(promise = {6},
        says = "Returns the number of entries of the log; BAD_VALUE if an argument is out of range.")
    void refusedStarts() {
        OdometryDesk desk = withSteps(120);
        due("with a full log", desk.begin(1, 2, 3), 120);
        due("x is wrong", desk.begin(100001, 5, 6), BAD_VALUE);
        due("y is wrong", desk.begin(4, -100001, 6), BAD_VALUE);
        due("the heading is wrong", desk.begin(4, 5, 3600000), BAD_VALUE);
        due("x stays", desk.pose(-1, 0), 1000);
        due("y stays", desk.pose(-1, 1), 2000);
        due("the heading stays", desk.pose(-1, 2), 3);
        desk.cut(120);
        due("with an empty log", desk.begin(0, 0, 0), 0);
    }

    // ---- 7: step

    @Sentence(promise = {7}, says = "- `left`: -300 to 300")
    void rangeOfLeftTicks() {
        OdometryDesk desk = new OdometryDesk();
        due("the least", desk.step(-300, 0, 0), 1);
        due("the greatest", desk.step(300, 0, 0), 2);
        for (int value : new int[] {-301, 301, MIN, MAX}) {
            due("left is " + value, desk.step(value, 0, 0), BAD_VALUE);
        }
        due("the least is kept", desk.about(0, 1), -300);
        due("the greatest is kept", desk.about(1, 1), 300);
    }

    @Sentence(promise = {7}, says = "- `right`: -300 to 300")
    void rangeOfRightTicks() {
        OdometryDesk desk = new OdometryDesk();
        due("the least", desk.step(0, -300, 0), 1);
        due("the greatest", desk.step(0, 300, 0), 2);
        for (int value : new int[] {-301, 301, MIN, MAX}) {
            due("right is " + value, desk.step(0, value, 0), BAD_VALUE);
        }
        due("the least is kept", desk.about(0, 2), -300);
        due("the greatest is kept", desk.about(1, 2), 300);
    }

    @Sentence(promise = {7}, says = "- `turn`: -300000 to 300000")
    void rangeOfTurns() {
        OdometryDesk desk = new OdometryDesk();
        due("the least", desk.step(0, 0, -300000), 1);
        due("the greatest", desk.step(0, 0, 300000), 2);
        for (int value : new int[] {-300001, 300001, MIN, MAX}) {
            due("turn is " + value, desk.step(0, 0, value), BAD_VALUE);
        }
        due("the least is kept", desk.about(0, 3), -300000);
        due("the greatest is kept", desk.about(1, 3), 300000);
    }

    @Sentence(promise = {7}, says = "Returns the number of entries then; BAD_VALUE if an argument is out of range;")
    void refusedSteps() {
        OdometryDesk desk = new OdometryDesk();
        due("the first one", desk.step(1, 2, 3), 1);
        due("a refused one", desk.step(4, 5, 300001), BAD_VALUE);
        due("another refused one", desk.step(4, 301, 6), BAD_VALUE);
        due("the second one", desk.step(7, 8, 9), 2);
        due("it is the second one", desk.about(1, 1), 7);
    }

    @Sentence(promise = {7}, says = "TOO_MANY if there are 120.")
    void tooManySteps() {
        OdometryDesk desk = withSteps(119);
        due("the last one", desk.step(1, 2, 3), 120);
        due("one more", desk.step(4, 5, 6), TOO_MANY);
        due("a stand more", desk.step(0, 0, 0), TOO_MANY);
        due("a wrong one more", desk.step(4, 5, 300001), BAD_VALUE);
        due("the last one stays", desk.about(119, 1), 1);
        due("entries", desk.count(0), 120);
    }

    // ---- 8: see

    @Sentence(promise = {8}, says = "Returns the number of entries then; NO_SUCH if there is no such marker;")
    void noSuchMarker() {
        OdometryDesk desk = withMarkers(2);
        for (int value : new int[] {-1, 2, 5, 6, MIN, MAX}) {
            due("see(" + value + ")", desk.see(value), NO_SUCH);
        }
        due("the first marker", desk.see(0), 1);
        due("the last marker", desk.see(1), 2);
        due("no markers at all", new OdometryDesk().see(0), NO_SUCH);
    }

    @Sentence(promise = {8}, says = "TOO_MANY if there are 120.")
    void tooManySights() {
        OdometryDesk desk = farApart(119);
        due("the last one", desk.see(1), 120);
        due("one more", desk.see(0), TOO_MANY);
        due("a wrong one more", desk.see(2), NO_SUCH);
        due("the last one stays", desk.about(119, 1), 1);
    }

    // ---- 9: cut

    @Sentence(promise = {9}, says = "Removes the last entries.")
    void theLastEntries() {
        OdometryDesk desk = farApart(2);
        desk.step(1, 1, 0);
        desk.step(2, 2, 0);
        desk.step(3, 3, 0);
        due("the last one", desk.cut(1), 4);
        due("what is last then", desk.about(3, 1), 2);
        due("two", desk.cut(2), 2);
        due("what is last then", desk.about(1, 0), 4);
        due("what was cut is gone", desk.about(2, 0), NO_SUCH - GONE);
        due("a new one", desk.step(4, 4, 0), 3);
        due("it is where the first one was cut", desk.about(2, 1), 4);
    }

    @Sentence(promise = {9}, says = "- `many`: 1 or more")
    void oneOrMore() {
        due("one of many", withSteps(120).cut(1), 119);
        due("all but one", withSteps(120).cut(119), 1);
        due("all", withSteps(120).cut(120), 0);
        due("the only one", withSteps(1).cut(1), 0);
    }

    @Sentence(promise = {9}, says = "BAD_VALUE if many is less than 1, or there are not so many.")
    void notSoMany() {
        OdometryDesk desk = withSteps(3);
        for (int value : new int[] {0, -1, MIN, 4, 120, MAX}) {
            due("cut(" + value + ")", desk.cut(value), BAD_VALUE);
        }
        due("nothing was cut", desk.count(0), 3);
        due("just so many", desk.cut(3), 0);
        due("one of none", desk.cut(1), BAD_VALUE);
        due("none of none", desk.cut(0), BAD_VALUE);
        due("more than can be", withSteps(120).cut(121), BAD_VALUE);
    }

    // ---- 10: pose

    @Sentence(promise = {10}, says = "- `entry`: the entry, or -1 for the start")
    void startAndEntries() {
        OdometryDesk desk = withSteps(120);
        desk.begin(7, 0, 0);
        due("the start", desk.pose(-1, 0), 7000);
        due("the first entry", desk.pose(0, 0), 12000);
        due("the last entry", desk.pose(119, 0), 607000);
        due("the start of an empty log", new OdometryDesk().pose(-1, 0), 0);
    }

    @Sentence(promise = {10},
        says = "- `what`: 0 x, 1 y, 2 the heading, 3 the way, 4 the bias, 5 the spread x, 6 the spread y (at the start: x and "
            + "y)")
    void poseOfEach() {
        OdometryDesk desk = withStep(0, 0, 1);
        desk.set(OdometryDesk.TRUST, 100);
        desk.begin(0, 3, 0);
        desk.step(2, 2, 0);
        desk.step(2, 2, 0);
        desk.marker(4, 7);
        desk.see(0);
        // Errors of -2000 and -4000, half of which are spread.
        int[] poses = {1000, 3000, 0, 1000, 2, 2000, 5000};
        int[] starts = {0, 3000, 0, 0, 0, 0, 3000};
        for (int what = 0; what < 7; what++) {
            due("pose(1, " + what + ")", desk.pose(1, what), poses[what]);
            due("pose(-1, " + what + ")", desk.pose(-1, what), starts[what]);
        }
        desk.set(OdometryDesk.PULL, 50);
        desk.corridor(0, 0, 0, 0, 100);
        due("the heading", desk.pose(1, 2), 5000);
        desk.begin(6, 8, 0);
        desk.cut(4);
        desk.step(2, 2, 0);
        desk.see(0);
        due("no error is spread to the start: x", desk.pose(-1, 5), 6000);
        due("no error is spread to the start: y", desk.pose(-1, 6), 8000);
    }

    @Sentence(promise = {10}, says = "Returns the number; NO_SUCH minus GONE if there is no such entry;")
    void poseOfNoEntry() {
        OdometryDesk desk = withSteps(2);
        for (int entry : new int[] {-2, 2, 3, 119, 120, MIN, MAX}) {
            due("pose(" + entry + ", 0)", desk.pose(entry, 0), NO_SUCH - GONE);
            due("pose(" + entry + ", 6)", desk.pose(entry, 6), NO_SUCH - GONE);
        }
        due("beyond a full log", withSteps(120).pose(120, 0), NO_SUCH - GONE);
        due("of an empty log", new OdometryDesk().pose(0, 0), NO_SUCH - GONE);
    }

    @Sentence(promise = {10}, says = "BAD_VALUE minus GONE if what is out of range.")
    void poseOfNothing() {
        OdometryDesk desk = withSteps(2);
        for (int what : new int[] {-1, 7, MIN, MAX}) {
            due("pose(1, " + what + ")", desk.pose(1, what), BAD_VALUE - GONE);
            due("pose(-1, " + what + ")", desk.pose(-1, what), BAD_VALUE - GONE);
        }
    }

    // ---- 11: about

    /** A stand, a step that no corridor pulls, a sight, steps whose left and right wheels slip, a step that is pulled. */
    private static OdometryDesk allKinds() {
        OdometryDesk desk = withStep(0, 0, 5);
        desk.marker(50, 3);
        desk.corridor(2000, 0, 2000, 0, 0);
        desk.step(100, 102, 1900);
        desk.see(0);
        desk.step(1, 2, 30000);
        desk.step(3, 4, -30000);
        desk.begin(0, 0, 1000);
        desk.step(300, 300, 0);
        desk.set(OdometryDesk.REACH, 1820);
        return desk;
    }

    @Sentence(promise = {11},
        says = "- `what`: 0 its kind (0 a stand, 1 a step without slip, 2 a step whose left wheel slips, 3 one whose right "
            + "wheel slips, 4 a sight), 1 the left ticks or the marker, 2 the right ticks, 3 the turn that was measured,")
    void aboutWhatWasGiven() {
        OdometryDesk desk = allKinds();
        int none = NONE - GONE;
        int[][] given = {{0, 0, 0, 5}, {1, 100, 102, 1900}, {4, 0, none, none}, {2, 1, 2, 30000}, {3, 3, 4, -30000},
            {1, 300, 300, 0}};
        for (int entry = 0; entry < 6; entry++) {
            for (int what = 0; what < 4; what++) {
                due("about(" + entry + ", " + what + ")", desk.about(entry, what), given[entry][what]);
            }
        }
        desk.marker(0, 0);
        desk.see(1);
        due("another marker", desk.about(6, 1), 1);
    }

    @Sentence(promise = {11},
        says = "4 the turn by the wheels (w), 5 the turn that was taken, 6 the distance d, 7 the corridor that pulled, 8 by "
            + "how much it pulled (e * PULL / 100), 9 the error of a sight in x, 10 that in y")
    void aboutWhatWasFound() {
        OdometryDesk desk = allKinds();
        // Of the stand's 16 * 5 / 8 = 10 sixteenths nothing is taken off.
        due("the turn by the wheels", desk.about(1, 4), 1909);
        due("the turn that was taken", desk.about(1, 5), 1904);
        due("the distance", desk.about(1, 6), 50500);
        // The angle is 1952 / 100: its cosine is 999994, its sine 3377.
        due("the error in x", desk.about(2, 9), 50499 - 50000);
        due("the error in y", desk.about(2, 10), 170 - 3000);
        due("the corridor", desk.about(5, 7), 0);
        // The heading is 1000 + 1904 + 30000 - 30000.
        due("by how much it pulled", desk.about(5, 8), 871);
        due("the turn that was taken is without it", desk.about(5, 5), 0);
        due("the heading then", desk.pose(5, 2), 2904 - 871);
    }

    @Sentence(promise = {11}, says = "Returns the number; NO_SUCH minus GONE if there is no such entry;")
    void aboutNoEntry() {
        OdometryDesk desk = withSteps(2);
        for (int entry : new int[] {-1, -2, 2, 3, 119, 120, MIN, MAX}) {
            due("about(" + entry + ", 0)", desk.about(entry, 0), NO_SUCH - GONE);
            due("about(" + entry + ", 7)", desk.about(entry, 7), NO_SUCH - GONE);
        }
        due("beyond a full log", withSteps(120).about(120, 0), NO_SUCH - GONE);
        due("the last one of a full log", withSteps(120).about(119, 1), 10);
        due("of an empty log", new OdometryDesk().about(0, 0), NO_SUCH - GONE);
    }

    @Sentence(promise = {11}, says = "BAD_VALUE minus GONE if what is out of range;")
    void aboutNothing() {
        OdometryDesk desk = withSteps(2);
        for (int what : new int[] {-1, 11, MIN, MAX}) {
            due("about(1, " + what + ")", desk.about(1, what), BAD_VALUE - GONE);
        }
    }

    private void none(int entry, int from, int to) {
        for (int what = from; what <= to; what++) {
            due("about(" + entry + ", " + what + ")", allKinds().about(entry, what), NONE - GONE);
        }
    }

    private void some(int entry, int... whats) {
        for (int what : whats) {
            check.holds("there is about(" + entry + ", " + what + ")", allKinds().about(entry, what) != NONE - GONE);
        }
    }

    @Sentence(promise = {11}, says = "NONE minus GONE if there is no such number (2 to 8 of a sight;")
    void noneOfASight() {
        none(2, 2, 8);
        some(2, 0, 1, 9, 10);
    }

    @Sentence(promise = {11}, says = "4 to 8 of a stand;")
    void noneOfAStand() {
        none(0, 4, 8);
        some(0, 0, 1, 2, 3);
    }

    @Sentence(promise = {11}, says = "7 and 8 of a step that no corridor pulled;")
    void noneOfAStepWithoutAPull() {
        for (int entry : new int[] {1, 3, 4}) {
            none(entry, 7, 8);
            some(entry, 4, 5, 6);
        }
        some(5, 7, 8);
    }

    @Sentence(promise = {11}, says = "9 and 10 of what is no sight).")
    void noneOfNoSight() {
        for (int entry : new int[] {0, 1, 3, 4, 5}) {
            none(entry, 9, 10);
        }
        some(2, 9, 10);
    }

    // ---- 12: count

    @Sentence(promise = {12},
        says = "- `what`: 0 entries, 1 stands, 2 steps without slip, 3 steps whose left wheel slips, 4 those whose right wheel "
            + "slips, 5 sights, 6 steps that a corridor pulled,")
    void countsOfTheLog() {
        OdometryDesk desk = allKinds();
        int[] counts = {6, 1, 2, 1, 1, 1, 1};
        for (int what = 0; what < 7; what++) {
            due("count(" + what + ")", desk.count(what), counts[what]);
        }
        due("a full log", withSteps(120).count(0), 120);
        due("a full log: steps", withSteps(120).count(2), 120);
        due("a full log: sights", farApart(120).count(5), 120);
        due("an empty log", new OdometryDesk().count(0), 0);
    }

    @Sentence(promise = {12},
        says = "7 the sum of the errors: of the absolute values of the errors of all sights in x and y (at most 2000000000 is "
            + "told, here and by ifSet()),")
    void theSumIsCut() {
        OdometryDesk desk = farApart(5);
        desk.begin(100000, 100000, 0);
        due("just 2000000000", desk.count(7), 2000000000);
        desk.begin(99999, 100000, 0);
        due("1000 less", desk.count(7), 1999999000);
        desk.cut(5);
        desk.step(9, 9, 0);
        desk.set(OdometryDesk.LEFT, 111);
        desk.set(OdometryDesk.RIGHT, 111);
        for (int i = 0; i < 5; i++) {
            desk.see(i % 2);
        }
        due("1 less", desk.count(7), 1999999999);
        due("1 less, here, too", desk.ifSet(OdometryDesk.RIGHT, 111, 4), 1999999999);
        due("if it were more", desk.ifSet(OdometryDesk.RIGHT, 112, 4), 2000000000);
        desk.begin(100000, 100000, 0);
        due("999 more", desk.count(7), 2000000000);
        due("999 more, here, too", desk.ifSet(OdometryDesk.RIGHT, 111, 4), 2000000000);
        due("as much as can be", farApart(120).count(7), 2000000000);
        due("as much as can be, here, too", farApart(120).ifSet(0, 100, 4), 2000000000);
    }

    @Sentence(promise = {12},
        says = "8 the way, 9 corridors, 10 markers, 11 the length of the pad, 12 to 20 the settings")
    void otherCounts() {
        OdometryDesk desk = withMarkers(6);
        due("no way", desk.count(8), 0);
        due("no corridors", desk.count(9), 0);
        due("as many markers as can be", desk.count(10), 6);
        due("nothing on the pad", desk.count(11), 0);
        for (int i = 0; i < 8; i++) {
            desk.corridor(i, i, i, i, i);
        }
        write(desk, "x".repeat(100));
        due("as many corridors as can be", desk.count(9), 8);
        due("as much on the pad as can be", desk.count(11), 100);
        for (int setting = 0; setting < 9; setting++) {
            due("the first value of " + setting, desk.count(12 + setting), FIRST[setting]);
            desk.set(setting, HIGHEST[setting]);
            due("the greatest value of " + setting, desk.count(12 + setting), HIGHEST[setting]);
        }
        desk = new OdometryDesk();
        desk.set(OdometryDesk.LEFT, 2000);
        desk.set(OdometryDesk.RIGHT, 2000);
        for (int i = 0; i < 120; i++) {
            desk.step(300, 300, 0);
        }
        due("a long way", desk.count(8), 72000000);
    }

    @Sentence(promise = {12}, says = "Returns the number; BAD_VALUE if what is out of range.")
    void countOfNothing() {
        for (int what : new int[] {-1, 21, 22, MIN, MAX}) {
            due("count(" + what + ")", new OdometryDesk().count(what), BAD_VALUE);
        }
    }

    // ---- 13: wave

    @Sentence(promise = {13}, says = "- `angle`: 0 to 35999")
    void rangeOfAngles() {
        OdometryDesk desk = new OdometryDesk();
        due("the sine of the least", desk.wave(0, 0), 0);
        due("the cosine of the least", desk.wave(0, 1), 1000000);
        due("the sine of the greatest", desk.wave(35999, 0), -177);
        due("the cosine of the greatest", desk.wave(35999, 1), 999999);
    }

    @Sentence(promise = {13}, says = "- `which`: 0 the sine, 1 the cosine")
    void sineAndCosine() {
        OdometryDesk desk = new OdometryDesk();
        due("the sine", desk.wave(3000, 0), 500000);
        due("the cosine", desk.wave(6000, 1), 500000);
        due("no third one", desk.wave(3000, 2), BAD_VALUE - GONE);
    }

    @Sentence(promise = {13}, says = "Returns the number; BAD_VALUE minus GONE if an argument is out of range.")
    void noWave() {
        OdometryDesk desk = new OdometryDesk();
        for (int angle : new int[] {-1, 36000, MIN, MAX}) {
            due("wave(" + angle + ", 0)", desk.wave(angle, 0), BAD_VALUE - GONE);
            due("wave(" + angle + ", 1)", desk.wave(angle, 1), BAD_VALUE - GONE);
        }
        for (int which : new int[] {-1, 2, MIN, MAX}) {
            due("wave(0, " + which + ")", desk.wave(0, which), BAD_VALUE - GONE);
        }
    }

    // ---- 14: ifSet

    @Sentence(promise = {14}, says = "Tells what there would be behind the whole log if a setting had another value.")
    void behindTheWholeLog() {
        OdometryDesk desk = new OdometryDesk();
        desk.begin(5, -7, 3599999);
        due("an empty log: x", desk.ifSet(OdometryDesk.LEFT, 100, 0), 5000);
        due("an empty log: y", desk.ifSet(OdometryDesk.LEFT, 100, 1), -7000);
        due("an empty log: the heading", desk.ifSet(OdometryDesk.LEFT, 100, 2), 3599999);
        due("an empty log: steps with slip", desk.ifSet(OdometryDesk.LEFT, 100, 3), 0);
        due("an empty log: errors", desk.ifSet(OdometryDesk.LEFT, 100, 4), 0);
        desk = withSteps(119);
        desk.step(300, 300, 0);
        due("behind the last one of a full log", desk.ifSet(OdometryDesk.LEFT, 500, 0), 119 * 5000 + 150000);
        due("the value that it has", desk.ifSet(OdometryDesk.TRUST, 50, 0), 745000);
    }

    @Sentence(promise = {14}, under = "Texts", says = "---- what if; nothing changes.")
    void ifSetChangesNothing() {
        OdometryDesk desk = furnished();
        String before = allOf(desk);
        for (int setting = 0; setting < 9; setting++) {
            desk.ifSet(setting, LOWEST[setting], 4);
            desk.ifSet(setting, HIGHEST[setting], 0);
        }
        check.holds("ifSet changes nothing", allOf(desk).equals(before));
    }

    @Sentence(promise = {15, 16}, under = "Texts", says = "---- what if; nothing changes.")
    void fittingChangesNothing() {
        OdometryDesk desk = furnished();
        String before = allOf(desk);
        desk.bestBase();
        check.holds("bestBase changes nothing", allOf(desk).equals(before));
        desk.bestTrust();
        check.holds("bestTrust changes nothing", allOf(desk).equals(before));
    }

    @Sentence(promise = {14},
        says = "- `what`: 0 x, 1 y, 2 the heading, 3 the number of steps with slip, 4 the sum of the errors")
    void ifSetOfEach() {
        OdometryDesk desk = allKinds();
        desk.cut(1);
        desk.set(OdometryDesk.TRUST, 0);
        OdometryDesk set = allKinds();
        set.cut(1);
        set.set(OdometryDesk.TRUST, 100);
        due("x", desk.ifSet(OdometryDesk.TRUST, 100, 0), set.pose(4, 0));
        due("y", desk.ifSet(OdometryDesk.TRUST, 100, 1), set.pose(4, 1));
        due("the heading", desk.ifSet(OdometryDesk.TRUST, 100, 2), 2909);
        due("steps with slip, of both wheels", desk.ifSet(OdometryDesk.TRUST, 100, 3), 2);
        due("the sum of the errors", desk.ifSet(OdometryDesk.TRUST, 100, 4), set.count(7));
    }

    @Sentence(promise = {14}, says = "Returns the number; BAD_VALUE minus GONE if there is no such setting,")
    void ifThereWereNoSuchSetting() {
        for (int setting : new int[] {-1, 9, MIN, MAX}) {
            due("ifSet(" + setting + ", 100, 0)", new OdometryDesk().ifSet(setting, 100, 0), BAD_VALUE - GONE);
        }
    }

    @Sentence(promise = {14}, says = "the value is out of its range,")
    void ifTheValueWereOutOfRange() {
        OdometryDesk desk = new OdometryDesk();
        for (int setting = 0; setting < 9; setting++) {
            String name = "ifSet(" + setting + ", ";
            for (int value : new int[] {LOWEST[setting] - 1, HIGHEST[setting] + 1, MIN, MAX}) {
                due(name + value + ", 0)", desk.ifSet(setting, value, 0), BAD_VALUE - GONE);
            }
            due(name + "least, 0)", desk.ifSet(setting, LOWEST[setting], 0), 0);
            due(name + "greatest, 0)", desk.ifSet(setting, HIGHEST[setting], 0), 0);
        }
    }

    @Sentence(promise = {14}, says = "or what is out of range.")
    void ifWhatIsOutOfRange() {
        for (int what : new int[] {-1, 5, MIN, MAX}) {
            due("ifSet(0, 100, " + what + ")", new OdometryDesk().ifSet(0, 100, what), BAD_VALUE - GONE);
        }
    }

    // ---- 15: bestBase

    /** Ticks of 100 and 200 and a marker: straight on, the greater base is the better one, else the lesser one. */
    private static OdometryDesk bent(int base, boolean isStraightOn) {
        OdometryDesk desk = withStep(100, 200, 95000);
        desk.set(OdometryDesk.SLIP, 200000);
        desk.set(OdometryDesk.TRUST, 100);
        desk.set(OdometryDesk.BASE, base);
        desk.marker(isStraightOn ? 75 : 0, isStraightOn ? 0 : 75);
        desk.see(0);
        return desk;
    }

    @Sentence(promise = {15}, says = "Finds the base, from BASE - 20 to BASE + 20")
    void twentyOff() {
        OdometryDesk desk = bent(300, true);
        check.holds("321 would be better", desk.ifSet(OdometryDesk.BASE, 321, 4) < desk.ifSet(OdometryDesk.BASE, 320, 4));
        due("but 320 is the greatest", desk.bestBase(), 320);
        desk = bent(300, false);
        check.holds("279 would be better", desk.ifSet(OdometryDesk.BASE, 279, 4) < desk.ifSet(OdometryDesk.BASE, 280, 4));
        due("but 280 is the least", desk.bestBase(), 280);
    }

    @Sentence(promise = {15}, says = "(as far as these are in its range)")
    void endsOfTheBasesRange() {
        for (int base : new int[] {100, 101, 119, 120}) {
            due("from " + base + " down", bent(base, false).bestBase(), 100);
        }
        due("from 121 down", bent(121, false).bestBase(), 101);
        due("from 100 up", bent(100, true).bestBase(), 120);
        for (int base : new int[] {1000, 999, 981, 980}) {
            OdometryDesk desk = bent(base, true);
            desk.set(OdometryDesk.RIGHT, 2000);
            desk.cut(2);
            desk.step(0, 300, 200000);
            desk.marker(300, 0);
            desk.see(1);
            due("from " + base + " up", desk.bestBase(), 1000);
            desk.set(OdometryDesk.BASE, 979);
            check.holds("from 979 up", desk.bestBase() < 1000);
        }
    }

    @Sentence(promise = {15}, says = "with which the sum of the errors (not cut at 2000000000) is least.")
    void theUncutSumForTheBase() {
        OdometryDesk desk = farApart(120);
        desk.cut(2);
        desk.set(OdometryDesk.SLIP, 200000);
        desk.set(OdometryDesk.TRUST, 100);
        desk.step(100, 200, 95000);
        desk.see(1);
        due("it is cut where it is told", desk.count(7), 2000000000);
        // Ahead of it is the marker that is seen: the sum of x and y is least if it is bent least.
        due("not where it is compared", desk.bestBase(), 320);
        desk.begin(100000, 100000, 1800000);
        due("in the other direction", desk.bestBase(), 320);
    }

    @Sentence(promise = {15},
        says = "Returns the base; of several, the one that is nearest to BASE, of two such ones the lesser one;")
    void theNearestBase() {
        OdometryDesk desk = withStep(0, 0, 0);
        desk.marker(1, 1);
        desk.see(0);
        for (int base : new int[] {100, 300, 1000}) {
            desk.set(OdometryDesk.BASE, base);
            due("all are the same: " + base, desk.bestBase(), base);
        }
        desk = withStep(100, 110, 19000);
        desk.marker(0, 0);
        desk.see(0);
        desk.set(OdometryDesk.TRUST, 100);
        // Half of w is 44 hundredths of a degree for a base of 319 and of 320.
        due("the nearer one, above", desk.bestBase(), 319);
        desk.marker(0, 53);
        desk.cut(1);
        desk.see(1);
        desk.set(OdometryDesk.BASE, 301);
        // Half of w is 50 hundredths of a degree for a base of 281 to 286.
        due("the nearer one, below", desk.bestBase(), 286);
    }

    @Sentence(promise = {15}, says = "of two such ones the lesser one;")
    void theLesserOfTwoBases() {
        OdometryDesk desk = withStep(-102, 21, 117465);
        desk.set(OdometryDesk.TRUST, 100);
        desk.set(OdometryDesk.SLIP, 200000);
        desk.set(OdometryDesk.BASE, 401);
        desk.marker(49, 16);
        desk.begin(0, 0, 2202000);
        desk.see(0);
        due("the errors of the lesser one", desk.ifSet(OdometryDesk.BASE, 400, 4), 36413);
        due("the errors between them", desk.ifSet(OdometryDesk.BASE, 401, 4), 36414);
        due("the errors of the greater one", desk.ifSet(OdometryDesk.BASE, 402, 4), 36413);
        due("the lesser one", desk.bestBase(), 400);
    }

    @Sentence(promise = {15}, says = "NONE if there are no sights.")
    void noSightsForTheBase() {
        due("an empty log", new OdometryDesk().bestBase(), NONE);
        due("steps alone", withSteps(120).bestBase(), NONE);
        OdometryDesk desk = farApart(1);
        due("one sight", desk.bestBase(), 300);
        desk.cut(1);
        due("none any more", desk.bestBase(), NONE);
        due("a marker is no sight", withMarkers(6).bestBase(), NONE);
    }

    // ---- 16: bestTrust

    @Sentence(promise = {16}, says = "Finds the trust, of 0, 10, 20 and so on to 100,")
    void tens() {
        OdometryDesk desk = withStep(300, 300, 20000);
        desk.marker(150, 1);
        desk.see(0);
        check.holds("62 would be better", desk.ifSet(OdometryDesk.TRUST, 62, 4) < desk.ifSet(OdometryDesk.TRUST, 60, 4));
        due("but 60 is a ten", desk.bestTrust(), 60);
        desk.set(OdometryDesk.TRUST, 62);
        due("also if 62 is set", desk.bestTrust(), 60);
        desk = withStep(300, 300, 20000);
        desk.marker(150, 0);
        desk.see(0);
        due("the greatest", desk.bestTrust(), 100);
        desk.marker(0, 150);
        desk.cut(1);
        desk.see(1);
        due("the least", desk.bestTrust(), 0);
    }

    private void aroundZero(int turn, int markerX, int markerY, int wheel, int want) {
        OdometryDesk desk = withStep(300, 300, turn);
        desk.set(OdometryDesk.LEFT, wheel);
        desk.set(OdometryDesk.RIGHT, wheel);
        desk.marker(markerX, markerY);
        desk.see(0);
        boolean isTenBetter = desk.ifSet(OdometryDesk.TRUST, 10, 4) < desk.ifSet(OdometryDesk.TRUST, 0, 4);
        due("0 or 10: the lesser error", isTenBetter ? 10 : 0, want);
        due("0 or 10", desk.bestTrust(), want);
    }

    @Sentence(promise = {16}, says = "Finds the trust, of 0, 10, 20 and so on to 100,")
    void zeroAndTen() {
        // The trust of 1 would be better than both.
        aroundZero(4000, 600, 2, 2000, 10);
        aroundZero(6000, 600, 3, 2000, 10);
        // Of 119 and 121, 0 has the lesser one; the angle of a trust of -1 would be another one already.
        aroundZero(15882, 150, 2, 500, 0);
    }

    @Sentence(promise = {16}, says = "with which the sum of the errors (not cut at 2000000000) is least.")
    void theUncutSumForTheTrust() {
        OdometryDesk desk = farApart(120);
        desk.cut(2);
        desk.step(300, 300, 20000);
        desk.see(1);
        due("it is cut where it is told", desk.count(7), 2000000000);
        due("not where it is compared", desk.bestTrust(), 100);
    }

    @Sentence(promise = {16}, says = "Returns the trust, of several the least one;")
    void theLeastTrust() {
        OdometryDesk desk = withStep(0, 0, 0);
        desk.marker(1, 1);
        desk.see(0);
        due("all are the same", desk.bestTrust(), 0);
        desk = withStep(100, 100, -500);
        desk.marker(0, 0);
        desk.see(0);
        desk.begin(0, 0, 100);
        // Half of the turn is -250 to 0: with a trust of 60 to 90 the angle is 0, and the error in y, too.
        due("of 60 to 90", desk.bestTrust(), 60);
    }

    @Sentence(promise = {16}, says = "NONE if there are no sights.")
    void noSightsForTheTrust() {
        due("an empty log", new OdometryDesk().bestTrust(), NONE);
        due("steps alone", withSteps(120).bestTrust(), NONE);
        OdometryDesk desk = farApart(1);
        due("one sight", desk.bestTrust(), 0);
        desk.cut(1);
        due("none any more", desk.bestTrust(), NONE);
        due("a marker is no sight", withMarkers(6).bestTrust(), NONE);
    }

    // ---- 21: save

    @Sentence(promise = {21},
        says = "Saves everything except the pad and the slots in a slot, and overwrites what was saved there.")
    void everythingIsSaved() {
        OdometryDesk desk = furnished();
        String before = allOf(desk);
        write(desk, "m1");
        desk.save(0);
        for (int setting = 0; setting < 9; setting++) {
            desk.set(setting, LOWEST[setting]);
        }
        desk.closeCorridor();
        desk.closeCorridor();
        desk.corridor(9, 9, 9, 9, 9);
        desk.marker(1, 1);
        desk.begin(7, 7, 7);
        desk.cut(3);
        desk.see(2);
        desk.wipe();
        desk.restore(0);
        check.holds("all of it is as it was", allOf(desk).equals(before));
        due("but for the pad", desk.count(11), 0);
        due("and slot 1", desk.restore(1), NOT_POSSIBLE);
        write(desk, "m0;m1");
        desk.restore(0);
        due("the pad of now stays", desk.count(11), 5);
        due("with its text", desk.fault(), NONE);
    }

    @Sentence(promise = {21, 22}, says = "Saves everything except the pad and the slots in a slot,")
    void mapsAreSaved() {
        OdometryDesk desk = withMarkers(1);
        desk.step(1, 1, 0);
        desk.save(0);
        desk.marker(3, 4);
        desk.corridor(0, 0, 0, 0, 100);
        desk.see(1);
        desk.save(1);
        desk.restore(0);
        due("the map is empty again: corridors", desk.count(9), 0);
        due("the map is empty again: markers", desk.count(10), 1);
        due("another marker", desk.marker(5, 6), 1);
        due("another corridor", desk.corridor(500, 500, 500, 500, 50), 0);
        desk.restore(1);
        due("the first marker's x", desk.pose(1, 0), 3000);
        due("the first marker's y", desk.pose(1, 1), 4000);
        due("the first corridor", desk.about(0, 8), -3000);
    }

    @Sentence(promise = {21}, says = "and overwrites what was saved there.")
    void overwritten() {
        OdometryDesk desk = withSteps(120);
        desk.save(0);
        desk.save(1);
        desk.cut(119);
        due("less than there was", desk.save(0), 1);
        desk.cut(1);
        due("nothing at all", desk.save(1), 0);
        due("the one", desk.restore(0), 1);
        due("the other, which is empty", desk.restore(1), 0);
        due("the log is empty then", desk.count(0), 0);
    }

    @Sentence(promise = {21}, says = "- `slot`: 0 or 1")
    void twoSlotsToSaveIn() {
        OdometryDesk desk = withSteps(1);
        due("slot 0", desk.save(0), 1);
        desk.step(1, 1, 0);
        due("slot 1", desk.save(1), 2);
        due("each has its own: 0", desk.restore(0), 1);
        due("each has its own: 1", desk.restore(1), 2);
    }

    @Sentence(promise = {21}, says = "Returns the number of entries; BAD_VALUE if there is no such slot.")
    void noSuchSlotToSaveIn() {
        OdometryDesk desk = withSteps(120);
        for (int slot : new int[] {-1, 2, MIN, MAX}) {
            due("save(" + slot + ")", desk.save(slot), BAD_VALUE);
        }
        due("nothing was saved in 0", desk.restore(0), NOT_POSSIBLE);
        due("nothing was saved in 1", desk.restore(1), NOT_POSSIBLE);
        due("a full log", desk.save(0), 120);
        due("an empty log", new OdometryDesk().save(1), 0);
    }

    // ---- 22: restore

    @Sentence(promise = {22}, says = "Restores what was saved last in a slot, which keeps it.")
    void theSlotKeepsIt() {
        OdometryDesk desk = withSteps(3);
        desk.save(0);
        desk.cut(1);
        desk.save(0);
        for (int time = 1; time <= 3; time++) {
            due("what was saved last, time " + time, desk.restore(0), 2);
            desk.cut(2);
            desk.set(OdometryDesk.LEFT, 100 + time);
            desk.step(time, time, 0);
        }
        desk.restore(0);
        due("its log", desk.about(0, 1), 10);
        due("its settings", desk.count(12), 500);
    }

    @Sentence(promise = {22}, says = "- `slot`: 0 or 1")
    void twoSlotsToRestore() {
        OdometryDesk desk = withSteps(1);
        desk.save(1);
        desk.step(1, 1, 0);
        desk.save(0);
        due("slot 1", desk.restore(1), 1);
        due("slot 0", desk.restore(0), 2);
        due("slot 2", desk.restore(2), BAD_VALUE);
    }

    @Sentence(promise = {22}, says = "Returns the number of entries; BAD_VALUE if there is no such slot;")
    void noSuchSlotToRestore() {
        OdometryDesk desk = withSteps(120);
        desk.save(0);
        desk.save(1);
        desk.cut(1);
        for (int slot : new int[] {-1, 2, MIN, MAX}) {
            due("restore(" + slot + ")", desk.restore(slot), BAD_VALUE);
        }
        due("the log stays", desk.count(0), 119);
        due("a full log", desk.restore(1), 120);
    }

    @Sentence(promise = {22}, says = "NOT_POSSIBLE if nothing was saved in it.")
    void nothingWasSaved() {
        OdometryDesk desk = withSteps(2);
        due("neither in 0", desk.restore(0), NOT_POSSIBLE);
        due("nor in 1", desk.restore(1), NOT_POSSIBLE);
        desk.save(1);
        due("still not in 0", desk.restore(0), NOT_POSSIBLE);
        due("but in 1", desk.restore(1), 2);
        due("still not in 0, then", desk.restore(0), NOT_POSSIBLE);
        due("the log stays", desk.count(0), 2);
        OdometryDesk other = withSteps(1);
        other.save(0);
        due("also not behind another save", other.restore(1), NOT_POSSIBLE);
    }
}
