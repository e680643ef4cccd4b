/** What the terms and promises 17 to 20 say of boundaries of texts. */
final class TextEdges extends Desks {
    private static final String TEXTS = "Texts";

    /** Each text has a sign | at its fault, or none. */
    private void faults(String... marked) {
        for (String text : marked) {
            String plain = text.replace("|", "");
            due("the fault of " + text, withText(plain).fault(), text.indexOf('|') < 0 ? NONE : text.indexOf('|'));
        }
    }

    /** What was loaded from a text, on a desk with 6 markers. */
    private static OdometryDesk loaded(String text) {
        OdometryDesk desk = withMarkers(6);
        write(desk, text);
        desk.load();
        return desk;
    }

    // ---- the terms

    @Sentence(promise = {17, 19, 20}, under = TEXTS, says = "The pad is a text of at most 100 characters")
    void hundredCharacters() {
        String text = "0,0,100" + ";m0".repeat(31);
        OdometryDesk desk = withMarkers(1);
        write(desk, text.substring(0, 99));
        due("one is missing", desk.fault(), 99);
        due("the hundredth", desk.put('0'), 100);
        due("all of it is read", desk.fault(), NONE);
        due("one too many", desk.put('0'), TOO_MANY);
        due("all of it is loaded", desk.load(), 32);
        due("the last one", desk.about(31, 0), 4);
        faults("m0;".repeat(33) + "|", "m0;".repeat(33) + "m|", "m0;".repeat(33) + "|x", "m0;".repeat(32) + "0,0,|",
            "100,100,100" + ";0,0,0".repeat(14) + ";m0");
    }

    @Sentence(promise = {19, 20}, under = TEXTS, says = "entries = entry { \";\" entry }")
    void entries() {
        faults("m0", "m0;m0", "m0;|", "|;m0", "m0;|;m0", "m0|,m0", "m0|m0", "1,2,3;4,5,6;m0", "1,2,3|m0", "m0|1,2,3");
        due("one", loaded("m0").count(0), 1);
        due("two", loaded("m0;1,2,3").count(0), 2);
    }

    @Sentence(promise = {19, 20}, under = TEXTS, says = "entry = integer \",\" integer \",\" integer | \"m\" number")
    void entry() {
        faults("1,2,3", "1,2|", "1,2,3|,4", "1|;2", "1,2|;3", "1,2,|;", "|,1,2", "1,|,2", "1,2,|,3", "m5", "m|,", "m|;",
            "m|-5", "m|m", "|M5", "1,|m5", "|x", "1|.5", "|!", "|~");
        OdometryDesk desk = loaded("1,2,3;m5");
        due("the left ticks", desk.about(0, 1), 1);
        due("the right ticks", desk.about(0, 2), 2);
        due("the turn", desk.about(0, 3), 3);
        due("the marker", desk.about(1, 1), 5);
    }

    @Sentence(promise = {19, 20}, under = TEXTS, says = "integer = [ \"-\" ] number")
    void integer() {
        faults("-1,-2,-3", "-|-1,2,3", "-|,2,3", "-|;", "|+1,2,3", "1|-,2,3", "1,-|,3", "1,2,-|", "1,2,3|-");
        OdometryDesk desk = loaded("-1,-2,-3");
        due("the left ticks", desk.about(0, 1), -1);
        due("the right ticks", desk.about(0, 2), -2);
        due("the turn", desk.about(0, 3), -3);
    }

    @Sentence(promise = {19, 20}, under = TEXTS,
        says = "for a step (left ticks, right ticks, turn; -300 to 300, -300 to 300, -300000 to 300000)")
    void rangesOfSteps() {
        faults("300,300,300000", "-300,-300,-300000", "30|1,0,0", "-30|1,0,0", "0,30|1,0", "0,-30|1,0", "0,0,30000|1",
            "0,0,-30000|1", "31|0,0,0", "0,40|0,0", "0,0,31000|0", "0,0,299999", "299,-299,0");
        OdometryDesk desk = loaded("300,-300,300000;-300,300,-300000");
        int[][] steps = {{300, -300, 300000}, {-300, 300, -300000}};
        for (int what = 1; what <= 3; what++) {
            due("the greatest: " + what, desk.about(0, what), steps[0][what - 1]);
            due("the least: " + what, desk.about(1, what), steps[1][what - 1]);
        }
    }

    @Sentence(promise = {19, 20}, under = TEXTS, says = "or the sight of a marker (0 to 5).")
    void rangeOfSights() {
        faults("m0", "m5", "m|6", "m|9", "m5|0", "m0|0", "m1|0");
        due("the first marker", loaded("m0").about(0, 1), 0);
        due("the last marker", loaded("m5").about(0, 1), 5);
        due("also if there is none", withText("m5").fault(), NONE);
    }

    @Sentence(promise = {19}, under = TEXTS, says = "Numbers are without leading zeros;")
    void leadingZeros() {
        faults("0|0,0,0", "0|1,0,0", "0,0|1,0", "0,0,0|1", "0,0,0|0", "-0|1,0,0", "m0|1", "10,100,1000", "0,0,0");
    }

    @Sentence(promise = {19, 20}, under = TEXTS, says = "\"-0\" is 0.")
    void minusZero() {
        faults("-0,-0,-0", "-0|0,0,0", "m|-0");
        OdometryDesk desk = loaded("-0,-0,-0");
        for (int what = 0; what < 4; what++) {
            due("a stand: " + what, desk.about(0, what), 0);
        }
    }

    @Sentence(promise = {19}, under = TEXTS,
        says = "The fault is the index of the first character that cannot stand at its place when the text is read from left "
            + "to right")
    void theFirstFault() {
        faults("|x,y,z", "1,2,3;|x;y", "1,2,|x;00,0,0;m9", "1,2,3;m1;4,5,6;7|x");
    }

    @Sentence(promise = {19}, under = TEXTS, says = "(also of a digit by which a number would be too great)")
    void digitsTooMany() {
        faults("300|0,0,0", "30|9,0,0", "99|9,0,0", "1,300|0,0", "1,1,300000|0", "1,1,30000|9", "1,1,99999|9",
            "1,1,100000|0", "-300|0,0,0", "1,1,-99999|9", "m|7", "30|1", "1,30|1", "99|999999");
    }

    @Sentence(promise = {19}, under = TEXTS,
        says = "if there is none and the text ends too early (also if it is empty), it is the length of the text.")
    void tooEarly() {
        due("an empty pad", new OdometryDesk().fault(), 0);
        faults("-|", "3|", "30|", "300|", "-0|", "1,|", "1,-|", "1,2|", "1,2,|", "1,2,-|", "m|", "m0;|", "1,2,3;|",
            "1,2,3;-|", "1,2,3;4|", "1,2,3;4,5|", "1,2,3;m|");
        faults("1,2,3", "1,2,30", "m0");
    }

    @Sentence(promise = {1, 2, 10, 11}, under = TEXTS,
        says = "`NO_SUCH = -1, BAD_VALUE = -2, BAD_TEXT = -3, TOO_MANY = -4, NOT_POSSIBLE = -5, NONE = -6`: Error codes, and "
            + "NONE: there is none. `GONE = 1000000000`: What error codes and NONE are decreased by in methods that return "
            + "amounts that can be negative. `LEFT = 0, RIGHT = 1, BASE = 2, SLIP = 3, TRUST = 4, BIAS = 5, PULL = 6, "
            + "REACH = 7, TOLERANCE = 8`: Settings.")
    void constants() {
        int[] errors = {OdometryDesk.NO_SUCH, OdometryDesk.BAD_VALUE, OdometryDesk.BAD_TEXT, OdometryDesk.TOO_MANY,
            OdometryDesk.NOT_POSSIBLE, OdometryDesk.NONE};
        for (int i = 0; i < errors.length; i++) {
            due("error " + i, errors[i], -1 - i);
        }
        due("GONE", OdometryDesk.GONE, 1000000000);
        int[] settings = {OdometryDesk.LEFT, OdometryDesk.RIGHT, OdometryDesk.BASE, OdometryDesk.SLIP, OdometryDesk.TRUST,
            OdometryDesk.BIAS, OdometryDesk.PULL, OdometryDesk.REACH, OdometryDesk.TOLERANCE};
        for (int i = 0; i < settings.length; i++) {
            due("setting " + i, settings[i], i);
            due("its first value", new OdometryDesk().set(settings[i], HIGHEST[i]), FIRST[i]);
        }
    }

    // ---- 17: put

    @Sentence(promise = {17},
        says = "its lowest 8 bits are the last character, the next 8 bits the one before, and so on;")
    void orderOfCharacters() {
        OdometryDesk desk = withMarkers(6);
        due("eight at once", desk.put(0x312C322C333B6D34L), 8);
        due("they are 1,2,3;m4", desk.load(), 2);
        due("the first one", desk.about(0, 1), 1);
        due("the last one", desk.about(1, 1), 4);
        desk.put(0x6D);
        due("one behind the other", desk.put(0x35), 2);
        due("they are m5", desk.load(), 1);
        due("the marker", desk.about(2, 1), 5);
    }

    @Sentence(promise = {17},
        says = "8 bits that are 0 mean that there are no more characters, and everything above them has to be 0, too.")
    void noMoreCharacters() {
        long number = 0;
        for (int many = 1; many <= 8; many++) {
            number = number << 8 | 'x';
            OdometryDesk desk = new OdometryDesk();
            due(many + " of them", desk.put(number), many);
            due(many + " of them are there", desk.count(11), many);
        }
    }

    @Sentence(promise = {17}, says = "- `characters`: 1 to 8 characters")
    void oneToEight() {
        OdometryDesk desk = new OdometryDesk();
        due("none", desk.put(0), BAD_VALUE);
        due("one", desk.put('m'), 1);
        due("eight", desk.put(number("0;m0;m0;")), 9);
        due("they are there", desk.fault(), 9);
    }

    @Sentence(promise = {17}, says = "Returns the length of the pad then; BAD_VALUE if there is no character,")
    void noCharacter() {
        OdometryDesk desk = new OdometryDesk();
        due("none, on an empty pad", desk.put(0), BAD_VALUE);
        write(desk, "0".repeat(100));
        due("none, on a full pad", desk.put(0), BAD_VALUE);
        due("its length", desk.count(11), 100);
    }

    @Sentence(promise = {17}, says = "a code is not 33 to 126,")
    void codes() {
        for (int place = 0; place < 8; place++) {
            long others = 0x4141414141414141L & ~(0xFFL << 8 * place);
            for (int code : new int[] {33, 34, 125, 126}) {
                due("code " + code + " at " + place, new OdometryDesk().put(others | (long) code << 8 * place), 8);
            }
            for (int code : new int[] {1, 31, 32, 127, 128, 161, 254, 255}) {
                due("code " + code + " at " + place, new OdometryDesk().put(others | (long) code << 8 * place), BAD_VALUE);
            }
        }
        OdometryDesk desk = new OdometryDesk();
        due("the least alone", desk.put(33), 1);
        due("the greatest alone", desk.put(126), 2);
        due("one less alone", desk.put(32), BAD_VALUE);
        due("one more alone", desk.put(127), BAD_VALUE);
        due("the least number", desk.put(Long.MIN_VALUE), BAD_VALUE);
        due("the greatest number", desk.put(Long.MAX_VALUE), BAD_VALUE);
        due("-1", desk.put(-1), BAD_VALUE);
    }

    @Sentence(promise = {17}, says = "or a bit above 8 bits that are 0 is not 0;")
    void bitsAboveZeros() {
        for (int place = 0; place < 8; place++) {
            for (int bit = 8 * place + 8; bit < 64; bit++) {
                long below = 0x4141414141414141L & ~(-1L << 8 * place);
                due("8 bits at " + place + ", bit " + bit, new OdometryDesk().put(below | 1L << bit), BAD_VALUE);
            }
        }
        due("a whole character above them", new OdometryDesk().put(0x410041), BAD_VALUE);
        due("just above none", new OdometryDesk().put(0x4100), BAD_VALUE);
    }

    @Sentence(promise = {17}, says = "TOO_MANY if the pad would be longer than 100.")
    void tooLong() {
        for (int many = 1; many <= 8; many++) {
            OdometryDesk desk = withText("0".repeat(101 - many));
            due(many + " would make it 101", desk.put(number("1".repeat(many))), TOO_MANY);
            due(many + ": nothing was put", desk.count(11), 101 - many);
            if (many > 1) {
                due(many + ": one less makes it 100", desk.put(number("1".repeat(many - 1))), 100);
            }
        }
        due("8 make it 100", withText("0".repeat(92)).put(number("12345678")), 100);
    }

    // ---- 18: wipe

    @Sentence(promise = {18}, says = "Empties the pad, and returns the length that it had.")
    void emptied() {
        OdometryDesk desk = new OdometryDesk();
        due("an empty pad", desk.wipe(), 0);
        write(desk, "m0;".repeat(33) + "m");
        due("a full pad", desk.wipe(), 100);
        due("it is empty", desk.count(11), 0);
        due("its fault", desk.fault(), 0);
        due("it has room again", desk.put(number("12345678")), 8);
        due("a part of it", desk.wipe(), 8);
    }

    // ---- 19: fault

    @Sentence(promise = {19}, says = "Returns the fault of the pad, NONE if there is none.")
    void noFault() {
        OdometryDesk desk = withText("m0");
        due("none", desk.fault(), NONE);
        due("the pad stays", desk.count(11), 2);
        desk.put(';');
        due("it ends too early", desk.fault(), 3);
        desk.put('x');
        due("it cannot go on so", desk.fault(), 3);
        desk.wipe();
        due("an empty one", desk.fault(), 0);
    }

    // ---- 20: load

    @Sentence(promise = {20},
        says = "Adds the entries of the pad one after the other, as by step() and see(), until one of them fails, and empties "
            + "the pad.")
    void untilOneFails() {
        OdometryDesk desk = withText("1,1,1;m0;2,2,2");
        desk.marker(0, 0);
        desk.cut(1);
        due("all of them", desk.load(), 3);
        due("in their order", desk.about(1, 0), 4);
        write(desk, "3,3,3;m1;4,4,4");
        due("a marker that there is not", desk.load(), 1);
        due("what is ahead of it is there", desk.about(3, 1), 3);
        due("what is behind it is not", desk.count(0), 4);
        due("the pad is empty", desk.count(11), 0);
        write(desk, "m5");
        due("the first one fails", desk.load(), 0);
        due("the pad is empty, too", desk.wipe(), 0);
        due("nothing was added", desk.count(0), 4);
    }

    @Sentence(promise = {20}, says = "until one of them fails")
    void untilTheLogIsFull() {
        OdometryDesk desk = withSteps(119);
        desk.marker(0, 0);
        write(desk, "5,5,5;m0;6,6,6");
        due("one", desk.load(), 1);
        due("it is there", desk.about(119, 1), 5);
        due("the log is full", desk.count(0), 120);
        due("the pad is empty", desk.count(11), 0);
        write(desk, "m0");
        due("none", desk.load(), 0);
        due("the pad is empty again", desk.count(11), 0);
        desk.cut(2);
        write(desk, "7,7,7;m0");
        due("just as many as there is room", desk.load(), 2);
        due("the last one", desk.about(119, 0), 4);
    }

    @Sentence(promise = {20}, says = "Returns the number of entries that were added;")
    void asManyAsThereCanBe() {
        OdometryDesk desk = withMarkers(1);
        write(desk, "m0;".repeat(32) + "m0");
        due("33 sights", desk.load(), 33);
        write(desk, "m0;".repeat(31) + "1,1,1");
        due("31 sights and a step", desk.load(), 32);
        due("all of them", desk.count(0), 65);
        write(desk, "m0");
        due("one", desk.load(), 1);
    }

    @Sentence(promise = {20}, says = "BAD_TEXT if the pad has a fault (then the pad stays).")
    void thePadStays() {
        for (String text : new String[] {"", "1", "m0;", "1,2,3;x", "m0;m0;m6", "301,1,2;m0"}) {
            OdometryDesk desk = withMarkers(1);
            write(desk, text);
            int fault = desk.fault();
            due(text + ": is refused", desk.load(), BAD_TEXT);
            due(text + ": the pad stays", desk.count(11), text.length());
            due(text + ": and its fault", desk.fault(), fault);
            due(text + ": nothing is added", desk.count(0), 0);
        }
        OdometryDesk desk = withMarkers(1);
        write(desk, "m0;");
        desk.load();
        write(desk, "m0");
        due("it can be written on", desk.load(), 2);
    }
}
