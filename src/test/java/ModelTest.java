import java.util.Random;

/** Long runs of calls from fixed seeds, on the program and on the model: all their answers are the same. */
public final class ModelTest {
    private static final int RUNS = 700;
    /** A desk is used for at most 512 calls, and no turn of a run makes more than 20. */
    private static final int CALLS = 512 - 20;
    private static final int[] EDGES = {Integer.MIN_VALUE, Integer.MAX_VALUE, -1000000000, 1000000000, -300001, 300001,
        -100001, 100001, -301, 301, -100, -2, -1, 0, 1, 2, 6, 7, 8, 9, 11, 20, 21, 99, 101, 120, 121, 2001, 18000,
        36000, 200001, 900001, 3600000};
    private static final String[] PIECES = {"m0", "m1", "m5", "m6", "m", "0,0,0", "100,100,0", "-300,300,-300000",
        "301,0,0", "0,0,300001", "-0,-0,-0", "00,0,0", "1,2", ";", ",", "-", "7,", "12,-9,999", "90,95,5000", "x", "0",
        "30", "--1,0,0", "0,0,-", "m05", "0,0,0,0"};

    private final Check check;
    private final Random random;
    private OdometryDesk desk = new OdometryDesk();
    private Model model = new Model();
    private final StringBuilder told = new StringBuilder();
    private int calls;

    private ModelTest(Check check, long seed) {
        this.check = check;
        this.random = new Random(seed);
    }

    public static void main(String[] args) {
        Check check = new Check();
        for (int seed = 0; seed < RUNS && !check.hasFailed(); seed++) {
            ModelTest test = new ModelTest(check, seed);
            test.run();
            if (check.hasFailed()) {
                System.out.println("seed " + seed + ":\n" + test.told);
            }
        }
        check.close("ModelTest");
    }

    private int from(int least, int most) {
        return least + random.nextInt(most - least + 1);
    }

    /** A value in its range nearly always, at its ends often, and now and then anything. */
    private int value(int least, int most) {
        int kind = random.nextInt(60);
        if (kind == 0) {
            return EDGES[random.nextInt(EDGES.length)];
        }
        if (kind < 3) {
            return kind == 1 ? least - 1 : most + 1;
        }
        if (kind < 9) {
            return kind < 6 ? least : most;
        }
        return from(least, most);
    }

    private int small(int least, int most, int reach) {
        return random.nextInt(4) == 0 ? value(least, most)
            : Math.max(least, Math.min(most, from(-reach, reach)));
    }

    private void same(String call, int got, int want) {
        calls++;
        told.append(call).append(" -> ").append(want).append('\n');
        check.due(call, got, want);
    }

    private void run() {
        for (int i = from(0, 3); i > 0; i--) {
            corridor();
            marker();
        }
        boolean isLong = random.nextInt(3) == 0;
        while (calls < CALLS && !check.hasFailed()) {
            int kind = random.nextInt(isLong && calls < 200 ? 40 : 100);
            if (kind < 22) {
                step();
            } else if (kind < 27) {
                see();
            } else if (kind < 40) {
                change();
            } else if (kind < 55) {
                pose();
            } else if (kind < 75) {
                about();
            } else if (kind < 90) {
                whole();
            } else {
                text();
            }
        }
    }

    private void step() {
        int straight = from(-120, 300);
        int left = small(-300, 300, 20);
        int right = small(-300, 300, 20);
        int turn = small(-300000, 300000, 30000);
        switch (random.nextInt(6)) {
            case 0 -> { left = 0; right = 0; }
            case 1, 2, 3 -> {
                left = straight;
                right = Math.max(-300, Math.min(300, straight + from(-30, 30)));
                turn = (right - left) * 955 + from(-21000, 21000);
            }
            default -> { }
        }
        same("step(" + left + ", " + right + ", " + turn + ")", desk.step(left, right, turn),
            model.step(left, right, turn));
    }

    private void see() {
        int marker = value(0, Math.max(0, model.world.markers().size() - 1));
        same("see(" + marker + ")", desk.see(marker), model.see(marker));
    }

    private void corridor() {
        int reach = from(0, 3000);
        int x1 = small(-100000, 100000, reach), y1 = small(-100000, 100000, reach);
        int x2 = small(-100000, 100000, reach), y2 = small(-100000, 100000, reach);
        int direction = random.nextBoolean() ? value(0, 17999) : 9000 * random.nextInt(2);
        same("corridor(" + x1 + ", " + y1 + ", " + x2 + ", " + y2 + ", " + direction + ")",
            desk.corridor(x1, y1, x2, y2, direction), model.corridor(x1, y1, x2, y2, direction));
    }

    private void marker() {
        int x = small(-100000, 100000, 2000), y = small(-100000, 100000, 2000);
        same("marker(" + x + ", " + y + ")", desk.marker(x, y), model.marker(x, y));
    }

    private void change() {
        switch (random.nextInt(16)) {
            case 0, 1, 2, 3 -> {
                int setting = value(0, 8);
                int value = settingValue(setting);
                same("set(" + setting + ", " + value + ")", desk.set(setting, value), model.set(setting, value));
            }
            case 4, 5 -> corridor();
            case 6 -> marker();
            case 7 -> same("closeCorridor()", desk.closeCorridor(), model.closeCorridor());
            case 8, 9 -> {
                int x = small(-100000, 100000, 500), y = small(-100000, 100000, 500), heading = value(0, 3599999);
                same("begin(" + x + ", " + y + ", " + heading + ")", desk.begin(x, y, heading),
                    model.begin(x, y, heading));
            }
            case 10 -> {
                int many = random.nextInt(8) == 0 ? value(1, Math.max(1, model.world.log().size())) : from(1, 3);
                same("cut(" + many + ")", desk.cut(many), model.cut(many));
            }
            case 11 -> {
                int slot = value(0, 1);
                same("save(" + slot + ")", desk.save(slot), model.save(slot));
            }
            case 12 -> {
                int slot = value(0, 1);
                same("restore(" + slot + ")", desk.restore(slot), model.restore(slot));
            }
            default -> step();
        }
    }

    private int settingValue(int setting) {
        if (setting < 0 || setting > 8) {
            return EDGES[random.nextInt(EDGES.length)];
        }
        int[] range = Model.RANGES[setting];
        if (setting == 2 && random.nextInt(3) == 0) {
            return random.nextBoolean() ? from(100, 120) : from(980, 1000);
        }
        return value(range[0], range[1]);
    }

    private void pose() {
        int entry = value(-1, Math.max(0, model.world.log().size() - 1)), what = value(0, 6);
        same("pose(" + entry + ", " + what + ")", desk.pose(entry, what), model.pose(entry, what));
    }

    private void about() {
        int entry = value(0, Math.max(0, model.world.log().size() - 1)), what = value(0, 10);
        same("about(" + entry + ", " + what + ")", desk.about(entry, what), model.about(entry, what));
    }

    private void whole() {
        switch (random.nextInt(12)) {
            case 0, 1, 2, 3, 4, 5 -> {
                int what = random.nextInt(3) == 0 ? value(0, 20) : value(0, 11);
                same("count(" + what + ")", desk.count(what), model.count(what));
            }
            case 6, 7 -> {
                int angle = value(0, 35999), which = value(0, 1);
                same("wave(" + angle + ", " + which + ")", desk.wave(angle, which), model.wave(angle, which));
            }
            case 8, 9, 10 -> {
                int setting = value(0, 8), value = settingValue(setting), what = value(0, 4);
                same("ifSet(" + setting + ", " + value + ", " + what + ")", desk.ifSet(setting, value, what),
                    model.ifSet(setting, value, what));
            }
            default -> {
                if (random.nextInt(4) == 0) {
                    same("bestBase()", desk.bestBase(), model.bestBase());
                } else {
                    same("bestTrust()", desk.bestTrust(), model.bestTrust());
                }
            }
        }
    }

    private void text() {
        switch (random.nextInt(8)) {
            case 0 -> same("wipe()", desk.wipe(), model.wipe());
            case 1, 2 -> same("fault()", desk.fault(), model.fault());
            case 3 -> same("load()", desk.load(), model.load());
            case 4 -> {
                long any = random.nextBoolean() ? random.nextLong() : random.nextLong() >>> 8 * random.nextInt(8);
                put(any);
            }
            case 5 -> {
                StringBuilder text = new StringBuilder();
                for (int i = from(1, 6); i > 0; i--) {
                    text.append("0123456789,,,;;;-m".charAt(random.nextInt(18)));
                }
                puts(text.toString());
            }
            default -> {
                StringBuilder text = new StringBuilder();
                for (int i = from(1, 5); i > 0; i--) {
                    text.append(PIECES[random.nextInt(random.nextBoolean() ? 8 : PIECES.length)]);
                    text.append(i > 1 && random.nextInt(8) > 0 ? ";" : "");
                }
                puts(text.toString());
                same("fault()", desk.fault(), model.fault());
                same("load()", desk.load(), model.load());
                same("wipe()", desk.wipe(), model.wipe());
            }
        }
    }

    private void puts(String text) {
        for (int i = 0; i < text.length(); i += 8) {
            long number = 0;
            for (char sign : text.substring(i, Math.min(text.length(), i + 8)).toCharArray()) {
                number = number << 8 | sign;
            }
            put(number);
        }
    }

    private void put(long characters) {
        same("put(" + characters + "L)", desk.put(characters), model.put(characters));
    }
}
