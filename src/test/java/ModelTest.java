import java.util.Random;

/** Runs of calls, drawn by fixed seeds, on the class and on PlainWheel: every answer has to be the same. */
public final class ModelTest {
    private static final Check CHECK = new Check();
    private static final int CALLS = 512;
    // A text of up to 7 pieces of up to 8 characters, and two calls.
    private static final int LONGEST_STEP = 60;
    private static final int[] ODD = {Integer.MIN_VALUE, -1000, -1, 41, 160, 720, 10000, Integer.MAX_VALUE};

    private final Random random;
    private final int seed;
    private final LightWheel wheel = new LightWheel();
    private final PlainWheel plain = new PlainWheel();

    private ModelTest(int seed) {
        this.seed = seed;
        random = new Random(seed);
    }

    public static void main(String[] args) {
        int runs = args.length > 0 ? Integer.parseInt(args[0]) : 150;
        for (int seed = 1; seed <= runs && CHECK.wrong() == 0; seed++) {
            new ModelTest(seed).play();
        }
        CHECK.end();
    }

    private void play() {
        int calls = 0;
        // Every fifth run takes arguments out of their ranges quite often.
        int oddness = seed % 5 == 0 ? 10 : 100;
        if (seed % 2 == 0) {
            calls += prepare();
        }
        while (calls < CALLS - LONGEST_STEP && CHECK.wrong() == 0) {
            calls += step(oddness);
        }
        while (calls < CALLS) {
            lookAtAPlace(oddness);
            calls++;
        }
    }

    /** A number of a range, or now and then one out of it. */
    private int pick(int lowest, int highest, int oddness) {
        if (random.nextInt(oddness) == 0) {
            switch (random.nextInt(3)) {
                case 0: return lowest - 1;
                case 1: return highest + 1;
                default: return ODD[random.nextInt(ODD.length)];
            }
        }
        switch (random.nextInt(8)) {
            case 0: return lowest;
            case 1: return highest;
            default: return lowest + random.nextInt(highest - lowest + 1);
        }
    }

    private void same(String call, int got, int want) {
        CHECK.due("seed " + seed + ": " + call, got, want);
    }

    /** Bright pictures, so that there is something to write. */
    private int prepare() {
        int pictures = 1 + random.nextInt(3);
        int calls = 0;
        for (int picture = 0; picture < pictures; picture++) {
            same("addPicture(1)", wheel.addPicture(1), plain.addPicture(1));
            int lights = 1 + random.nextInt(12);
            calls += 3 + type("(12)" + random.nextInt(8) + ";0" + random.nextInt(8) + ";(" + lights + ")3");
            same("load(" + picture + ")", wheel.load(picture), plain.load(picture));
            int first = random.nextInt(720);
            same("setPlace", wheel.setPlace(picture, first, 18), plain.setPlace(picture, first, 18));
        }
        return calls;
    }

    private int type(String text) {
        for (int i = 0; i < text.length(); i++) {
            char character = text.charAt(i);
            same("append(" + (int) character + ")", wheel.append(character), plain.append(character));
        }
        return text.length();
    }

    private int step(int oddness) {
        int kind = random.nextInt(100);
        if (kind < 25) {
            changePictures(oddness);
        } else if (kind < 30) {
            return typeAndLoad();
        } else if (kind < 60) {
            changeBar(oddness);
        } else if (kind < 75) {
            look(oddness);
        } else if (kind < 85) {
            lookAtAPlace(oddness);
        } else {
            ask(oddness);
        }
        return 1;
    }

    private void changePictures(int oddness) {
        int p = pick(0, Math.max(0, plain.count(0) - 1), oddness);
        switch (random.nextInt(6)) {
            case 0: {
                int width = pick(1, 40, oddness);
                same("addPicture(" + width + ")", wheel.addPicture(width), plain.addPicture(width));
                break;
            }
            case 1:
            case 2: {
                int column = pick(0, Math.max(0, plain.picture(p, 0) - 1), oddness);
                int light = pick(0, 11, oddness);
                int color = pick(0, 7, oddness);
                same("paint(" + p + ", " + column + ", " + light + ", " + color + ")",
                        wheel.paint(p, column, light, color), plain.paint(p, column, light, color));
                break;
            }
            case 3: {
                int first = pick(0, 719, oddness);
                int step = pick(1, 18, oddness);
                same("setPlace(" + p + ", " + first + ", " + step + ")",
                        wheel.setPlace(p, first, step), plain.setPlace(p, first, step));
                break;
            }
            case 4: {
                int kind = pick(0, 2, oddness);
                same("setKind(" + p + ", " + kind + ")", wheel.setKind(p, kind), plain.setKind(p, kind));
                break;
            }
            default: {
                int character = random.nextBoolean() ? '0' + random.nextInt(8) : pick(1, 255, oddness);
                same("append(" + character + ")", wheel.append(character), plain.append(character));
                break;
            }
        }
    }

    private int typeAndLoad() {
        int calls = 2;
        same("clearText()", wheel.clearText(), plain.clearText());
        calls += type(randomText());
        int p = pick(0, 3, 20);
        same("load(" + p + ")", wheel.load(p), plain.load(p));
        return calls;
    }

    /** Mostly right texts: pieces of right ones, with a wrong sign now and then. */
    private String randomText() {
        StringBuilder text = new StringBuilder();
        int pieces = random.nextInt(8);
        for (int i = 0; i < pieces; i++) {
            switch (random.nextInt(12)) {
                case 0:
                case 1:
                    text.append(";");
                    break;
                case 2:
                    text.append(" ");
                    break;
                case 3:
                case 4:
                    text.append("(").append(1 + random.nextInt(6)).append(")").append(random.nextInt(8));
                    break;
                case 5:
                    text.append("( ").append(1 + random.nextInt(12)).append(" ) ").append(random.nextInt(8));
                    break;
                case 6:
                    text.append(random.nextInt(10) == 0 ? "8" : "7");
                    break;
                case 7:
                    text.append(random.nextInt(4) == 0 ? "()12 03(;".charAt(random.nextInt(9)) : '1');
                    break;
                default:
                    text.append(random.nextInt(8));
                    break;
            }
        }
        return text.toString();
    }

    private void changeBar(int oddness) {
        switch (random.nextInt(10)) {
            case 0: {
                int on = pick(0, 1, oddness);
                same("setSecondArm(" + on + ")", wheel.setSecondArm(on), plain.setSecondArm(on));
                break;
            }
            case 1: {
                int arm = pick(0, 1, oddness);
                int light = pick(0, 11, oddness);
                int broken = pick(0, 1, oddness);
                same("setBroken(" + arm + ", " + light + ", " + broken + ")",
                        wheel.setBroken(arm, light, broken), plain.setBroken(arm, light, broken));
                break;
            }
            case 2:
            case 3:
            case 4: {
                int what = pick(0, 3, oddness);
                int[][] ranges = {{-60, 60}, {1, 20}, {1, 400}, {1, 99}};
                int[] range = ranges[Math.floorMod(what, 4)];
                int value = pick(range[0], range[1], oddness);
                same("set(" + what + ", " + value + ")", wheel.set(what, value), plain.set(what, value));
                break;
            }
            case 5:
                same("undo()", wheel.undo(), plain.undo());
                break;
            default: {
                int ticks = random.nextInt(3) == 0 ? pick(1, 100, oddness) : 1 + random.nextInt(8);
                same("run(" + ticks + ")", wheel.run(ticks), plain.run(ticks));
                break;
            }
        }
    }

    private void look(int oddness) {
        int p = pick(0, Math.max(0, plain.count(0) - 1), oddness);
        switch (random.nextInt(7)) {
            case 0: {
                int what = pick(0, 3, oddness);
                same("setting(" + what + ")", wheel.setting(what), plain.setting(what));
                break;
            }
            case 1: {
                int what = pick(0, 5, oddness);
                same("picture(" + p + ", " + what + ")", wheel.picture(p, what), plain.picture(p, what));
                break;
            }
            case 2: {
                int column = pick(0, 39, oddness);
                int light = pick(0, 11, oddness);
                same("color(" + p + ", " + column + ", " + light + ")",
                        wheel.color(p, column, light), plain.color(p, column, light));
                break;
            }
            case 3: {
                int arm = pick(0, 1, oddness);
                int light = pick(0, 11, oddness);
                same("broken(" + arm + ", " + light + ")", wheel.broken(arm, light), plain.broken(arm, light));
                break;
            }
            case 4: {
                int angle = pick(0, 719, oddness);
                same("columnAt(" + p + ", " + angle + ")", wheel.columnAt(p, angle), plain.columnAt(p, angle));
                break;
            }
            default: {
                int what = random.nextBoolean() ? 5 + random.nextInt(2) : pick(0, 9, oddness);
                same("count(" + what + ")", wheel.count(what), plain.count(what));
                break;
            }
        }
    }

    private void lookAtAPlace(int oddness) {
        int angle = random.nextBoolean() ? pick(0, 719, oddness)
                : Math.floorMod(plain.count(1) + random.nextInt(41) - 20 + 360 * random.nextInt(2), 720);
        int light = pick(0, 11, oddness);
        int what = pick(0, 2, oddness);
        same("place(" + angle + ", " + light + ", " + what + ")",
                wheel.place(angle, light, what), plain.place(angle, light, what));
    }

    private void ask(int oddness) {
        switch (random.nextInt(4)) {
            case 0:
                same("ticksAround()", wheel.ticksAround(), plain.ticksAround());
                break;
            case 1: {
                int ticks = random.nextBoolean() ? pick(0, 200, oddness) : random.nextInt(20);
                same("gaps(" + ticks + ")", wheel.gaps(ticks), plain.gaps(ticks));
                break;
            }
            case 2: {
                int ticks = pick(1, 40, oddness);
                same("bestSpeed(" + ticks + ")", wheel.bestSpeed(ticks), plain.bestSpeed(ticks));
                break;
            }
            default: {
                int most = Math.max(1, plain.count(0) - 1);
                int p = pick(0, most, oddness);
                int q = pick(0, most, oddness);
                same("meetings(" + p + ", " + q + ")", wheel.meetings(p, q), plain.meetings(p, q));
                break;
            }
        }
    }
}
