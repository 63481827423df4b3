import java.util.ArrayDeque;
import java.util.ArrayList;
import java.util.Deque;
import java.util.List;

/**
 * The document once more, in the plainest way and light by light: no bits, nothing kept that can be worked out,
 * and every question answered by really running a copy. ModelTest compares the class with it.
 */
final class PlainWheel {
    static final int INVALID_ARGUMENT = -101;
    static final int ILLEGAL_STATE = -102;
    static final int CAPACITY_EXCEEDED = -103;
    static final int NONE = -109;

    private static final class Picture {
        int width;
        int first = 0;
        int step = 6;
        int kind = 0;
        int[][] colors;

        Picture(int width) {
            this.width = width;
            colors = new int[width][12];
        }

        Picture copy() {
            Picture copy = new Picture(width);
            copy.first = first;
            copy.step = step;
            copy.kind = kind;
            for (int column = 0; column < width; column++) {
                copy.colors[column] = colors[column].clone();
            }
            return copy;
        }

        /** The column at an angle, or -1. */
        int column(int angle) {
            for (int i = 0; i < width * step && i < 720; i++) {
                if ((first + i) % 720 == angle) {
                    return kind == 1 ? width - 1 - i / step : i / step;
                }
            }
            return -1;
        }
    }

    private static final class State {
        List<Picture> pictures = new ArrayList<>();
        int angle = 0;
        int speed = 10;
        int ticks = 0;
        int load = 0;
        boolean second = false;
        boolean[][] broken = new boolean[2][12];
        int wantedSpeed = 10;
        int power = 5;
        int limit = 9999;
        int glow = 20;
        int[][] color = new int[720][12];
        int[][] tick = new int[720][12];
        boolean[] passed = new boolean[720];

        State() {
            for (int[] row : tick) {
                java.util.Arrays.fill(row, -1);
            }
        }

        State copy() {
            State copy = new State();
            for (Picture picture : pictures) {
                copy.pictures.add(picture.copy());
            }
            copy.angle = angle;
            copy.speed = speed;
            copy.ticks = ticks;
            copy.load = load;
            copy.second = second;
            copy.broken = new boolean[][] {broken[0].clone(), broken[1].clone()};
            copy.wantedSpeed = wantedSpeed;
            copy.power = power;
            copy.limit = limit;
            copy.glow = glow;
            for (int at = 0; at < 720; at++) {
                copy.color[at] = color[at].clone();
                copy.tick[at] = tick[at].clone();
            }
            return copy;
        }

        int wanted(int at, int light) {
            int wanted = 0;
            for (Picture picture : pictures) {
                int column = picture.column(at);
                if (picture.kind != 2 && column >= 0) {
                    wanted |= picture.colors[column][light];
                }
            }
            return wanted;
        }

        boolean covered(int at) {
            for (Picture picture : pictures) {
                if (picture.kind != 2 && picture.column(at) >= 0) {
                    return true;
                }
            }
            return false;
        }

        int age(int at, int light) {
            return tick[at][light] < 0 ? NONE : ticks - 1 - tick[at][light];
        }

        int lit(int at, int light) {
            int age = age(at, light);
            return age != NONE && age < glow ? color[at][light] : 0;
        }

        int[][] allWanted() {
            int[][] all = new int[720][12];
            for (Picture picture : pictures) {
                for (int i = 0; picture.kind != 2 && i < picture.width * picture.step && i < 720; i++) {
                    int column = picture.kind == 1 ? picture.width - 1 - i / picture.step : i / picture.step;
                    for (int light = 0; light < 12; light++) {
                        all[(picture.first + i) % 720][light] |= picture.colors[column][light];
                    }
                }
            }
            return all;
        }

        /** One tick. */
        void pass(int[][] wanted) {
            int most = load > limit ? power / 2 : power;
            if (speed < wantedSpeed) {
                speed = Math.min(wantedSpeed, speed + most);
            } else {
                speed = Math.max(wantedSpeed, speed - most);
            }
            load = 0;
            for (int i = 0; i < Math.abs(speed); i++) {
                angle = (angle + (speed > 0 ? 1 : 719)) % 720;
                write(0, angle, wanted);
                if (second) {
                    write(1, (angle + 360) % 720, wanted);
                }
            }
            ticks++;
        }

        private void write(int arm, int at, int[][] wanted) {
            passed[at] = true;
            for (int light = 0; light < 12; light++) {
                if (!broken[arm][light]) {
                    color[at][light] = wanted[at][light];
                    tick[at][light] = ticks;
                    load += wanted[at][light] == 0 ? 0 : 1;
                }
            }
        }

        int setting(int what) {
            return new int[] {wantedSpeed, power, limit, glow}[what];
        }

        void set(int what, int value) {
            switch (what) {
                case 0 -> wantedSpeed = value;
                case 1 -> power = value;
                case 2 -> limit = value;
                default -> glow = value;
            }
        }

        int notAsWanted() {
            int[][] wanted = allWanted();
            int different = 0;
            for (int at = 0; at < 720; at++) {
                for (int light = 0; light < 12; light++) {
                    different += lit(at, light) == wanted[at][light] ? 0 : 1;
                }
            }
            return different;
        }
    }

    private State now = new State();
    private final Deque<State> history = new ArrayDeque<>();
    private String text = "";

    private void record() {
        history.addLast(now.copy());
        if (history.size() > 5) {
            history.removeFirst();
        }
    }

    private boolean exists(int picture) {
        return picture >= 0 && picture < now.pictures.size();
    }

    private static boolean in(int value, int lowest, int highest) {
        return lowest <= value && value <= highest;
    }

    int addPicture(int width) {
        if (!in(width, 1, 40)) {
            return INVALID_ARGUMENT;
        }
        if (now.pictures.size() == 4) {
            return CAPACITY_EXCEEDED;
        }
        record();
        now.pictures.add(new Picture(width));
        return now.pictures.size() - 1;
    }

    int paint(int picture, int column, int light, int color) {
        if (!exists(picture) || !in(column, 0, now.pictures.get(picture).width - 1) || !in(light, 0, 11)
                || !in(color, 0, 7)) {
            return INVALID_ARGUMENT;
        }
        record();
        int previous = now.pictures.get(picture).colors[column][light];
        now.pictures.get(picture).colors[column][light] = color;
        return previous;
    }

    int setPlace(int picture, int first, int step) {
        if (!exists(picture) || !in(first, 0, 719) || !in(step, 1, 18)) {
            return INVALID_ARGUMENT;
        }
        record();
        int previous = now.pictures.get(picture).first;
        now.pictures.get(picture).first = first;
        now.pictures.get(picture).step = step;
        return previous;
    }

    int setKind(int picture, int kind) {
        if (!exists(picture) || !in(kind, 0, 2)) {
            return INVALID_ARGUMENT;
        }
        record();
        int previous = now.pictures.get(picture).kind;
        now.pictures.get(picture).kind = kind;
        return previous;
    }

    int append(int character) {
        if (!in(character, 1, 255)) {
            return INVALID_ARGUMENT;
        }
        if (text.length() == 160) {
            return CAPACITY_EXCEEDED;
        }
        text += (char) character;
        return text.length();
    }

    int clearText() {
        int previous = text.length();
        text = "";
        return previous;
    }

    /** Tells where a text is wrong. */
    private static final class WrongAt extends Exception {
        private static final long serialVersionUID = 1L;
        final int position;

        WrongAt(int position) {
            this.position = position;
        }
    }

    int load(int picture) {
        if (!exists(picture)) {
            return INVALID_ARGUMENT;
        }
        List<int[]> columns;
        try {
            columns = readColumns();
        } catch (WrongAt wrong) {
            return -1000 - wrong.position;
        }
        record();
        Picture loaded = now.pictures.get(picture);
        loaded.width = columns.size();
        loaded.colors = columns.toArray(new int[0][]);
        text = "";
        return columns.size();
    }

    private int at;

    private List<int[]> readColumns() throws WrongAt {
        List<int[]> columns = new ArrayList<>();
        at = 0;
        columns.add(readColumn());
        while (at < text.length()) {
            if (text.charAt(at) != ';' || columns.size() == 40) {
                throw new WrongAt(at);
            }
            at++;
            columns.add(readColumn());
        }
        return columns;
    }

    private int[] readColumn() throws WrongAt {
        int[] colors = new int[12];
        int told = 0;
        skipSpaces();
        while (at < text.length() && (text.charAt(at) == '(' || in(text.charAt(at), '0', '7'))) {
            int lights = 1;
            if (text.charAt(at) == '(') {
                at++;
                skipSpaces();
                lights = readNumber(told);
                skipSpaces();
                if (at >= text.length() || text.charAt(at) != ')') {
                    throw new WrongAt(at);
                }
                at++;
                skipSpaces();
                if (at >= text.length() || !in(text.charAt(at), '0', '7')) {
                    throw new WrongAt(at);
                }
            }
            if (told + lights > 12) {
                throw new WrongAt(at);
            }
            for (int i = 0; i < lights; i++) {
                colors[told] = text.charAt(at) - '0';
                told++;
            }
            at++;
            skipSpaces();
        }
        return colors;
    }

    private int readNumber(int told) throws WrongAt {
        int start = at;
        while (at < text.length() && in(text.charAt(at), '0', '9')) {
            at++;
        }
        String digits = text.substring(start, at);
        boolean right = digits.matches("[1-9]|1[0-2]") && told + Integer.parseInt(digits) <= 12;
        if (!right) {
            throw new WrongAt(start);
        }
        return Integer.parseInt(digits);
    }

    private void skipSpaces() {
        while (at < text.length() && text.charAt(at) == ' ') {
            at++;
        }
    }

    int setSecondArm(int on) {
        if (!in(on, 0, 1)) {
            return INVALID_ARGUMENT;
        }
        record();
        int previous = now.second ? 1 : 0;
        now.second = on == 1;
        return previous;
    }

    int setBroken(int arm, int light, int broken) {
        if (!in(arm, 0, 1) || !in(light, 0, 11) || !in(broken, 0, 1)) {
            return INVALID_ARGUMENT;
        }
        record();
        int previous = now.broken[arm][light] ? 1 : 0;
        now.broken[arm][light] = broken == 1;
        return previous;
    }

    int set(int what, int value) {
        if (!in(what, 0, 3)) {
            return INVALID_ARGUMENT;
        }
        boolean right = switch (what) {
            case 0 -> in(value, -60, 60);
            case 1 -> in(value, 1, 20);
            case 2 -> in(value, 1, 9999);
            default -> in(value, 1, 99);
        };
        if (!right) {
            return INVALID_ARGUMENT;
        }
        record();
        int previous = now.setting(what);
        now.set(what, value);
        return previous;
    }

    int run(int ticks) {
        if (!in(ticks, 1, 100)) {
            return INVALID_ARGUMENT;
        }
        if (now.ticks + ticks > 5000) {
            return CAPACITY_EXCEEDED;
        }
        record();
        int[][] wanted = now.allWanted();
        for (int i = 0; i < ticks; i++) {
            now.pass(wanted);
        }
        return now.load;
    }

    int undo() {
        if (history.isEmpty()) {
            return ILLEGAL_STATE;
        }
        now = history.removeLast();
        return history.size();
    }

    int count(int what) {
        return switch (what) {
            case 0 -> now.pictures.size();
            case 1 -> now.angle;
            case 2 -> now.speed;
            case 3 -> now.ticks;
            case 4 -> now.load;
            case 5 -> {
                int lit = 0;
                for (int angle = 0; angle < 720; angle++) {
                    for (int light = 0; light < 12; light++) {
                        lit += now.lit(angle, light) == 0 ? 0 : 1;
                    }
                }
                yield lit;
            }
            case 6 -> now.notAsWanted();
            case 7 -> now.second ? 1 : 0;
            case 8 -> history.size();
            case 9 -> text.length();
            default -> INVALID_ARGUMENT;
        };
    }

    int setting(int what) {
        return in(what, 0, 3) ? now.setting(what) : INVALID_ARGUMENT;
    }

    int picture(int picture, int what) {
        if (!exists(picture) || !in(what, 0, 5)) {
            return INVALID_ARGUMENT;
        }
        Picture shown = now.pictures.get(picture);
        int colors = 0;
        for (int[] column : shown.colors) {
            for (int color : column) {
                colors += color == 0 ? 0 : 1;
            }
        }
        int covered = 0;
        for (int angle = 0; what == 5 && angle < 720; angle++) {
            covered += shown.column(angle) >= 0 ? 1 : 0;
        }
        return new int[] {shown.width, shown.first, shown.step, shown.kind, colors, covered}[what];
    }

    int color(int picture, int column, int light) {
        if (!exists(picture) || !in(column, 0, 39) || !in(light, 0, 11)) {
            return INVALID_ARGUMENT;
        }
        Picture shown = now.pictures.get(picture);
        return column >= shown.width ? NONE : shown.colors[column][light];
    }

    int broken(int arm, int light) {
        if (!in(arm, 0, 1) || !in(light, 0, 11)) {
            return INVALID_ARGUMENT;
        }
        return now.broken[arm][light] ? 1 : 0;
    }

    int place(int angle, int light, int what) {
        if (!in(angle, 0, 719) || !in(light, 0, 11) || !in(what, 0, 2)) {
            return INVALID_ARGUMENT;
        }
        return what == 0 ? now.wanted(angle, light) : what == 1 ? now.lit(angle, light) : now.age(angle, light);
    }

    int columnAt(int picture, int angle) {
        if (!exists(picture) || !in(angle, 0, 719)) {
            return INVALID_ARGUMENT;
        }
        int column = now.pictures.get(picture).column(angle);
        return column < 0 ? NONE : column;
    }

    int ticksAround() {
        State copy = now.copy();
        int[][] wanted = copy.allWanted();
        int gone = 0;
        for (int ticks = 1; ticks <= 500; ticks++) {
            copy.pass(wanted);
            gone += Math.abs(copy.speed);
            if (gone >= 720) {
                return ticks;
            }
        }
        return NONE;
    }

    int gaps(int ticks) {
        if (!in(ticks, 0, 200)) {
            return INVALID_ARGUMENT;
        }
        State copy = now.copy();
        int[][] wanted = copy.allWanted();
        for (int i = 0; i < ticks; i++) {
            copy.pass(wanted);
        }
        int gaps = 0;
        for (int angle = 0; angle < 720; angle++) {
            gaps += copy.covered(angle) && !copy.passed[angle] ? 1 : 0;
        }
        return gaps;
    }

    int bestSpeed(int ticks) {
        if (!in(ticks, 1, 40)) {
            return INVALID_ARGUMENT;
        }
        int best = 0;
        int fewestWrong = Integer.MAX_VALUE;
        for (int speed = -60; speed <= 60; speed += 10) {
            State copy = now.copy();
            copy.wantedSpeed = speed;
            int[][] wanted = copy.allWanted();
            for (int i = 0; i < ticks; i++) {
                copy.pass(wanted);
            }
            int wrong = copy.notAsWanted();
            if (wrong < fewestWrong) {
                fewestWrong = wrong;
                best = speed;
            }
        }
        return best;
    }

    int meetings(int picture, int other) {
        if (!exists(picture) || !exists(other) || picture == other) {
            return INVALID_ARGUMENT;
        }
        Picture one = now.pictures.get(picture);
        Picture another = now.pictures.get(other);
        int places = 0;
        for (int angle = 0; angle < 720 && one.kind != 2 && another.kind != 2; angle++) {
            int a = one.column(angle);
            int b = another.column(angle);
            for (int light = 0; light < 12 && a >= 0 && b >= 0; light++) {
                places += one.colors[a][light] != 0 && another.colors[b][light] != 0 ? 1 : 0;
            }
        }
        return places;
    }
}
