/** A spinning bar of lights that writes pictures in the air. */
public final class LightWheel {
    public static final int INVALID_ARGUMENT = -101;
    public static final int ILLEGAL_STATE = -102;
    public static final int CAPACITY_EXCEEDED = -103;
    public static final int NONE = -109;

    private static final int CIRCLE = 720;
    private static final int HALF_CIRCLE = 360;
    private static final int LIGHTS = 12;
    private static final int MOST_PICTURES = 4;
    private static final int MOST_COLUMNS = 40;
    private static final int MOST_STEP = 18;
    private static final int MOST_STATES = 5;
    private static final int MOST_TEXT = 160;
    private static final int MOST_TICKS = 5000;
    private static final int TEXT_ERROR = -1000;

    private static final int MIRRORED = 1;
    private static final int OFF = 2;

    private static final int WANTED_SPEED = 0;
    private static final int POWER = 1;
    private static final int LIMIT = 2;
    private static final int GLOW = 3;
    private static final int SETTINGS = 4;
    private static final int[] LOWEST = {-60, 1, 1, 1};
    private static final int[] HIGHEST = {60, 20, 9999, 99};

    /*
     * The 12 colors of a column or an angle stand in one long, three bits a light, light 0 lowest.
     * A set of lights has the lowest of these three bits for each of its lights.
     */
    private static final int BITS = 3;
    private static final int COLOR = 7;
    private static final long ALL_LIGHTS = 0x249249249L;

    private final State now = new State();
    private final State[] history = new State[MOST_STATES];
    private int oldest = 0;
    private int historySize = 0;
    private final char[] text = new char[MOST_TEXT];
    private int textLength = 0;
    private final Reader reader = new Reader();
    private final Sweep sweep = new Sweep();
    // For bestSpeed: the lights of each angle that have the wanted color behind the ticks if nothing is written there.
    private final long[] rightAlone = new long[CIRCLE];

    public LightWheel() {
        for (int i = 0; i < MOST_STATES; i++) {
            history[i] = new State();
        }
    }

    // ---- pictures

    public int addPicture(int width) {
        if (!within(width, 1, MOST_COLUMNS)) {
            return INVALID_ARGUMENT;
        }
        if (now.pictureCount >= MOST_PICTURES) {
            return CAPACITY_EXCEEDED;
        }
        record();
        int number = now.pictureCount;
        // Pictures not yet added are as new: none is ever removed but by undo, which restores the whole state.
        now.pictures[number].width = width;
        now.pictureCount++;
        return number;
    }

    public int paint(int picture, int column, int light, int color) {
        Picture painted = now.pictureNumbered(picture);
        if (painted == null || !within(column, 0, painted.width - 1) || !within(light, 0, LIGHTS - 1)
                || !within(color, 0, COLOR)) {
            return INVALID_ARGUMENT;
        }
        record();
        int previous = colorIn(painted.columns[column], light);
        painted.columns[column] = withColor(painted.columns[column], light, color);
        return previous;
    }

    public int setPlace(int picture, int first, int step) {
        Picture placed = now.pictureNumbered(picture);
        if (placed == null || !within(first, 0, CIRCLE - 1) || !within(step, 1, MOST_STEP)) {
            return INVALID_ARGUMENT;
        }
        record();
        int previous = placed.first;
        placed.first = first;
        placed.step = step;
        return previous;
    }

    public int setKind(int picture, int kind) {
        Picture changed = now.pictureNumbered(picture);
        if (changed == null || !within(kind, 0, OFF)) {
            return INVALID_ARGUMENT;
        }
        record();
        int previous = changed.kind;
        changed.kind = kind;
        return previous;
    }

    public int append(int character) {
        if (!within(character, 1, 255)) {
            return INVALID_ARGUMENT;
        }
        if (textLength >= MOST_TEXT) {
            return CAPACITY_EXCEEDED;
        }
        text[textLength] = (char) character;
        textLength++;
        return textLength;
    }

    public int clearText() {
        int previous = textLength;
        textLength = 0;
        return previous;
    }

    public int load(int picture) {
        Picture loaded = now.pictureNumbered(picture);
        if (loaded == null) {
            return INVALID_ARGUMENT;
        }
        int error = reader.read(text, textLength);
        if (error >= 0) {
            return TEXT_ERROR - error;
        }
        record();
        loaded.width = reader.columnCount;
        System.arraycopy(reader.columns, 0, loaded.columns, 0, MOST_COLUMNS);
        textLength = 0;
        return loaded.width;
    }

    // ---- bar and motor

    public int setSecondArm(int on) {
        if (!within(on, 0, 1)) {
            return INVALID_ARGUMENT;
        }
        record();
        int previous = now.secondArm;
        now.secondArm = on;
        return previous;
    }

    public int setBroken(int arm, int light, int broken) {
        if (!within(arm, 0, 1) || !within(light, 0, LIGHTS - 1) || !within(broken, 0, 1)) {
            return INVALID_ARGUMENT;
        }
        record();
        int previous = now.works(arm, light) ? 0 : 1;
        long bit = 1L << (light * BITS);
        now.working[arm] = broken == 1 ? (now.working[arm] & ~bit) : (now.working[arm] | bit);
        return previous;
    }

    public int set(int what, int value) {
        if (!within(what, 0, SETTINGS - 1) || !within(value, LOWEST[what], HIGHEST[what])) {
            return INVALID_ARGUMENT;
        }
        record();
        int previous = now.settings[what];
        now.settings[what] = value;
        return previous;
    }

    public int run(int ticks) {
        if (!within(ticks, 1, 100)) {
            return INVALID_ARGUMENT;
        }
        if (now.ticks + ticks > MOST_TICKS) {
            return CAPACITY_EXCEEDED;
        }
        record();
        sweep.prepare(now);
        sweep.start(now, now.settings[WANTED_SPEED]);
        sweep.goOn(ticks);
        now.write(sweep);
        return now.load;
    }

    public int undo() {
        if (historySize == 0) {
            return ILLEGAL_STATE;
        }
        historySize--;
        now.copyFrom(history[(oldest + historySize) % MOST_STATES]);
        return historySize;
    }

    /** Every action calls this ahead of its change. */
    private void record() {
        if (historySize == MOST_STATES) {
            oldest = (oldest + 1) % MOST_STATES;
            historySize--;
        }
        history[(oldest + historySize) % MOST_STATES].copyFrom(now);
        historySize++;
    }

    // ---- looking

    public int count(int what) {
        switch (what) {
            case 0: return now.pictureCount;
            case 1: return now.angle;
            case 2: return now.speed;
            case 3: return now.ticks;
            case 4: return now.load;
            case 5: return countLit();
            case 6: return countNotAsWanted();
            case 7: return now.secondArm;
            case 8: return historySize;
            case 9: return textLength;
            default: return INVALID_ARGUMENT;
        }
    }

    public int setting(int what) {
        return within(what, 0, SETTINGS - 1) ? now.settings[what] : INVALID_ARGUMENT;
    }

    public int picture(int picture, int what) {
        Picture shown = now.pictureNumbered(picture);
        if (shown == null) {
            return INVALID_ARGUMENT;
        }
        switch (what) {
            case 0: return shown.width;
            case 1: return shown.first;
            case 2: return shown.step;
            case 3: return shown.kind;
            case 4: return shown.countNotDark();
            case 5: return shown.coveredAngles();
            default: return INVALID_ARGUMENT;
        }
    }

    public int color(int picture, int column, int light) {
        Picture shown = now.pictureNumbered(picture);
        if (shown == null || !within(column, 0, MOST_COLUMNS - 1) || !within(light, 0, LIGHTS - 1)) {
            return INVALID_ARGUMENT;
        }
        return column < shown.width ? colorIn(shown.columns[column], light) : NONE;
    }

    public int broken(int arm, int light) {
        if (!within(arm, 0, 1) || !within(light, 0, LIGHTS - 1)) {
            return INVALID_ARGUMENT;
        }
        return now.works(arm, light) ? 0 : 1;
    }

    public int place(int angle, int light, int what) {
        if (!within(angle, 0, CIRCLE - 1) || !within(light, 0, LIGHTS - 1)) {
            return INVALID_ARGUMENT;
        }
        switch (what) {
            case 0: return colorIn(now.wantedAt(angle), light);
            case 1: return colorIn(now.litAt(angle, 0), light);
            case 2: return ticksSinceWritten(angle, light);
            default: return INVALID_ARGUMENT;
        }
    }

    public int columnAt(int picture, int angle) {
        Picture shown = now.pictureNumbered(picture);
        if (shown == null || !within(angle, 0, CIRCLE - 1)) {
            return INVALID_ARGUMENT;
        }
        return shown.covers(angle) ? shown.columnOf(angle) : NONE;
    }

    private int countLit() {
        int lit = 0;
        for (int angle = 0; angle < CIRCLE; angle++) {
            lit += Long.bitCount(notDark(now.litAt(angle, 0)));
        }
        return lit;
    }

    private int countNotAsWanted() {
        int different = 0;
        for (int angle = 0; angle < CIRCLE; angle++) {
            different += Long.bitCount(notDark(now.litAt(angle, 0) ^ now.wantedAt(angle)));
        }
        return different;
    }

    private int ticksSinceWritten(int angle, int light) {
        int tick = now.writtenIn[angle * LIGHTS + light];
        return tick == 0 ? NONE : now.ticks - tick;
    }

    // ---- questions, which change nothing

    public int ticksAround() {
        sweep.prepare(now);
        sweep.start(now, now.settings[WANTED_SPEED]);
        int gone = 0;
        for (int ticks = 1; ticks <= 500; ticks++) {
            sweep.goOn(1);
            gone += Math.abs(sweep.speed);
            if (gone >= CIRCLE) {
                return ticks;
            }
        }
        return NONE;
    }

    public int gaps(int ticks) {
        if (!within(ticks, 0, 200)) {
            return INVALID_ARGUMENT;
        }
        sweep.prepare(now);
        sweep.start(now, now.settings[WANTED_SPEED]);
        sweep.goOn(ticks);
        int unwritten = 0;
        for (int angle = 0; angle < CIRCLE; angle++) {
            boolean written = sweep.firstArmAt(angle) > 0 || sweep.secondArmAt(angle) > 0;
            if (!written && now.isCoveredAt(angle)) {
                unwritten++;
            }
        }
        return unwritten;
    }

    public int bestSpeed(int ticks) {
        if (!within(ticks, 1, 40)) {
            return INVALID_ARGUMENT;
        }
        sweep.prepare(now);
        for (int angle = 0; angle < CIRCLE; angle++) {
            rightAlone[angle] = ALL_LIGHTS & ~notDark(now.litAt(angle, ticks) ^ sweep.wanted[angle]);
        }
        int best = LOWEST[WANTED_SPEED];
        int most = -1;
        for (int speed = LOWEST[WANTED_SPEED]; speed <= HIGHEST[WANTED_SPEED]; speed += 10) {
            sweep.start(now, speed);
            sweep.goOn(ticks);
            int right = countRight(ticks);
            if (right > most) {
                most = right;
                best = speed;
            }
        }
        return best;
    }

    public int meetings(int picture, int other) {
        Picture one = now.pictureNumbered(picture);
        Picture another = now.pictureNumbered(other);
        if (one == null || another == null || picture == other) {
            return INVALID_ARGUMENT;
        }
        int places = 0;
        for (int angle = 0; angle < CIRCLE; angle++) {
            places += Long.bitCount(notDark(one.wantedAt(angle)) & notDark(another.wantedAt(angle)));
        }
        return places;
    }

    /**
     * How many places have the wanted color behind the ticks that the sweep has gone. What the sweep wrote and
     * still glows has it. All else is as if left alone: where the sweep's color is dark again, an older one is too.
     */
    private int countRight(int ticks) {
        int stale = Math.max(0, ticks - now.settings[GLOW]);
        int right = 0;
        for (int angle = 0; angle < CIRCLE; angle++) {
            long byFirst = sweep.firstArmAt(angle) > stale ? now.working[0] : 0L;
            long bySecond = sweep.secondArmAt(angle) > stale ? now.working[1] : 0L;
            right += Long.bitCount(byFirst | bySecond | rightAlone[angle]);
        }
        return right;
    }

    private static boolean within(int value, int lowest, int highest) {
        return value >= lowest && value <= highest;
    }

    private static int colorIn(long colors, int light) {
        return (int) (colors >> (light * BITS)) & COLOR;
    }

    private static long withColor(long colors, int light, int color) {
        int shift = light * BITS;
        return (colors & ~((long) COLOR << shift)) | ((long) color << shift);
    }

    /** The set of the lights whose color is not dark. */
    private static long notDark(long colors) {
        return (colors | (colors >> 1) | (colors >> 2)) & ALL_LIGHTS;
    }

    private static final class Picture {
        int width = 1;
        int first = 0;
        int step = 6;
        int kind = 0;
        final long[] columns = new long[MOST_COLUMNS];

        void copyFrom(Picture other) {
            width = other.width;
            first = other.first;
            step = other.step;
            kind = other.kind;
            System.arraycopy(other.columns, 0, columns, 0, MOST_COLUMNS);
        }

        int coveredAngles() {
            return Math.min(CIRCLE, width * step);
        }

        boolean covers(int angle) {
            return Math.floorMod(angle - first, CIRCLE) < coveredAngles();
        }

        /** For an angle that the picture covers. */
        int columnOf(int angle) {
            int column = Math.floorMod(angle - first, CIRCLE) / step;
            return kind == MIRRORED ? width - 1 - column : column;
        }

        /** What this picture alone wants at an angle; dark if it is off or does not cover it. */
        long wantedAt(int angle) {
            return kind != OFF && covers(angle) ? columns[columnOf(angle)] : 0L;
        }

        int countNotDark() {
            int colors = 0;
            for (int column = 0; column < width; column++) {
                colors += Long.bitCount(notDark(columns[column]));
            }
            return colors;
        }
    }

    /** All that the history keeps. */
    private static final class State {
        int pictureCount = 0;
        final Picture[] pictures = new Picture[MOST_PICTURES];
        int angle = 0;
        int speed = 10;
        int ticks = 0;
        int load = 0;
        int secondArm = 0;
        final int[] settings = {10, 5, 9999, 20};
        final long[] working = {ALL_LIGHTS, ALL_LIGHTS};
        final long[] written = new long[CIRCLE];
        // By angle * LIGHTS + light: the tick, counted from 1, that wrote there last, 0 if none did.
        final int[] writtenIn = new int[CIRCLE * LIGHTS];

        State() {
            for (int i = 0; i < MOST_PICTURES; i++) {
                pictures[i] = new Picture();
            }
        }

        void copyFrom(State other) {
            pictureCount = other.pictureCount;
            for (int i = 0; i < MOST_PICTURES; i++) {
                pictures[i].copyFrom(other.pictures[i]);
            }
            angle = other.angle;
            speed = other.speed;
            ticks = other.ticks;
            load = other.load;
            secondArm = other.secondArm;
            System.arraycopy(other.settings, 0, settings, 0, SETTINGS);
            System.arraycopy(other.working, 0, working, 0, 2);
            System.arraycopy(other.written, 0, written, 0, CIRCLE);
            System.arraycopy(other.writtenIn, 0, writtenIn, 0, CIRCLE * LIGHTS);
        }

        /** The picture with a number, or null if there is none. */
        Picture pictureNumbered(int number) {
            return within(number, 0, pictureCount - 1) ? pictures[number] : null;
        }

        boolean works(int arm, int light) {
            return ((working[arm] >> (light * BITS)) & 1L) != 0L;
        }

        long wantedAt(int at) {
            long wanted = 0L;
            for (int i = 0; i < pictureCount; i++) {
                wanted |= pictures[i].wantedAt(at);
            }
            return wanted;
        }

        /** Whether a picture that is not off covers the angle, be it dark there or not. */
        boolean isCoveredAt(int at) {
            for (int i = 0; i < pictureCount; i++) {
                if (pictures[i].kind != OFF && pictures[i].covers(at)) {
                    return true;
                }
            }
            return false;
        }

        /** The lit colors of an angle if some more ticks pass that do not write there. */
        long litAt(int at, int moreTicks) {
            int stale = Math.max(0, ticks + moreTicks - settings[GLOW]);
            long lit = 0L;
            for (int light = 0; light < LIGHTS; light++) {
                int tick = writtenIn[at * LIGHTS + light];
                if (tick > stale) {
                    lit |= written[at] & ((long) COLOR << (light * BITS));
                }
            }
            return lit;
        }

        /** Takes over all that the sweep has done. */
        void write(Sweep done) {
            for (int at = 0; at < CIRCLE; at++) {
                writeArm(0, at, done.wanted[at], done.firstArmAt(at));
                writeArm(1, at, done.wanted[at], done.secondArmAt(at));
            }
            angle = done.angle;
            speed = done.speed;
            load = done.load;
            ticks += done.ticks;
        }

        /** As both arms of a sweep write the same color at a place, only the later tick has to win. */
        private void writeArm(int arm, int at, long colors, int sweepTick) {
            if (sweepTick == 0) {
                return;
            }
            long mask = working[arm] * COLOR;
            written[at] = (written[at] & ~mask) | (colors & mask);
            for (int light = 0; light < LIGHTS; light++) {
                if (works(arm, light)) {
                    int place = at * LIGHTS + light;
                    writtenIn[place] = Math.max(writtenIn[place], ticks + sweepTick);
                }
            }
        }
    }

    /** The way of the bar through ticks to come, beside the state, which it does not change. */
    private static final class Sweep {
        final long[] wanted = new long[CIRCLE];
        // By the angle of the bar: the colors not dark that all arms write, and the sweep's last tick there, 0 if none.
        final int[] loadAt = new int[CIRCLE];
        final int[] passedIn = new int[CIRCLE];
        boolean secondArm;
        int power;
        int limit;
        int wantedSpeed;
        int angle;
        int speed;
        int load;
        int ticks;

        /** Takes from the state what is the same for every wanted speed. */
        void prepare(State state) {
            secondArm = state.secondArm == 1;
            power = state.settings[POWER];
            limit = state.settings[LIMIT];
            for (int at = 0; at < CIRCLE; at++) {
                wanted[at] = state.wantedAt(at);
            }
            for (int at = 0; at < CIRCLE; at++) {
                loadAt[at] = Long.bitCount(notDark(wanted[at]) & state.working[0]);
                if (secondArm) {
                    loadAt[at] += Long.bitCount(notDark(wanted[opposite(at)]) & state.working[1]);
                }
            }
        }

        void start(State state, int newWantedSpeed) {
            wantedSpeed = newWantedSpeed;
            angle = state.angle;
            speed = state.speed;
            load = state.load;
            ticks = 0;
            for (int at = 0; at < CIRCLE; at++) {
                passedIn[at] = 0;
            }
        }

        void goOn(int moreTicks) {
            for (int i = 0; i < moreTicks; i++) {
                ticks++;
                changeSpeed();
                turn();
            }
        }

        private void changeSpeed() {
            int most = load > limit ? power / 2 : power;
            speed += Math.max(-most, Math.min(most, wantedSpeed - speed));
        }

        private void turn() {
            int direction = speed > 0 ? 1 : -1;
            load = 0;
            for (int left = Math.abs(speed); left > 0; left--) {
                angle = Math.floorMod(angle + direction, CIRCLE);
                passedIn[angle] = ticks;
                load += loadAt[angle];
            }
        }

        /** The last tick of the sweep in which the first arm was at an angle, 0 if none. */
        int firstArmAt(int at) {
            return passedIn[at];
        }

        /** The same for the second arm, 0 too while it is off. */
        int secondArmAt(int at) {
            return secondArm ? passedIn[opposite(at)] : 0;
        }

        private static int opposite(int at) {
            return (at + HALF_CIRCLE) % CIRCLE;
        }
    }

    /** Reads a text as columns, character by character. */
    private static final class Reader {
        private static final int PART = 0;
        private static final int NUMBER = 1;
        private static final int MORE_NUMBER = 2;
        private static final int BRACKET = 3;
        private static final int PART_COLOR = 4;

        final long[] columns = new long[MOST_COLUMNS];
        int columnCount;
        private int awaited;
        private int told;
        private int number;
        private int numberStart;

        /** Returns the error position, or -1 if the text has no error. */
        int read(char[] text, int length) {
            columnCount = 1;
            awaited = PART;
            told = 0;
            for (int column = 0; column < MOST_COLUMNS; column++) {
                columns[column] = 0L;
            }
            for (int at = 0; at < length && at < text.length; at++) {
                int error = take(text[at], at);
                if (error >= 0) {
                    return error;
                }
            }
            return awaited == PART ? -1 : length;
        }

        private int take(char character, int at) {
            if (character == ' ') {
                if (awaited == MORE_NUMBER) {
                    awaited = BRACKET;
                }
                return -1;
            }
            switch (awaited) {
                case NUMBER:
                    numberStart = at;
                    number = 0;
                    return takeDigit(character, at);
                case MORE_NUMBER:
                    return character == ')' ? takeBracket(character, at) : takeDigit(character, at);
                case BRACKET:
                    return takeBracket(character, at);
                case PART_COLOR:
                    return takeColor(character, at, number);
                default:
                    return takePart(character, at);
            }
        }

        private int takePart(char character, int at) {
            if (character == ';') {
                return takeSemicolon(at);
            }
            if (character == '(') {
                awaited = NUMBER;
                return -1;
            }
            return takeColor(character, at, 1);
        }

        private int takeSemicolon(int at) {
            if (columnCount >= MOST_COLUMNS) {
                return at;
            }
            columnCount++;
            told = 0;
            return -1;
        }

        /** A number that is too great, or 0 in front, stays wrong whatever follows: so each digit can tell. */
        private int takeDigit(char character, int at) {
            if (character < '0' || character > '9') {
                return at;
            }
            number = number * 10 + (character - '0');
            if (number < 1 || told + number > LIGHTS) {
                return numberStart;
            }
            awaited = MORE_NUMBER;
            return -1;
        }

        private int takeBracket(char character, int at) {
            if (character != ')') {
                return at;
            }
            awaited = PART_COLOR;
            return -1;
        }

        private int takeColor(char character, int at, int lights) {
            if (character < '0' || character > '7' || told + lights > LIGHTS) {
                return at;
            }
            int color = character - '0';
            for (int i = 0; i < lights; i++) {
                columns[columnCount - 1] = withColor(columns[columnCount - 1], told, color);
                told++;
            }
            awaited = PART;
            return -1;
        }
    }
}
