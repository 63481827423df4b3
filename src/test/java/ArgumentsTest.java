/**
 * Promises 2 to 24, "Returns": each argument's range, just inside and just outside; each error that is named, and
 * of several the one that is listed first. Every refused call, and every call that looks or asks, has to leave the
 * wheel, its text and its history as they were.
 */
public final class ArgumentsTest {
    private static final Check CHECK = new Check();
    private static final int WRONG = LightWheel.INVALID_ARGUMENT;
    private static final int FULL = LightWheel.CAPACITY_EXCEEDED;
    private static final int EMPTY = LightWheel.ILLEGAL_STATE;
    private static final int NONE = LightWheel.NONE;

    public static void main(String[] args) {
        withoutPictures();
        withSomePictures();
        addPicture();
        paint();
        setPlace();
        setKind();
        append();
        appendToALongText();
        load();
        setSecondArm();
        setBroken();
        set();
        run();
        runToTheLastTick();
        undo();
        count();
        setting();
        picture();
        color();
        broken();
        place();
        columnAt();
        ticksAround();
        gaps();
        bestSpeed();
        meetings();
        CHECK.end();
    }

    private static Scene busy() {
        return new Scene(CHECK, "a busy wheel", Scene::busy);
    }

    private static Scene withPictures(int pictures) {
        return new Scene(CHECK, pictures + " pictures", x -> {
            for (int i = 0; i < pictures; i++) {
                x.addPicture(5 + i);
            }
            x.run(3);
        });
    }

    /** "a picture": without one, no number names one. */
    private static void withoutPictures() {
        Scene scene = withPictures(0);
        for (int p : new int[] {-1, 0, 1, 3, 4}) {
            scene.refuses("paint(" + p + ", 0, 0, 1)", WRONG, x -> x.paint(p, 0, 0, 1));
            scene.refuses("setPlace(" + p + ", 0, 1)", WRONG, x -> x.setPlace(p, 0, 1));
            scene.refuses("setKind(" + p + ", 1)", WRONG, x -> x.setKind(p, 1));
            scene.refuses("load(" + p + ")", WRONG, x -> x.load(p));
            scene.refuses("picture(" + p + ", 0)", WRONG, x -> x.picture(p, 0));
            scene.refuses("color(" + p + ", 0, 0)", WRONG, x -> x.color(p, 0, 0));
            scene.refuses("columnAt(" + p + ", 0)", WRONG, x -> x.columnAt(p, 0));
            scene.refuses("meetings(" + p + ", 1)", WRONG, x -> x.meetings(p, 1));
        }
        scene.end();
    }

    /** "a picture": the numbers from 0 up to that of the last one. */
    private static void withSomePictures() {
        for (int pictures = 1; pictures <= 4; pictures++) {
            int last = pictures - 1;
            Scene scene = withPictures(pictures);
            scene.range("paint(#, 0, 0, 1)", 0, last, (x, p) -> x.paint(p, 0, 0, 1));
            scene.range("setPlace(#, 0, 1)", 0, last, (x, p) -> x.setPlace(p, 0, 1));
            scene.range("setKind(#, 1)", 0, last, (x, p) -> x.setKind(p, 1));
            scene.range("load(#)", 0, last, LightWheel::load);
            scene.rangeOfLook("picture(#, 0)", 0, last, (x, p) -> x.picture(p, 0));
            scene.rangeOfLook("color(#, 0, 0)", 0, last, (x, p) -> x.color(p, 0, 0));
            scene.rangeOfLook("columnAt(#, 0)", 0, last, (x, p) -> x.columnAt(p, 0));
            scene.end();
        }
    }

    /** Promise 2: "1 to 40"; "CAPACITY_EXCEEDED if there are 4 pictures". */
    private static void addPicture() {
        Scene three = withPictures(3);
        three.range("addPicture(#)", 1, 40, LightWheel::addPicture);
        three.answers("the fourth picture", 3, x -> x.addPicture(1));
        three.answers("its width", 1, x -> x.picture(x.addPicture(1), 0));
        three.answers("its width", 40, x -> x.picture(x.addPicture(40), 0));
        three.end();
        Scene four = withPictures(4);
        four.refuses("addPicture(1)", FULL, x -> x.addPicture(1));
        four.refuses("addPicture(40)", FULL, x -> x.addPicture(40));
        four.refuses("addPicture(0)", WRONG, x -> x.addPicture(0));
        four.refuses("addPicture(41)", WRONG, x -> x.addPicture(41));
        four.end();
        Scene busy = busy();
        busy.range("addPicture(#)", 1, 40, LightWheel::addPicture);
        busy.end();
    }

    /** Promise 3. */
    private static void paint() {
        Scene scene = busy();
        scene.range("paint(#, 0, 0, 1)", 0, 1, (x, p) -> x.paint(p, 0, 0, 1));
        scene.range("paint(0, #, 0, 1)", 0, 2, (x, column) -> x.paint(0, column, 0, 1));
        scene.range("paint(1, #, 0, 1)", 0, 39, (x, column) -> x.paint(1, column, 0, 1));
        scene.range("paint(0, 0, #, 1)", 0, 11, (x, light) -> x.paint(0, 0, light, 1));
        scene.range("paint(0, 0, 0, #)", 0, 7, (x, color) -> x.paint(0, 0, 0, color));
        scene.end();
        Scene narrow = new Scene(CHECK, "a picture of one column", x -> x.addPicture(1));
        narrow.range("paint(0, #, 11, 7)", 0, 0, (x, column) -> x.paint(0, column, 11, 7));
        narrow.end();
        Scene loaded = new Scene(CHECK, "a picture that a text made narrower", x -> {
            x.addPicture(40);
            Check.type(x, "1;2");
            x.load(0);
        });
        loaded.range("paint(0, #, 0, 3)", 0, 1, (x, column) -> x.paint(0, column, 0, 3));
        loaded.end();
    }

    /** Promise 4. */
    private static void setPlace() {
        Scene scene = busy();
        scene.range("setPlace(#, 5, 5)", 0, 1, (x, p) -> x.setPlace(p, 5, 5));
        scene.range("setPlace(1, #, 5)", 0, 719, (x, first) -> x.setPlace(1, first, 5));
        scene.range("setPlace(1, 5, #)", 1, 18, (x, step) -> x.setPlace(1, 5, step));
        scene.end();
    }

    /** Promise 5. */
    private static void setKind() {
        Scene scene = busy();
        scene.range("setKind(#, 2)", 0, 1, (x, p) -> x.setKind(p, 2));
        scene.range("setKind(0, #)", 0, 2, (x, kind) -> x.setKind(0, kind));
        scene.end();
    }

    /** Promise 6: "1 to 255". */
    private static void append() {
        Scene scene = busy();
        scene.range("append(#)", 1, 255, LightWheel::append);
        scene.answers("append(1)", 6, x -> x.append(1));
        scene.answers("append(255)", 6, x -> x.append(255));
        scene.end();
    }

    /** Promise 6: "CAPACITY_EXCEEDED if the text already has 160 characters". */
    private static void appendToALongText() {
        Scene almost = new Scene(CHECK, "159 characters", x -> Check.type(x, "1".repeat(159)));
        almost.answers("append(49)", 160, x -> x.append(49));
        almost.refuses("append(0)", WRONG, x -> x.append(0));
        almost.end();
        Scene full = new Scene(CHECK, "160 characters", x -> Check.type(x, "1".repeat(160)));
        full.refuses("append(49)", FULL, x -> x.append(49));
        full.refuses("append(1)", FULL, x -> x.append(1));
        full.refuses("append(255)", FULL, x -> x.append(255));
        full.refuses("append(0)", WRONG, x -> x.append(0));
        full.refuses("append(256)", WRONG, x -> x.append(256));
        full.answers("clearText()", 160, LightWheel::clearText);
        full.end();
    }

    /** Promise 8: the text of a busy wheel ends where a bracket is missing. */
    private static void load() {
        Scene scene = busy();
        scene.refuses("load(0)", -1005, x -> x.load(0));
        scene.refuses("load(1)", -1005, x -> x.load(1));
        scene.refuses("load(2): no picture comes first", WRONG, x -> x.load(2));
        scene.refuses("load(-1)", WRONG, x -> x.load(-1));
        scene.end();
    }

    /** Promise 9. */
    private static void setSecondArm() {
        Scene scene = busy();
        scene.range("setSecondArm(#)", 0, 1, LightWheel::setSecondArm);
        scene.end();
    }

    /** Promise 10. */
    private static void setBroken() {
        Scene scene = busy();
        scene.range("setBroken(#, 5, 1)", 0, 1, (x, arm) -> x.setBroken(arm, 5, 1));
        scene.range("setBroken(0, #, 1)", 0, 11, (x, light) -> x.setBroken(0, light, 1));
        scene.range("setBroken(1, #, 1)", 0, 11, (x, light) -> x.setBroken(1, light, 1));
        scene.range("setBroken(0, 5, #)", 0, 1, (x, broken) -> x.setBroken(0, 5, broken));
        scene.end();
    }

    /** Promise 11, and the ranges of the settings in "Writing" and "Speed". */
    private static void set() {
        int[][] ranges = {{-60, 60}, {1, 20}, {1, 9999}, {1, 99}};
        Scene scene = busy();
        scene.range("set(#, 1)", 0, 3, (x, what) -> x.set(what, 1));
        for (int i = 0; i < ranges.length; i++) {
            int what = i;
            scene.range("set(" + what + ", #)", ranges[i][0], ranges[i][1], (x, value) -> x.set(what, value));
            for (int value : ranges[i]) {
                scene.answers("setting " + what + " of " + value, value, x -> {
                    x.set(what, value);
                    return x.setting(what);
                });
            }
        }
        scene.refuses("set(1, -60)", WRONG, x -> x.set(1, -60));
        scene.refuses("set(3, 9999)", WRONG, x -> x.set(3, 9999));
        scene.refuses("set(0, 9999)", WRONG, x -> x.set(0, 9999));
        scene.end();
    }

    /** Promise 12: "1 to 100". */
    private static void run() {
        Scene scene = busy();
        scene.range("run(#)", 1, 100, LightWheel::run);
        scene.end();
    }

    /** Promise 12: "CAPACITY_EXCEEDED if there would be more than 5000 ticks in all". */
    private static void runToTheLastTick() {
        Scene late = new Scene(CHECK, "4950 ticks", x -> passTicks(x, 4950));
        late.answers("50 ticks more", 5000, x -> {
            x.run(50);
            return x.count(3);
        });
        late.refuses("run(51)", FULL, x -> x.run(51));
        late.refuses("run(100)", FULL, x -> x.run(100));
        late.refuses("run(0)", WRONG, x -> x.run(0));
        late.refuses("run(101)", WRONG, x -> x.run(101));
        late.end();
        Scene last = new Scene(CHECK, "5000 ticks", x -> passTicks(x, 5000));
        last.refuses("run(1)", FULL, x -> x.run(1));
        last.refuses("run(100)", FULL, x -> x.run(100));
        last.refuses("run(0)", WRONG, x -> x.run(0));
        last.refuses("run(101)", WRONG, x -> x.run(101));
        last.refuses("run(greatest)", WRONG, x -> x.run(Integer.MAX_VALUE));
        last.end();
    }

    private static void passTicks(LightWheel x, int ticks) {
        Scene.busy(x);
        for (int left = ticks - x.count(3); left > 0; left -= 100) {
            x.run(Math.min(100, left));
        }
    }

    /** Promise 13: "ILLEGAL_STATE if it is empty". */
    private static void undo() {
        Scene fresh = new Scene(CHECK, "a new wheel", x -> Check.type(x, "12"));
        fresh.refuses("undo()", EMPTY, LightWheel::undo);
        fresh.end();
        Scene one = new Scene(CHECK, "one state", x -> x.addPicture(7));
        one.answers("undo()", 0, LightWheel::undo);
        Scene undone = new Scene(CHECK, "all undone", x -> {
            Scene.busy(x);
            for (int i = 0; i < 5; i++) {
                x.undo();
            }
        });
        undone.refuses("undo()", EMPTY, LightWheel::undo);
        undone.end();
    }

    /** Promise 14. */
    private static void count() {
        Scene scene = busy();
        scene.rangeOfLook("count(#)", 0, 9, LightWheel::count);
        for (int i = 1; i < 9; i++) {
            int what = i;
            scene.keeps("count(" + what + ")", x -> x.count(what));
        }
        scene.end();
    }

    /** Promise 15. */
    private static void setting() {
        Scene scene = busy();
        scene.rangeOfLook("setting(#)", 0, 3, LightWheel::setting);
        scene.end();
    }

    /** Promise 16. */
    private static void picture() {
        Scene scene = busy();
        scene.rangeOfLook("picture(#, 5)", 0, 1, (x, p) -> x.picture(p, 5));
        scene.rangeOfLook("picture(1, #)", 0, 5, (x, what) -> x.picture(1, what));
        scene.end();
    }

    /** Promise 17: "0 to 39"; "NONE if the picture has not so many columns", behind every error. */
    private static void color() {
        Scene scene = busy();
        scene.rangeOfLook("color(#, 0, 0)", 0, 1, (x, p) -> x.color(p, 0, 0));
        scene.rangeOfLook("color(0, #, 0)", 0, 39, (x, column) -> x.color(0, column, 0));
        scene.rangeOfLook("color(1, #, 0)", 0, 39, (x, column) -> x.color(1, column, 0));
        scene.rangeOfLook("color(0, 2, #)", 0, 11, (x, light) -> x.color(0, 2, light));
        scene.answers("the last column", 7, x -> x.color(0, 2, 11));
        scene.refuses("the column behind it", NONE, x -> x.color(0, 3, 11));
        scene.refuses("color(0, 39, 11)", NONE, x -> x.color(0, 39, 11));
        scene.answers("the last column of 40", 5, x -> x.color(1, 39, 3));
        scene.refuses("color(0, 3, 12): no such light comes first", WRONG, x -> x.color(0, 3, 12));
        scene.refuses("color(0, 39, -1): no such light comes first", WRONG, x -> x.color(0, 39, -1));
        scene.refuses("color(2, 39, 0): no picture comes first", WRONG, x -> x.color(2, 39, 0));
        scene.refuses("color(0, 40, 12)", WRONG, x -> x.color(0, 40, 12));
        scene.end();
    }

    /** Promise 18. */
    private static void broken() {
        Scene scene = busy();
        scene.rangeOfLook("broken(#, 3)", 0, 1, (x, arm) -> x.broken(arm, 3));
        scene.rangeOfLook("broken(0, #)", 0, 11, (x, light) -> x.broken(0, light));
        scene.rangeOfLook("broken(1, #)", 0, 11, (x, light) -> x.broken(1, light));
        scene.end();
    }

    /** Promise 19: "NONE for 2 if nothing was written there yet", behind every error. */
    private static void place() {
        Scene scene = busy();
        scene.rangeOfLook("place(#, 0, 2)", 0, 719, (x, angle) -> x.place(angle, 0, 2));
        scene.rangeOfLook("place(0, #, 2)", 0, 11, (x, light) -> x.place(0, light, 2));
        scene.rangeOfLook("place(719, 11, #)", 0, 2, (x, what) -> x.place(719, 11, what));
        scene.end();
        Scene fresh = new Scene(CHECK, "a new wheel", x -> x.addPicture(1));
        fresh.rangeOfLook("place(#, 0, 0)", 0, 719, (x, angle) -> x.place(angle, 0, 0));
        fresh.refuses("place(0, 0, 2)", NONE, x -> x.place(0, 0, 2));
        fresh.refuses("place(719, 11, 2)", NONE, x -> x.place(719, 11, 2));
        fresh.answers("place(719, 11, 0)", 0, x -> x.place(719, 11, 0));
        fresh.answers("place(719, 11, 1)", 0, x -> x.place(719, 11, 1));
        fresh.refuses("place(720, 11, 2): no such angle comes first", WRONG, x -> x.place(720, 11, 2));
        fresh.refuses("place(-1, 11, 2): no such angle comes first", WRONG, x -> x.place(-1, 11, 2));
        fresh.refuses("place(0, 12, 2): no such light comes first", WRONG, x -> x.place(0, 12, 2));
        fresh.refuses("place(0, -1, 2): no such light comes first", WRONG, x -> x.place(0, -1, 2));
        fresh.end();
    }

    /** Promise 20: "NONE if the picture does not cover the angle", behind every error. */
    private static void columnAt() {
        Scene scene = busy();
        scene.rangeOfLook("columnAt(#, 40)", 0, 1, (x, p) -> x.columnAt(p, 40));
        scene.rangeOfLook("columnAt(0, #)", 0, 719, (x, angle) -> x.columnAt(0, angle));
        scene.rangeOfLook("columnAt(1, #)", 0, 719, (x, angle) -> x.columnAt(1, angle));
        scene.answers("the first angle", 0, x -> x.columnAt(0, 30));
        scene.answers("the last angle", 2, x -> x.columnAt(0, 62));
        scene.refuses("the angle ahead of them", NONE, x -> x.columnAt(0, 29));
        scene.refuses("the angle behind them", NONE, x -> x.columnAt(0, 63));
        scene.refuses("columnAt(2, 29): no picture comes first", WRONG, x -> x.columnAt(2, 29));
        scene.refuses("columnAt(0, 720 + 29)", WRONG, x -> x.columnAt(0, 720 + 29));
        scene.refuses("columnAt(0, 30 - 720)", WRONG, x -> x.columnAt(0, 30 - 720));
        scene.end();
    }

    /** Promise 21 has no argument; NONE or not, it changes nothing. */
    private static void ticksAround() {
        Scene scene = busy();
        scene.keeps("ticksAround()", LightWheel::ticksAround);
        scene.end();
        Scene still = new Scene(CHECK, "a bar that stands", x -> {
            Scene.busy(x);
            x.set(2, 9999);
            x.set(0, 0);
            x.run(20);
        });
        still.refuses("ticksAround()", NONE, LightWheel::ticksAround);
        still.end();
    }

    /** Promise 22. */
    private static void gaps() {
        Scene scene = busy();
        scene.rangeOfLook("gaps(#)", 0, 200, LightWheel::gaps);
        scene.end();
    }

    /** Promise 23. */
    private static void bestSpeed() {
        Scene scene = busy();
        scene.rangeOfLook("bestSpeed(#)", 1, 40, LightWheel::bestSpeed);
        scene.end();
    }

    /** Promise 24: "INVALID_ARGUMENT if an argument is out of range, or both are the same". */
    private static void meetings() {
        for (int pictures = 2; pictures <= 4; pictures++) {
            int last = pictures - 1;
            Scene scene = withPictures(pictures);
            for (int p : new int[] {Integer.MIN_VALUE, -1, pictures, 4, Integer.MAX_VALUE}) {
                scene.refuses("meetings(" + p + ", 0)", WRONG, x -> x.meetings(p, 0));
                scene.refuses("meetings(0, " + p + ")", WRONG, x -> x.meetings(0, p));
                scene.refuses("meetings(" + p + ", " + p + ")", WRONG, x -> x.meetings(p, p));
            }
            for (int i = 0; i < pictures; i++) {
                int p = i;
                scene.refuses("meetings(" + p + ", " + p + ")", WRONG, x -> x.meetings(p, p));
            }
            scene.answers("meetings(0, " + last + ")", 0, x -> x.meetings(0, last));
            scene.answers("meetings(" + last + ", 0)", 0, x -> x.meetings(last, 0));
            scene.keeps("meetings(0, " + last + ")", x -> x.meetings(0, last));
            scene.end();
        }
        Scene busy = busy();
        busy.refuses("meetings(0, 0)", WRONG, x -> x.meetings(0, 0));
        busy.refuses("meetings(1, 1)", WRONG, x -> x.meetings(1, 1));
        busy.keeps("meetings(0, 1)", x -> x.meetings(0, 1));
        busy.end();
    }
}
