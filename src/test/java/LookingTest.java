/** Promises 14 to 20: the calls that look. */
public final class LookingTest {
    private static final Check CHECK = new Check();
    private static final int WRONG = LightWheel.INVALID_ARGUMENT;
    private static final int NONE = LightWheel.NONE;

    public static void main(String[] args) {
        count();
        countOfLit();
        setting();
        picture();
        color();
        broken();
        placeWanted();
        placeLit();
        placeErrors();
        columnAt();
        lookingChangesNothing();
        CHECK.end();
    }

    /** Promise 14. */
    private static void count() {
        LightWheel x = new LightWheel();
        CHECK.due("count(-1)", x.count(-1), WRONG);
        CHECK.due("count(10)", x.count(10), WRONG);
        x.addPicture(2);
        x.addPicture(2);
        x.paint(0, 0, 0, 1);
        x.setSecondArm(1);
        x.set(0, 40);
        x.run(3);
        Check.type(x, "12345");
        int[] counts = {2, 60, 25, 3, 0, 5, 1, 1, 5, 5};
        for (int what = 0; what < counts.length; what++) {
            CHECK.due("count(" + what + ")", x.count(what), counts[what]);
        }
        x.setPlace(0, 72, 6);
        CHECK.due("count(4) is that of the last tick", x.count(4), 0);
        x.run(1);
        CHECK.due("count(4)", x.count(4), 6);
    }

    /** Promise 14: 5 and 6. */
    private static void countOfLit() {
        LightWheel x = new LightWheel();
        x.addPicture(2);
        x.paint(0, 0, 0, 1);
        x.paint(0, 1, 1, 6);
        CHECK.due("count(6): nothing is lit yet", x.count(6), 12);
        x.run(1);
        CHECK.due("count(5)", x.count(5), 10);
        CHECK.due("count(6): the angles 0 and 11", x.count(6), 2);
        x.paint(0, 0, 0, 3);
        CHECK.due("count(5): lit as before", x.count(5), 10);
        CHECK.due("count(6): another color", x.count(6), 7);
        x.setKind(0, 2);
        CHECK.due("count(6): lit, but wanted dark", x.count(6), 10);
        x.set(3, 1);
        CHECK.due("count(5): written 0 ticks ago", x.count(5), 10);
        x.run(1);
        CHECK.due("count(5): written 1 tick ago", x.count(5), 0);
        x.set(3, 2);
        CHECK.due("count(5): the glow as it is now", x.count(5), 10);
        LightWheel y = new LightWheel();
        y.addPicture(1);
        y.paint(0, 0, 0, 1);
        y.setPlace(0, 0, 1);
        CHECK.due("the load at the angle 0", y.run(72), 1);
        CHECK.due("count(5): the angle 0 alone", y.count(5), 1);
        CHECK.due("count(6): the angle 0 alone", y.count(6), 0);
        y.set(3, 1);
        CHECK.due("count(5): written 0 ticks ago, glow 1", y.count(5), 1);
        CHECK.due("count(6): written 0 ticks ago, glow 1", y.count(6), 0);
        y.run(1);
        CHECK.due("count(6): dark again", y.count(6), 1);
    }

    /** Promise 15. */
    private static void setting() {
        LightWheel x = new LightWheel();
        CHECK.due("setting(-1)", x.setting(-1), WRONG);
        CHECK.due("setting(4)", x.setting(4), WRONG);
        x.set(0, -7);
        x.set(1, 8);
        x.set(2, 90);
        x.set(3, 11);
        int[] settings = {-7, 8, 90, 11};
        for (int what = 0; what < settings.length; what++) {
            CHECK.due("setting(" + what + ")", x.setting(what), settings[what]);
        }
        x.run(1);
        CHECK.due("the wanted speed, not the speed", x.setting(0), -7);
    }

    /** Promise 16. */
    private static void picture() {
        LightWheel x = new LightWheel();
        CHECK.due("picture(0, 0)", x.picture(0, 0), WRONG);
        x.addPicture(3);
        x.addPicture(40);
        CHECK.due("picture(-1, 0)", x.picture(-1, 0), WRONG);
        CHECK.due("picture(2, 0)", x.picture(2, 0), WRONG);
        CHECK.due("picture(0, -1)", x.picture(0, -1), WRONG);
        CHECK.due("picture(0, 6)", x.picture(0, 6), WRONG);
        x.setPlace(1, 718, 17);
        x.setKind(1, 2);
        x.paint(1, 39, 0, 7);
        x.paint(1, 0, 11, 1);
        int[] properties = {40, 718, 17, 2, 2, 680};
        for (int what = 0; what < properties.length; what++) {
            CHECK.due("picture(1, " + what + ")", x.picture(1, what), properties[what]);
        }
        x.setPlace(1, 718, 18);
        CHECK.due("all around", x.picture(1, 5), 720);
        x.paint(1, 39, 0, 0);
        CHECK.due("colors", x.picture(1, 4), 1);
        CHECK.due("the other picture", x.picture(0, 5), 18);
        Check.type(x, ";".repeat(39));
        x.load(0);
        x.setPlace(0, 0, 18);
        CHECK.due("at most 720", x.picture(0, 5), 720);
    }

    /** Promise 17. */
    private static void color() {
        LightWheel x = new LightWheel();
        CHECK.due("color(0, 0, 0)", x.color(0, 0, 0), WRONG);
        x.addPicture(3);
        int[][] wrong = {{-1, 0, 0}, {1, 0, 0}, {0, -1, 0}, {0, 40, 0}, {0, 0, -1}, {0, 0, 12}, {0, 3, 12}};
        for (int[] w : wrong) {
            CHECK.due("wrong color", x.color(w[0], w[1], w[2]), WRONG);
        }
        CHECK.due("color(0, 3, 0)", x.color(0, 3, 0), NONE);
        CHECK.due("color(0, 39, 11)", x.color(0, 39, 11), NONE);
        for (int light = 0; light < 12; light++) {
            x.paint(0, 2, light, light % 8);
        }
        for (int light = 0; light < 12; light++) {
            CHECK.due("color(0, 2, " + light + ")", x.color(0, 2, light), light % 8);
            CHECK.due("color(0, 1, " + light + ")", x.color(0, 1, light), 0);
        }
    }

    /** Promise 18. */
    private static void broken() {
        LightWheel x = new LightWheel();
        int[][] wrong = {{-1, 0}, {2, 0}, {0, -1}, {0, 12}};
        for (int[] w : wrong) {
            CHECK.due("wrong broken", x.broken(w[0], w[1]), WRONG);
        }
        x.setBroken(0, 0, 1);
        x.setBroken(1, 11, 1);
        for (int light = 0; light < 12; light++) {
            CHECK.due("broken(0, " + light + ")", x.broken(0, light), light == 0 ? 1 : 0);
            CHECK.due("broken(1, " + light + ")", x.broken(1, light), light == 11 ? 1 : 0);
        }
    }

    /** Promise 19: the wanted color. */
    private static void placeWanted() {
        LightWheel x = new LightWheel();
        x.addPicture(2);
        x.addPicture(1);
        x.paint(0, 0, 4, 1);
        x.paint(0, 1, 4, 2);
        x.paint(1, 0, 4, 6);
        x.setPlace(0, 718, 3);
        x.setPlace(1, 2, 3);
        int[] colors = {1, 1, 1, 2, 2 | 6, 2 | 6, 6, 0};
        for (int i = 0; i < colors.length; i++) {
            int angle = (718 + i) % 720;
            CHECK.due("place(" + angle + ", 4, 0)", x.place(angle, 4, 0), colors[i]);
        }
        CHECK.due("place(717, 4, 0)", x.place(717, 4, 0), 0);
        x.paint(1, 0, 4, 5);
        CHECK.due("2 and 5", x.place(2, 4, 0), 7);
        CHECK.due("another light", x.place(2, 5, 0), 0);
        x.setKind(0, 1);
        CHECK.due("mirrored", x.place(718, 4, 0), 2);
        CHECK.due("1 and 5", x.place(2, 4, 0), 5);
        x.setKind(0, 2);
        CHECK.due("off", x.place(718, 4, 0), 0);
        CHECK.due("5 alone", x.place(2, 4, 0), 5);
    }

    /** Promise 19: the lit color and its age. */
    private static void placeLit() {
        LightWheel x = new LightWheel();
        x.addPicture(1);
        x.paint(0, 0, 2, 3);
        CHECK.due("not written", x.place(1, 2, 1), 0);
        CHECK.due("not written", x.place(1, 2, 2), NONE);
        x.run(1);
        CHECK.due("lit", x.place(1, 2, 1), 3);
        CHECK.due("written in the last tick", x.place(1, 2, 2), 0);
        CHECK.due("another light", x.place(1, 3, 1), 0);
        CHECK.due("the angle it began at", x.place(0, 2, 2), NONE);
        x.paint(0, 0, 2, 4);
        CHECK.due("lit as it was written", x.place(1, 2, 1), 3);
        x.run(19);
        CHECK.due("19 ticks ago, glow 20", x.place(1, 2, 1), 3);
        CHECK.due("age", x.place(1, 2, 2), 19);
        x.run(1);
        CHECK.due("20 ticks ago, glow 20", x.place(1, 2, 1), 0);
        CHECK.due("age", x.place(1, 2, 2), 20);
        x.set(3, 21);
        CHECK.due("20 ticks ago, glow 21", x.place(1, 2, 1), 3);
        x.run(52);
        CHECK.due("written again", x.place(1, 2, 1), 4);
        CHECK.due("age", x.place(1, 2, 2), 0);
    }

    /** Promise 19. */
    private static void placeErrors() {
        LightWheel x = new LightWheel();
        int[][] wrong = {{-1, 0, 0}, {720, 0, 0}, {0, -1, 0}, {0, 12, 0}, {0, 0, -1}, {0, 0, 3}, {720, 0, 2}};
        for (int[] w : wrong) {
            CHECK.due("wrong place", x.place(w[0], w[1], w[2]), WRONG);
        }
        CHECK.due("place(719, 11, 2)", x.place(719, 11, 2), NONE);
    }

    /** Promise 20. */
    private static void columnAt() {
        LightWheel x = new LightWheel();
        CHECK.due("columnAt(0, 0)", x.columnAt(0, 0), WRONG);
        x.addPicture(3);
        x.addPicture(40);
        int[][] wrong = {{-1, 0}, {2, 0}, {0, -1}, {0, 720}};
        for (int[] w : wrong) {
            CHECK.due("wrong columnAt", x.columnAt(w[0], w[1]), WRONG);
        }
        x.setPlace(0, 719, 2);
        int[] columns = {NONE, 0, 0, 1, 1, 2, 2, NONE};
        for (int kind = 0; kind < 3; kind++) {
            x.setKind(0, kind);
            for (int i = 0; i < columns.length; i++) {
                int due = columns[i] == NONE || kind != 1 ? columns[i] : 2 - columns[i];
                CHECK.due("columnAt, kind " + kind, x.columnAt(0, (718 + i) % 720), due);
            }
        }
        x.setPlace(1, 1, 18);
        CHECK.due("columnAt(1, 1)", x.columnAt(1, 1), 0);
        CHECK.due("columnAt(1, 0)", x.columnAt(1, 0), 39);
        x.setKind(1, 1);
        CHECK.due("columnAt(1, 0)", x.columnAt(1, 0), 0);
        CHECK.due("columnAt(1, 719)", x.columnAt(1, 719), 0);
        CHECK.due("columnAt(1, 1)", x.columnAt(1, 1), 39);
    }

    private static void lookingChangesNothing() {
        LightWheel x = new LightWheel();
        x.addPicture(2);
        x.paint(0, 1, 1, 1);
        x.run(1);
        for (int i = 0; i < 2; i++) {
            x.picture(0, 4);
            x.color(0, 1, 1);
            x.broken(0, 0);
            x.place(8, 1, 1);
            x.columnAt(0, 8);
            x.setting(0);
            int[] counts = {1, 10, 10, 1, 5, 5, 1, 0, 3, 0};
            for (int what = 0; what < counts.length; what++) {
                CHECK.due("count(" + what + ")", x.count(what), counts[what]);
            }
        }
    }
}
