/** Promises 1 to 8: a new object, pictures and their text. */
public final class PicturesTest {
    private static final Check CHECK = new Check();
    private static final int WRONG = LightWheel.INVALID_ARGUMENT;

    public static void main(String[] args) {
        aNewObject();
        addPicture();
        paint();
        setPlace();
        setKind();
        append();
        clearText();
        loadTakesOver();
        loadReadsParts();
        loadTellsErrors();
        loadBeginsAnew();
        CHECK.end();
    }

    /** Promise 1. */
    private static void aNewObject() {
        LightWheel x = new LightWheel();
        int[] counts = {0, 0, 10, 0, 0, 0, 0, 0, 0, 0};
        for (int what = 0; what < counts.length; what++) {
            CHECK.due("new: count(" + what + ")", x.count(what), counts[what]);
        }
        int[] settings = {10, 5, 9999, 20};
        for (int what = 0; what < settings.length; what++) {
            CHECK.due("new: setting(" + what + ")", x.setting(what), settings[what]);
        }
        for (int light = 0; light < 12; light++) {
            CHECK.due("new: broken(0, " + light + ")", x.broken(0, light), 0);
            CHECK.due("new: broken(1, " + light + ")", x.broken(1, light), 0);
        }
        CHECK.due("new: picture(0, 0)", x.picture(0, 0), WRONG);
        CHECK.due("new: undo()", x.undo(), LightWheel.ILLEGAL_STATE);
        for (int angle = 0; angle < 720; angle++) {
            LightWheel y = new LightWheel();
            for (int light = 0; light < 12; light++) {
                CHECK.due("new: place(" + angle + ", " + light + ", 0)", y.place(angle, light, 0), 0);
                CHECK.due("new: place(" + angle + ", " + light + ", 1)", y.place(angle, light, 1), 0);
                CHECK.due("new: place(" + angle + ", " + light + ", 2)", y.place(angle, light, 2), LightWheel.NONE);
            }
        }
    }

    /** Promise 2. */
    private static void addPicture() {
        LightWheel x = new LightWheel();
        CHECK.due("addPicture(0)", x.addPicture(0), WRONG);
        CHECK.due("addPicture(41)", x.addPicture(41), WRONG);
        CHECK.due("addPicture(least)", x.addPicture(Integer.MIN_VALUE), WRONG);
        CHECK.due("errors record nothing", x.count(8), 0);
        int[] widths = {1, 40, 7, 12};
        for (int i = 0; i < widths.length; i++) {
            CHECK.due("addPicture(" + widths[i] + ")", x.addPicture(widths[i]), i);
            int[] properties = {widths[i], 0, 6, 0, 0, widths[i] * 6};
            for (int what = 0; what < properties.length; what++) {
                CHECK.due("picture(" + i + ", " + what + ")", x.picture(i, what), properties[what]);
            }
        }
        CHECK.due("count(0)", x.count(0), 4);
        CHECK.due("a fifth picture", x.addPicture(5), LightWheel.CAPACITY_EXCEEDED);
        CHECK.due("a fifth picture of a wrong width", x.addPicture(41), WRONG);
        CHECK.due("states", x.count(8), 4);
        x.paint(3, 11, 11, 5);
        x.setPlace(3, 17, 3);
        x.setKind(3, 1);
        for (int i = 0; i < 4; i++) {
            x.undo();
        }
        CHECK.due("the fourth picture again", x.addPicture(12), 3);
        CHECK.due("it is dark", x.picture(3, 4), 0);
        CHECK.due("it begins at 0", x.picture(3, 1), 0);
        CHECK.due("its step", x.picture(3, 2), 6);
        CHECK.due("it is plain", x.picture(3, 3), 0);
    }

    /** Promise 3. */
    private static void paint() {
        LightWheel x = new LightWheel();
        CHECK.due("paint without pictures", x.paint(0, 0, 0, 1), WRONG);
        x.addPicture(3);
        int[][] wrong = {{-1, 0, 0, 1}, {1, 0, 0, 1}, {0, -1, 0, 1}, {0, 3, 0, 1}, {0, 0, -1, 1}, {0, 0, 12, 1},
            {0, 0, 0, -1}, {0, 0, 0, 8}};
        for (int[] w : wrong) {
            CHECK.due("wrong paint", x.paint(w[0], w[1], w[2], w[3]), WRONG);
        }
        CHECK.due("errors record nothing", x.count(8), 1);
        CHECK.due("paint(0, 2, 11, 7)", x.paint(0, 2, 11, 7), 0);
        CHECK.due("paint(0, 2, 11, 0)", x.paint(0, 2, 11, 0), 7);
        CHECK.due("paint(0, 2, 11, 5)", x.paint(0, 2, 11, 5), 0);
        CHECK.due("paint(0, 2, 10, 2)", x.paint(0, 2, 10, 2), 0);
        CHECK.due("color(0, 2, 11)", x.color(0, 2, 11), 5);
        CHECK.due("color(0, 2, 10)", x.color(0, 2, 10), 2);
        CHECK.due("color(0, 2, 9)", x.color(0, 2, 9), 0);
        CHECK.due("color(0, 1, 11)", x.color(0, 1, 11), 0);
        x.paint(0, 2, 10, 2);
        x.undo();
        CHECK.due("the same color again is an action too", x.count(8), 4);
    }

    /** Promise 4. */
    private static void setPlace() {
        LightWheel x = new LightWheel();
        x.addPicture(2);
        int[][] wrong = {{-1, 0, 1}, {1, 0, 1}, {0, -1, 1}, {0, 720, 1}, {0, 0, 0}, {0, 0, 19}};
        for (int[] w : wrong) {
            CHECK.due("wrong setPlace", x.setPlace(w[0], w[1], w[2]), WRONG);
        }
        CHECK.due("errors record nothing", x.count(8), 1);
        CHECK.due("setPlace(0, 719, 18)", x.setPlace(0, 719, 18), 0);
        CHECK.due("first", x.picture(0, 1), 719);
        CHECK.due("step", x.picture(0, 2), 18);
        CHECK.due("setPlace(0, 0, 1)", x.setPlace(0, 0, 1), 719);
        CHECK.due("first", x.picture(0, 1), 0);
        CHECK.due("step", x.picture(0, 2), 1);
        CHECK.due("states", x.count(8), 3);
    }

    /** Promise 5. */
    private static void setKind() {
        LightWheel x = new LightWheel();
        x.addPicture(2);
        CHECK.due("setKind(-1, 0)", x.setKind(-1, 0), WRONG);
        CHECK.due("setKind(1, 0)", x.setKind(1, 0), WRONG);
        CHECK.due("setKind(0, -1)", x.setKind(0, -1), WRONG);
        CHECK.due("setKind(0, 3)", x.setKind(0, 3), WRONG);
        CHECK.due("errors record nothing", x.count(8), 1);
        CHECK.due("setKind(0, 1)", x.setKind(0, 1), 0);
        CHECK.due("setKind(0, 2)", x.setKind(0, 2), 1);
        CHECK.due("setKind(0, 0)", x.setKind(0, 0), 2);
        CHECK.due("kind", x.picture(0, 3), 0);
        CHECK.due("states", x.count(8), 4);
    }

    /** Promise 6. */
    private static void append() {
        LightWheel x = new LightWheel();
        CHECK.due("append(0)", x.append(0), WRONG);
        CHECK.due("append(256)", x.append(256), WRONG);
        CHECK.due("append(-1)", x.append(-1), WRONG);
        for (int i = 1; i <= 160; i++) {
            CHECK.due("append " + i, x.append(i == 1 ? 1 : 255), i);
        }
        CHECK.due("append to a full text", x.append(49), LightWheel.CAPACITY_EXCEEDED);
        CHECK.due("wrong append to a full text", x.append(256), WRONG);
        CHECK.due("count(9)", x.count(9), 160);
        CHECK.due("append is no action", x.count(8), 0);
        x.addPicture(1);
        CHECK.due("character 1 is not allowed", x.load(0), -1000);
    }

    /** Promise 7. */
    private static void clearText() {
        LightWheel x = new LightWheel();
        CHECK.due("clearText() of an empty text", x.clearText(), 0);
        Check.type(x, "123");
        CHECK.due("clearText()", x.clearText(), 3);
        CHECK.due("count(9)", x.count(9), 0);
        CHECK.due("append after clearText", x.append(49), 1);
        CHECK.due("clearText is no action", x.count(8), 0);
    }

    /** Promise 8: what becomes of the picture and the text. */
    private static void loadTakesOver() {
        LightWheel x = new LightWheel();
        Check.type(x, "9");
        CHECK.due("load without pictures, with an error in the text", x.load(0), WRONG);
        x.clearText();
        x.addPicture(3);
        x.paint(0, 2, 5, 6);
        x.setPlace(0, 100, 4);
        x.setKind(0, 1);
        CHECK.due("load(-1)", x.load(-1), WRONG);
        CHECK.due("load(1)", x.load(1), WRONG);
        Check.type(x, "12;;8");
        CHECK.due("load(0)", x.load(0), -1004);
        CHECK.due("the text is kept", x.count(9), 5);
        CHECK.due("the width is kept", x.picture(0, 0), 3);
        CHECK.due("the colors are kept", x.color(0, 2, 5), 6);
        CHECK.due("no state is recorded", x.count(8), 4);
        x.clearText();
        Check.type(x, "12;;(3)7");
        CHECK.due("load(0)", x.load(0), 3);
        CHECK.due("the text is empty", x.count(9), 0);
        CHECK.due("a state is recorded", x.count(8), 5);
        CHECK.due("first", x.picture(0, 1), 100);
        CHECK.due("step", x.picture(0, 2), 4);
        CHECK.due("kind", x.picture(0, 3), 1);
        CHECK.due("what was painted is gone", x.color(0, 2, 5), 0);
        CHECK.due("color(0, 0, 1)", x.color(0, 0, 1), 2);
        CHECK.due("color(0, 2, 2)", x.color(0, 2, 2), 7);
        CHECK.due("colors", x.picture(0, 4), 5);
        x.undo();
        CHECK.due("undone", x.color(0, 2, 5), 6);
        CHECK.due("the text is no part of the state", x.count(9), 0);
        CHECK.due("an empty text is a dark column", x.load(0), 1);
        CHECK.due("width", x.picture(0, 0), 1);
        CHECK.due("colors", x.picture(0, 4), 0);
    }

    /** Promise 8: what a text says. */
    private static void loadReadsParts() {
        LightWheel x = new LightWheel();
        x.addPicture(1);
        colorsOf(x, "  ", "000000000000");
        colorsOf(x, "0123456", "012345600000");
        colorsOf(x, "(12)7", "777777777777");
        colorsOf(x, "(1)1(2)2(3)3(6)4", "122333444444");
        colorsOf(x, " ( 2 ) 5 6 ", "556000000000");
        colorsOf(x, "11111111111(1)2", "111111111112");
        colorsOf(x, "(9)00", "000000000000");
        colorsOf(x, "(10)32", "333333333320");
        Check.type(x, ";".repeat(38) + ";(12)1");
        CHECK.due("40 columns", x.load(0), 40);
        CHECK.due("the last column", x.color(0, 39, 11), 1);
        Check.type(x, " ; 7; ");
        CHECK.due("three columns", x.load(0), 3);
        CHECK.due("the last column is gone", x.color(0, 39, 11), LightWheel.NONE);
        CHECK.due("colors", x.picture(0, 4), 1);
        CHECK.due("color(0, 1, 0)", x.color(0, 1, 0), 7);
    }

    private static void colorsOf(LightWheel x, String text, String colors) {
        x.clearText();
        Check.type(x, text);
        CHECK.due("load \"" + text + "\"", x.load(0), 1);
        for (int light = 0; light < 12; light++) {
            CHECK.due("light " + light + " of \"" + text + "\"", x.color(0, 0, light), colors.charAt(light) - '0');
        }
    }

    /** Promise 8: error positions. */
    private static void loadTellsErrors() {
        errorAt("8", 0);
        errorAt("9", 0);
        errorAt(" x", 1);
        errorAt("12/", 2);
        errorAt("1:2", 1);
        errorAt(")", 0);
        errorAt("1)", 1);
        errorAt("(", 1);
        errorAt("( ", 2);
        errorAt("()1", 1);
        errorAt("((", 1);
        errorAt("(;", 1);
        errorAt("(0)1", 1);
        errorAt("( 0", 2);
        errorAt("(01)1", 1);
        errorAt("(13)1", 1);
        errorAt("(13", 1);
        errorAt("( 13x", 2);
        errorAt("(99999999999999999999)1", 1);
        errorAt("(12", 3);
        errorAt("(12x", 3);
        errorAt("(12;", 3);
        errorAt("(1 2)1", 3);
        errorAt("(1 ", 3);
        errorAt("(12)", 4);
        errorAt("(12) ", 5);
        errorAt("(2)8", 3);
        errorAt("(2);", 3);
        errorAt("(2)(", 3);
        errorAt("7777777777777", 12);
        errorAt("777777777777 8", 13);
        errorAt("(12)7 1", 6);
        errorAt("777777777777(", 13);
        errorAt("777777777777(1)1", 13);
        errorAt("777777777777( x", 14);
        errorAt("1(12)1", 2);
        errorAt("1(12x", 2);
        errorAt("1(11)22", 6);
        errorAt("123(10", 4);
        errorAt("11111(8", 6);
        errorAt("1;777777777777;7777777777777", 27);
        errorAt(";".repeat(40), 39);
        errorAt(";".repeat(39) + "1 ;8", 41);
        errorAt(";".repeat(39) + "8;", 39);
        errorAt("1" + (char) 160, 1);
    }

    /** Promise 8: a text that breaks off leaves no trace in the reading of the next one. */
    private static void loadBeginsAnew() {
        LightWheel x = new LightWheel();
        x.addPicture(1);
        for (String broken : new String[] {"77;7(", "7(1", "7(1 ", "77(3)", "(1x", "7777777777777"}) {
            x.clearText();
            Check.type(x, broken);
            CHECK.holds(broken + " is wrong", x.load(0) < -1000);
            colorsOf(x, "12", "120000000000");
        }
    }

    private static void errorAt(String text, int position) {
        LightWheel x = new LightWheel();
        x.addPicture(2);
        Check.type(x, text);
        CHECK.due("load \"" + text + "\"", x.load(0), -1000 - position);
        CHECK.due("the length of \"" + text + "\"", x.count(9), text.length());
        CHECK.due("states", x.count(8), 1);
    }
}
