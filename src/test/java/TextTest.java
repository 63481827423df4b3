/** The sentences of "Text", and promise 8: what a text says, and each error position, behind every character. */
public final class TextTest {
    private static final Check CHECK = new Check();
    private static final int FINE = -1;

    public static void main(String[] args) {
        anyCharacterWhereAPartMayStand();
        anyCharacterInBrackets();
        anyCharacterBehindBrackets();
        anyCharacterBehindTwelveLights();
        anyCharacterInTheLastColumn();
        emptyText();
        fortyColumns();
        numbers();
        numbersOutOfTheirRange();
        twelveLights();
        thirteenLights();
        spaces();
        endsTooEarly();
        theFirstErrorCounts();
        longestText();
        refusedTexts();
        takenText();
        CHECK.end();
    }

    /** Loads a text on a new wheel; due is the error position, or FINE. */
    private static LightWheel load(String text, int error) {
        LightWheel x = new LightWheel();
        x.addPicture(2);
        x.paint(0, 1, 11, 7);
        Check.type(x, text);
        int answer = x.load(0);
        if (error == FINE) {
            CHECK.due("\"" + text + "\"", answer, 1 + text.chars().filter(c -> c == ';').count());
            CHECK.due("\"" + text + "\": width", x.picture(0, 0), answer);
            CHECK.due("\"" + text + "\": the text becomes empty", x.count(9), 0);
            CHECK.due("\"" + text + "\": this is an action", x.count(8), 3);
        } else {
            CHECK.due("\"" + text + "\"", answer, -1000 - error);
            CHECK.due("\"" + text + "\": width", x.picture(0, 0), 2);
            CHECK.due("\"" + text + "\": color", x.color(0, 1, 11), 7);
            CHECK.due("\"" + text + "\": the text is kept", x.count(9), text.length());
            CHECK.due("\"" + text + "\": no state is recorded", x.count(8), 2);
        }
        return x;
    }

    /** The column of a text that is right: the colors of the lights from 0 on, the others dark. */
    private static void column(String text, int column, String colors) {
        LightWheel x = load(text, FINE);
        for (int light = 0; light < 12; light++) {
            int due = light < colors.length() ? colors.charAt(light) - '0' : 0;
            CHECK.due("\"" + text + "\": color(0, " + column + ", " + light + ")", x.color(0, column, light), due);
        }
    }

    /**
     * Every character behind a beginning: the right ones go on to a text that is right, the open ones to one that
     * ends too early; any other is an error, in digits of a NUMBER at its first one.
     */
    private static void behind(String beginning, String right, String open, String wrongNumber, int numberStart) {
        for (int code = 1; code <= 255; code++) {
            char character = (char) code;
            int error = beginning.length();
            if (right.indexOf(character) >= 0) {
                error = FINE;
            } else if (open.indexOf(character) >= 0) {
                error = beginning.length() + 1;
            } else if (wrongNumber.indexOf(character) >= 0) {
                error = numberStart;
            }
            load(beginning + character, error);
        }
    }

    /** "a part is a color, a digit from 0 to 7, or a number in brackets and such a digit" */
    private static void anyCharacterWhereAPartMayStand() {
        behind("", "01234567; ", "(", "", 0);
        behind("12", "01234567; ", "(", "", 0);
        behind("7;", "01234567; ", "(", "", 0);
        behind(" ", "01234567; ", "(", "", 0);
        behind("(2)5", "01234567; ", "(", "", 0);
    }

    private static void anyCharacterInBrackets() {
        behind("(", "", "123456789 ", "0", 1);
        behind("( ", "", "123456789 ", "0", 2);
        behind("(1", "", "012) ", "3456789", 1);
        behind("( 2", "", ") ", "0123456789", 2);
        behind("(12", "", ") ", "0123456789", 1);
        behind("(1 ", "", ") ", "", 0);
    }

    private static void anyCharacterBehindBrackets() {
        behind("(2)", "01234567", " ", "", 0);
        behind("(12) ", "01234567", " ", "", 0);
    }

    /** "for a color of a 13th light the color" */
    private static void anyCharacterBehindTwelveLights() {
        behind("123456701234", "; ", "(", "", 0);
        behind("(12)1", "; ", "(", "", 0);
        behind("(12)1 ", "; ", "(", "", 0);
        behind("(12)1(", "", " ", "0123456789", 6);
        behind("(11)1", "01234567; ", "(", "", 0);
        behind("(11)1(", "", "1 ", "023456789", 6);
        behind("(11)1(1", "", ") ", "0123456789", 6);
        behind("11(1", "", "0) ", "123456789", 3);
    }

    /** "for the ";" ahead of a 41st column this ";"" */
    private static void anyCharacterInTheLastColumn() {
        behind(";".repeat(38), "01234567; ", "(", "", 0);
        behind(";".repeat(39), "01234567 ", "(", "", 0);
        behind(";".repeat(39) + "(12)7", " ", "(", "", 0);
    }

    /** "a part, possibly none (so an empty text is one dark column)" */
    private static void emptyText() {
        column("", 0, "");
        column(" ", 0, "");
        column("0", 0, "");
        column(";", 0, "");
        column(";", 1, "");
        column("1;;2", 1, "");
        column("1;;2", 2, "2");
        column(";3;", 1, "3");
        LightWheel x = load("", FINE);
        CHECK.due("dark", x.picture(0, 4), 0);
    }

    /** "at least one and at most 40" columns */
    private static void fortyColumns() {
        column("7;".repeat(38) + "6", 38, "6");
        column("7;".repeat(39) + "6", 38, "7");
        column("7;".repeat(39) + "6", 39, "6");
        column(";".repeat(39), 39, "");
        load("7;".repeat(39) + "7;6", 79);
        load("7;".repeat(40), 79);
        load(";".repeat(40), 39);
        load(";".repeat(160), 39);
    }

    /** "for as many lights of this color"; "NUMBER is 1 to 12" */
    private static void numbers() {
        for (int number = 1; number <= 12; number++) {
            column("(" + number + ")5", 0, "5".repeat(number));
            if (number < 12) {
                column("2(" + number + ")5", 0, "2" + "5".repeat(number));
                column("(" + number + ")53", 0, "5".repeat(number) + "3");
            }
        }
        column("(3)0(2)4", 0, "00044");
        column("0;(4)1;(2)3", 2, "33");
        for (int color = 0; color < 8; color++) {
            column("(2)" + color + color, 0, ("" + color).repeat(3));
        }
    }

    /** "does not begin with 0"; "a NUMBER that is out of its range .. its first digit (whatever follows)" */
    private static void numbersOutOfTheirRange() {
        for (String end : new String[] {"", " ", ")", ")1", "x", ";", "(", " 1)1", ")8", "0", "0)1"}) {
            load("(0" + end, 1);
            load("( 00" + end, 2);
            load("(01" + end, 1);
            load("(012" + end, 1);
            load("(13" + end, 1);
            load("1;2( 13" + end, 5);
            load("(19" + end, 1);
            load("(20" + end, 1);
            load("(99" + end, 1);
            load("(100" + end, 1);
            load("(4294967297" + end, 1);
            load("(18446744073709551617" + end, 1);
            load("(" + "9".repeat(100) + end, 1);
        }
    }

    /** "The parts tell the lights from 0 on; lights that are not told are dark" */
    private static void twelveLights() {
        column("76543210123", 0, "76543210123");
        column("765432101234", 0, "765432101234");
        column("(11)65", 0, "666666666665");
        column("6(11)5", 0, "655555555555");
        column("11(10)2", 0, "112222222222");
        column("(6)1(6)2", 0, "111111222222");
        column("(12)7;(12)6", 0, "777777777777");
        column("(12)7;(12)6", 1, "666666666666");
        column("777777777777;1", 1, "1");
        column("(5)7;", 1, "");
    }

    /** "with which more than 12 lights would be told, it is its first digit (whatever follows), for a color .." */
    private static void thirteenLights() {
        load("7654321012345", 12);
        load("7654321012348", 12);
        load("765432101234 5", 13);
        load("(12)45", 5);
        load("(11)456", 6);
        for (String end : new String[] {"", " ", ")", ")1", "x", ";"}) {
            load("1(12" + end, 2);
            load("11(11" + end, 3);
            load("11( 12" + end, 4);
            load("12345678901".replace('8', '0').replace('9', '0') + "(2" + end, 12);
            load("(12)7(1" + end, 6);
            load("(12)7(12" + end, 6);
            load("(6)1(7" + end, 5);
            load("(6)1( 10" + end, 6);
            load("1;(6)1(7" + end, 7);
        }
        load("1(11)22", 6);
        load("(12)7;(12)66", 11);
    }

    /** "Spaces (code 32) may stand everywhere (also in brackets) except within NUMBER." */
    private static void spaces() {
        column("  1  2  ", 0, "12");
        column(" ( 3 ) 4 ", 0, "444");
        column(" ( 12 ) 4 ", 0, "444444444444");
        column(" 1 ; 2 ", 1, "2");
        column("(   2   )   1   1", 0, "111");
        load("(1 2)1", 3);
        load("(1 1", 3);
        load("(1  0)1", 4);
        load("( 1 2)1", 4);
        for (int code : new int[] {9, 10, 13, 31, 33, 160}) {
            char other = (char) code;
            load("" + other, 0);
            load("1" + other + "2", 1);
            load("(" + other + "2)1", 1);
            load("(2" + other + ")1", 2);
            load("(2)" + other + "1", 3);
        }
    }

    /** "If the text ends where something is missing, it is the length of the text." */
    private static void endsTooEarly() {
        String[] texts = {"(", "( ", "(1", "(12", "(1 ", "(12 ", "(1)", "(12)", "(12) ", "1(", "1;(", "7(2", "7( 2 )",
            "777777777777(", "777777777777( ", "(12)7(", "1;2;(3", "77777777777(1", "77777777777(1)"};
        for (String text : texts) {
            load(text, text.length());
        }
        load(";".repeat(39) + "(", 40);
        load(" ".repeat(159) + "(", 160);
        load(" ".repeat(157) + "(2)", 160);
    }

    /** "The text is read from left to right. The error position is .. the first character that is not allowed" */
    private static void theFirstErrorCounts() {
        load("8;9", 0);
        load("1;8;9", 2);
        load("(13)8", 1);
        load("(2)8(13", 3);
        load("(12x(13)1", 3);
        load("x" + ";".repeat(40), 0);
        load(";".repeat(40) + "x", 39);
        load("7777777777777(", 12);
        load("(12)7(13)1", 6);
        load("(2;8", 2);
        load("()", 1);
        load("(()", 1);
        load("(-1)1", 1);
        load("(+1)1", 1);
        load("(1.)1", 2);
        load("1,2", 1);
        load(")(", 0);
    }

    /** "a text of at most 160 characters" */
    private static void longestText() {
        column(" ".repeat(159) + "7", 0, "7");
        column(" ".repeat(148) + "123456701234", 0, "123456701234");
        column("(12)7;".repeat(26) + "1237", 26, "1237");
        column("7".repeat(4) + ";777".repeat(39), 39, "777");
        load(" ".repeat(159) + "8", 159);
        load(" ".repeat(159) + ")", 159);
    }

    /** "(then nothing changes, and the text is kept)": for each kind of error */
    private static void refusedTexts() {
        String[] texts = {"8", "12;(13)1", "7;1(12)2", "7777777777777", ";".repeat(40), "(12", "12;(3)", "1;2;3(1 2)4"};
        int[] errors = {0, 4, 4, 12, 39, 3, 6, 8};
        for (int i = 0; i < texts.length; i++) {
            String text = texts[i];
            Scene scene = new Scene(CHECK, "a busy wheel with \"" + text + "\"", x -> {
                Scene.busy(x);
                x.clearText();
                Check.type(x, text);
            });
            for (int p = 0; p < 2; p++) {
                int picture = p;
                scene.refuses("load(" + p + ")", -1000 - errors[i], x -> x.load(picture));
            }
            scene.answers("the text is still there", -1000 - errors[i], x -> {
                x.load(0);
                return x.load(1);
            });
            scene.end();
        }
    }

    /** "Reads the text as all columns of a picture, whose width becomes their number; its place and kind stay." */
    private static void takenText() {
        LightWheel x = new LightWheel();
        x.addPicture(40);
        x.addPicture(40);
        for (int p = 0; p < 2; p++) {
            for (int column = 0; column < 40; column += 13) {
                x.paint(p, column, 11, 5);
            }
        }
        x.setPlace(1, 717, 18);
        x.setKind(1, 1);
        Check.type(x, "1;2;(12)3");
        CHECK.due("load(1)", x.load(1), 3);
        int[] properties = {3, 717, 18, 1, 14, 54};
        for (int what = 0; what < properties.length; what++) {
            CHECK.due("picture(1, " + what + ")", x.picture(1, what), properties[what]);
        }
        CHECK.due("the columns beyond are gone", x.color(1, 3, 11), LightWheel.NONE);
        CHECK.due("the old colors are gone", x.color(1, 0, 11), 0);
        CHECK.due("mirrored", x.columnAt(1, 717), 2);
        CHECK.due("the other picture stays", x.picture(0, 0), 40);
        CHECK.due("the other picture stays", x.picture(0, 4), 4);
        CHECK.due("the text is empty: one dark column", x.load(1), 1);
        CHECK.due("dark", x.picture(1, 4), 0);
        Check.type(x, ";".repeat(39));
        CHECK.due("as wide as can be", x.load(1), 40);
        CHECK.due("and all dark", x.picture(1, 4), 0);
        CHECK.due("covers all", x.picture(1, 5), 720);
        x.undo();
        CHECK.due("undone", x.picture(1, 0), 1);
        CHECK.due("the text stays empty", x.count(9), 0);
    }
}
