/** Counts the answers of one test class that are not as due. */
final class Check {
    private int checked = 0;
    private int wrong = 0;

    void due(String call, long got, long want) {
        checked++;
        if (got != want) {
            wrong++;
            System.out.println(call + " answered " + got + ", due is " + want);
        }
    }

    void holds(String what, boolean held) {
        checked++;
        if (!held) {
            wrong++;
            System.out.println("does not hold: " + what);
        }
    }

    int wrong() {
        return wrong;
    }

    /** Ends the test class: with exit code 1 if an answer was wrong. */
    void end() {
        System.out.println(checked + " checks, " + wrong + " wrong");
        if (wrong != 0 || checked == 0) {
            System.exit(1);
        }
    }

    /** Appends every character of the text to the wheel's. */
    static void type(LightWheel wheel, String text) {
        for (int i = 0; i < text.length(); i++) {
            wheel.append(text.charAt(i));
        }
    }

    /** A wheel with two pictures, half a circle each, that want one color everywhere. */
    static LightWheel fullWheel(int color) {
        LightWheel wheel = new LightWheel();
        for (int picture = 0; picture < 2; picture++) {
            wheel.addPicture(1);
            type(wheel, ("(12)" + color + ";").repeat(19) + "(12)" + color);
            wheel.load(picture);
            wheel.setPlace(picture, picture * 360, 18);
        }
        return wheel;
    }
}
