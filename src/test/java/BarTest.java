/** Promises 9 to 13: arms, lights, settings, ticks and undo. */
public final class BarTest {
    private static final Check CHECK = new Check();
    private static final int WRONG = LightWheel.INVALID_ARGUMENT;

    public static void main(String[] args) {
        setSecondArm();
        secondArmWrites();
        setBroken();
        brokenLightsDoNotWrite();
        set();
        runWrites();
        runChangesTheSpeed();
        runSlowly();
        runBackward();
        loadSlowsTheMotor();
        writesDarkToo();
        runEnds();
        undo();
        undoRestoresAll();
        undoRestoresEachThing();
        CHECK.end();
    }

    /** Promise 9. */
    private static void setSecondArm() {
        LightWheel x = new LightWheel();
        CHECK.due("setSecondArm(-1)", x.setSecondArm(-1), WRONG);
        CHECK.due("setSecondArm(2)", x.setSecondArm(2), WRONG);
        CHECK.due("errors record nothing", x.count(8), 0);
        CHECK.due("setSecondArm(1)", x.setSecondArm(1), 0);
        CHECK.due("count(7)", x.count(7), 1);
        CHECK.due("setSecondArm(1)", x.setSecondArm(1), 1);
        CHECK.due("setSecondArm(0)", x.setSecondArm(0), 1);
        CHECK.due("count(7)", x.count(7), 0);
        CHECK.due("states", x.count(8), 3);
    }

    /** Promises 9 and 12. */
    private static void secondArmWrites() {
        LightWheel x = Check.fullWheel(1);
        CHECK.due("the first arm alone", x.run(1), 120);
        CHECK.due("place(365, 3, 2)", x.place(365, 3, 2), LightWheel.NONE);
        x.setSecondArm(1);
        CHECK.due("both arms", x.run(1), 240);
        CHECK.due("place(370, 3, 2)", x.place(370, 3, 2), LightWheel.NONE);
        CHECK.due("place(371, 3, 1)", x.place(371, 3, 1), 1);
        CHECK.due("place(380, 3, 1)", x.place(380, 3, 1), 1);
        CHECK.due("place(381, 3, 2)", x.place(381, 3, 2), LightWheel.NONE);
        CHECK.due("place(20, 3, 2)", x.place(20, 3, 2), 0);
        x.setSecondArm(0);
        CHECK.due("the first arm alone", x.run(1), 120);
        CHECK.due("place(385, 3, 2)", x.place(385, 3, 2), LightWheel.NONE);
    }

    /** Promise 10. */
    private static void setBroken() {
        LightWheel x = new LightWheel();
        int[][] wrong = {{-1, 0, 1}, {2, 0, 1}, {0, -1, 1}, {0, 12, 1}, {0, 0, -1}, {0, 0, 2}};
        for (int[] w : wrong) {
            CHECK.due("wrong setBroken", x.setBroken(w[0], w[1], w[2]), WRONG);
        }
        CHECK.due("errors record nothing", x.count(8), 0);
        CHECK.due("setBroken(0, 11, 1)", x.setBroken(0, 11, 1), 0);
        CHECK.due("broken(0, 11)", x.broken(0, 11), 1);
        CHECK.due("broken(1, 11)", x.broken(1, 11), 0);
        CHECK.due("broken(0, 10)", x.broken(0, 10), 0);
        CHECK.due("setBroken(0, 11, 1)", x.setBroken(0, 11, 1), 1);
        CHECK.due("setBroken(0, 11, 0)", x.setBroken(0, 11, 0), 1);
        CHECK.due("setBroken(0, 11, 0)", x.setBroken(0, 11, 0), 0);
        CHECK.due("broken(0, 11)", x.broken(0, 11), 0);
        CHECK.due("setBroken(1, 0, 1) while the second arm is off", x.setBroken(1, 0, 1), 0);
        CHECK.due("broken(1, 0)", x.broken(1, 0), 1);
        CHECK.due("states", x.count(8), 5);
    }

    /** Promises 10 and 12. */
    private static void brokenLightsDoNotWrite() {
        LightWheel x = Check.fullWheel(1);
        x.setSecondArm(1);
        x.setBroken(0, 0, 1);
        x.setBroken(1, 11, 1);
        x.setBroken(1, 10, 1);
        CHECK.due("load", x.run(1), 210);
        CHECK.due("place(5, 0, 2)", x.place(5, 0, 2), LightWheel.NONE);
        CHECK.due("place(0, 0, 2)", x.place(0, 0, 2), LightWheel.NONE);
        CHECK.due("place(5, 11, 2)", x.place(5, 11, 2), 0);
        CHECK.due("place(365, 0, 2)", x.place(365, 0, 2), 0);
        CHECK.due("place(365, 11, 2)", x.place(365, 11, 2), LightWheel.NONE);
        CHECK.due("lit", x.count(5), 210);
        x.run(36);
        CHECK.due("written by the second arm", x.place(5, 0, 2), 0);
        CHECK.due("written by both", x.place(5, 5, 2), 0);
        CHECK.due("written by the first arm", x.place(365, 11, 2), 0);
        x.run(36);
        x.setBroken(0, 0, 0);
        x.run(1);
        CHECK.due("mended", x.place(15, 0, 2), 0);
    }

    /** Promise 11. */
    private static void set() {
        LightWheel x = new LightWheel();
        int[][] wrong = {{-1, 1}, {4, 1}, {0, -61}, {0, 61}, {1, 0}, {1, 21}, {2, 0}, {2, 10000}, {3, 0}, {3, 100}};
        for (int[] w : wrong) {
            CHECK.due("set(" + w[0] + ", " + w[1] + ")", x.set(w[0], w[1]), WRONG);
        }
        CHECK.due("errors record nothing", x.count(8), 0);
        int[][] right = {{0, -60, 10}, {0, 60, -60}, {1, 1, 5}, {1, 20, 1}, {2, 1, 9999}, {2, 9999, 1}, {3, 1, 20},
            {3, 99, 1}};
        for (int[] r : right) {
            CHECK.due("set(" + r[0] + ", " + r[1] + ")", x.set(r[0], r[1]), r[2]);
            CHECK.due("setting(" + r[0] + ")", x.setting(r[0]), r[1]);
        }
        CHECK.due("states", x.count(8), 5);
        CHECK.due("the speed itself", x.count(2), 10);
    }

    /** Promise 12. */
    private static void runWrites() {
        LightWheel empty = new LightWheel();
        CHECK.due("run(0)", empty.run(0), WRONG);
        CHECK.due("run(101)", empty.run(101), WRONG);
        CHECK.due("run(-1)", empty.run(-1), WRONG);
        CHECK.due("states", empty.count(8), 0);
        CHECK.due("run(100)", empty.run(100), 0);
        CHECK.due("one action", empty.count(8), 1);
        LightWheel x = Check.fullWheel(5);
        CHECK.due("run(2)", x.run(2), 120);
        CHECK.due("angle", x.count(1), 20);
        CHECK.due("ticks", x.count(3), 2);
        CHECK.due("load", x.count(4), 120);
        CHECK.due("not at the angle it began at", x.place(0, 0, 2), LightWheel.NONE);
        CHECK.due("place(1, 0, 2)", x.place(1, 0, 2), 1);
        CHECK.due("place(10, 0, 2)", x.place(10, 0, 2), 1);
        CHECK.due("place(11, 0, 2)", x.place(11, 0, 2), 0);
        CHECK.due("place(20, 11, 2)", x.place(20, 11, 2), 0);
        CHECK.due("place(21, 0, 2)", x.place(21, 0, 2), LightWheel.NONE);
        CHECK.due("lit", x.count(5), 240);
        x.setKind(0, 2);
        x.setKind(1, 2);
        CHECK.due("what is written stays", x.place(1, 0, 1), 5);
        CHECK.due("nothing wanted is no load", x.run(1), 0);
        CHECK.due("but it is written", x.place(25, 0, 2), 0);
        x.run(71);
        CHECK.due("once around", x.count(1), 20);
        CHECK.due("the angle 0", x.place(0, 11, 2), 2);
        CHECK.due("dark over lit", x.place(5, 0, 2), 1);
        CHECK.due("lit", x.count(5), 0);
    }

    /** Promise 12. */
    private static void runChangesTheSpeed() {
        LightWheel x = new LightWheel();
        x.set(0, 23);
        int[] speeds = {15, 20, 23, 23};
        int angle = 0;
        for (int speed : speeds) {
            x.run(1);
            angle += speed;
            CHECK.due("speed", x.count(2), speed);
            CHECK.due("angle", x.count(1), angle);
        }
        x.set(1, 20);
        x.set(0, 20);
        x.run(1);
        CHECK.due("down", x.count(2), 20);
        x.set(0, -60);
        x.run(1);
        CHECK.due("stands", x.count(2), 0);
        int stands = x.count(1);
        x.run(4);
        CHECK.due("backward", x.count(2), -60);
        CHECK.due("angle", x.count(1), Math.floorMod(stands - 20 - 40 - 60 - 60, 720));
    }

    /** Promise 12. */
    private static void runSlowly() {
        LightWheel x = new LightWheel();
        x.set(1, 20);
        x.set(0, 1);
        x.run(1);
        CHECK.due("speed 1", x.count(2), 1);
        CHECK.due("angle", x.count(1), 1);
        CHECK.due("place(1, 0, 2)", x.place(1, 0, 2), 0);
        CHECK.due("place(2, 0, 2)", x.place(2, 0, 2), LightWheel.NONE);
        x.set(0, -1);
        x.run(2);
        CHECK.due("speed -1", x.count(2), -1);
        CHECK.due("angle", x.count(1), 719);
        CHECK.due("place(0, 0, 2)", x.place(0, 0, 2), 1);
        CHECK.due("place(719, 0, 2)", x.place(719, 0, 2), 0);
    }

    /** Promise 12. */
    private static void runBackward() {
        LightWheel x = Check.fullWheel(2);
        x.set(1, 20);
        x.set(0, -3);
        x.run(1);
        CHECK.due("speed", x.count(2), -3);
        CHECK.due("angle", x.count(1), 717);
        CHECK.due("place(0, 0, 2)", x.place(0, 0, 2), LightWheel.NONE);
        CHECK.due("place(719, 0, 2)", x.place(719, 0, 2), 0);
        CHECK.due("place(717, 0, 2)", x.place(717, 0, 2), 0);
        CHECK.due("place(716, 0, 2)", x.place(716, 0, 2), LightWheel.NONE);
        x.set(0, 0);
        CHECK.due("standing, no load", x.run(1), 0);
        CHECK.due("standing, nothing is written", x.place(717, 0, 2), 1);
        CHECK.due("ticks", x.count(3), 2);
        CHECK.due("angle", x.count(1), 717);
    }

    /** Promise 12. */
    private static void loadSlowsTheMotor() {
        LightWheel x = Check.fullWheel(7);
        x.set(2, 120);
        x.set(1, 3);
        x.set(0, 60);
        CHECK.due("ahead of the first tick there was no load", x.run(1), 13 * 12);
        CHECK.due("speed", x.count(2), 13);
        x.run(1);
        CHECK.due("over the limit: power 1", x.count(2), 14);
        x.set(2, 14 * 12);
        x.run(1);
        CHECK.due("not over the limit: power 3", x.count(2), 17);
        x.set(2, 1);
        x.set(1, 1);
        x.run(5);
        CHECK.due("power 0", x.count(2), 17);
        x.set(0, -60);
        x.run(1);
        CHECK.due("power 0 downward", x.count(2), 17);
        x.set(1, 20);
        x.run(1);
        CHECK.due("power 10 downward", x.count(2), 7);
        x.set(0, 5);
        x.run(1);
        CHECK.due("not beyond the wanted speed", x.count(2), 5);
        x.set(2, 9999);
        x.set(0, 0);
        x.run(1);
        CHECK.due("speed", x.count(2), 0);
        x.set(2, 1);
        x.set(0, 60);
        x.run(1);
        CHECK.due("the load of a standing tick is 0", x.count(2), 20);
    }

    /** Promise 12. */
    private static void writesDarkToo() {
        LightWheel x = new LightWheel();
        x.addPicture(1);
        x.paint(0, 0, 3, 6);
        CHECK.due("one light at angles 1 to 5", x.run(1), 5);
        CHECK.due("dark and written", x.place(3, 0, 2), 0);
        CHECK.due("covered by nothing and written", x.place(9, 3, 2), 0);
        CHECK.due("lit", x.count(5), 5);
        x.paint(0, 0, 3, 0);
        x.run(72);
        CHECK.due("written dark", x.place(3, 3, 1), 0);
        CHECK.due("lit", x.count(5), 0);
    }

    /** Promise 12. */
    private static void runEnds() {
        LightWheel x = new LightWheel();
        for (int i = 0; i < 49; i++) {
            x.run(100);
        }
        CHECK.due("run(99)", x.run(99), 0);
        CHECK.due("ticks", x.count(3), 4999);
        CHECK.due("run(2)", x.run(2), LightWheel.CAPACITY_EXCEEDED);
        CHECK.due("run(101)", x.run(101), WRONG);
        CHECK.due("ticks", x.count(3), 4999);
        CHECK.due("run(1)", x.run(1), 0);
        CHECK.due("ticks", x.count(3), 5000);
        CHECK.due("run(1)", x.run(1), LightWheel.CAPACITY_EXCEEDED);
        CHECK.due("questions go on", x.ticksAround(), 72);
        x.undo();
        CHECK.due("ticks", x.count(3), 4999);
        CHECK.due("run(1)", x.run(1), 0);
    }

    /** Promise 13. */
    private static void undo() {
        LightWheel x = new LightWheel();
        CHECK.due("undo()", x.undo(), LightWheel.ILLEGAL_STATE);
        for (int i = 1; i <= 8; i++) {
            x.set(3, i);
            CHECK.due("states", x.count(8), Math.min(i, 5));
        }
        for (int i = 7; i >= 3; i--) {
            CHECK.due("undo()", x.undo(), i - 3);
            CHECK.due("glow", x.setting(3), i);
        }
        CHECK.due("undo()", x.undo(), LightWheel.ILLEGAL_STATE);
        CHECK.due("glow", x.setting(3), 3);
        x.set(3, 50);
        x.set(3, 60);
        CHECK.due("undo()", x.undo(), 1);
        x.set(3, 70);
        CHECK.due("undo()", x.undo(), 1);
        CHECK.due("glow", x.setting(3), 50);
        CHECK.due("undo()", x.undo(), 0);
        CHECK.due("glow", x.setting(3), 3);
    }

    /** Promise 13. */
    private static void undoRestoresAll() {
        LightWheel x = new LightWheel();
        x.addPicture(40);
        x.setPlace(0, 30, 6);
        Check.type(x, "(12)3;7");
        x.run(3);
        x.setSecondArm(1);
        x.setBroken(1, 4, 1);
        x.load(0);
        x.run(2);
        CHECK.due("lit", x.count(5), 5 * 12 + 6);
        x.undo();
        CHECK.due("ticks", x.count(3), 3);
        CHECK.due("angle", x.count(1), 30);
        CHECK.due("lit", x.count(5), 0);
        CHECK.due("place(31, 0, 2)", x.place(31, 0, 2), LightWheel.NONE);
        CHECK.due("place(30, 0, 2)", x.place(30, 0, 2), 0);
        CHECK.due("width", x.picture(0, 0), 2);
        x.append(49);
        x.undo();
        CHECK.due("width", x.picture(0, 0), 40);
        CHECK.due("colors", x.picture(0, 4), 0);
        CHECK.due("the text stays", x.count(9), 1);
        x.undo();
        CHECK.due("broken(1, 4)", x.broken(1, 4), 0);
        x.undo();
        CHECK.due("second arm", x.count(7), 0);
        CHECK.due("undo()", x.undo(), 0);
        CHECK.due("ticks", x.count(3), 0);
        CHECK.due("speed", x.count(2), 10);
        CHECK.due("place(30, 0, 2)", x.place(30, 0, 2), LightWheel.NONE);
        CHECK.due("the first two actions stay", x.picture(0, 1), 30);
    }

    /** Promise 13. */
    private static void undoRestoresEachThing() {
        LightWheel x = Check.fullWheel(3);
        x.run(3);
        x.setPlace(1, 7, 2);
        x.undo();
        CHECK.due("first", x.picture(1, 1), 360);
        CHECK.due("step", x.picture(1, 2), 18);
        x.setKind(1, 2);
        x.undo();
        CHECK.due("kind", x.picture(1, 3), 0);
        x.paint(1, 19, 11, 6);
        x.undo();
        CHECK.due("color", x.color(1, 19, 11), 3);
        x.addPicture(4);
        x.undo();
        CHECK.due("pictures", x.count(0), 2);
        CHECK.due("picture(2, 0)", x.picture(2, 0), WRONG);
        for (int what = 0; what < 4; what++) {
            int before = x.setting(what);
            x.set(what, 37 % (what == 1 ? 20 : 99));
            x.undo();
            CHECK.due("setting(" + what + ")", x.setting(what), before);
        }
        x.setBroken(0, 7, 1);
        x.undo();
        CHECK.due("broken(0, 7)", x.broken(0, 7), 0);
        x.paint(0, 0, 0, 7);
        x.setSecondArm(1);
        x.set(0, 20);
        x.run(72);
        CHECK.due("written anew", x.place(1, 0, 1), 7);
        CHECK.due("speed", x.count(2), 20);
        x.undo();
        CHECK.due("speed", x.count(2), 10);
        CHECK.due("load", x.count(4), 120);
        CHECK.due("ticks", x.count(3), 3);
        CHECK.due("angle", x.count(1), 30);
        CHECK.due("the color that was written", x.place(1, 0, 1), 3);
        CHECK.due("and its age", x.place(1, 0, 2), 2);
        CHECK.due("the whole circle", x.place(719, 11, 2), LightWheel.NONE);
        CHECK.due("lit", x.count(5), 360);
        x.undo();
        x.undo();
        CHECK.due("second arm", x.count(7), 0);
        x.set(0, 0);
        x.undo();
        CHECK.due("the next tick goes on as if nothing had been", x.run(1), 120);
        CHECK.due("angle", x.count(1), 40);
    }
}
