/** Promises 21 to 24: the questions, which change nothing. */
public final class QuestionsTest {
    private static final Check CHECK = new Check();
    private static final int WRONG = LightWheel.INVALID_ARGUMENT;
    private static final int NONE = LightWheel.NONE;

    public static void main(String[] args) {
        ticksAround();
        ticksAroundUnderLoad();
        ticksAroundAtTheEdge();
        gaps();
        gapsUnderLoad();
        bestSpeed();
        bestSpeedOfSeveral();
        bestSpeedAfterTheGlow();
        bestSpeedOfAll();
        bestSpeedOfWhatStays();
        meetings();
        questionsChangeNothing();
        CHECK.end();
    }

    /** Promise 21. */
    private static void ticksAround() {
        LightWheel x = new LightWheel();
        CHECK.due("speed 10", x.ticksAround(), 72);
        x.set(0, 60);
        // 15, 20 .. 55 make 315 in 9 ticks; then 60 a tick: 675 in 15 ticks, 735 in 16.
        CHECK.due("speed up to 60", x.ticksAround(), 16);
        x.set(0, -10);
        // 5, 0, -5: 10 steps in three ticks, though the bar is where it was; then 71 ticks with 10 each.
        CHECK.due("the way counts, not the angle", x.ticksAround(), 74);
        x.set(0, 0);
        CHECK.due("it stops", x.ticksAround(), NONE);
        x.set(0, 1);
        CHECK.due("at most 720 in 500 ticks", x.ticksAround(), NONE);
        LightWheel y = new LightWheel();
        y.set(1, 20);
        y.set(0, 2);
        CHECK.due("speed 2", y.ticksAround(), 360);
        y.set(0, 0);
        y.run(1);
        y.set(1, 1);
        y.set(0, 60);
        // 1 + 2 .. + 37 = 703, + 38 = 741.
        CHECK.due("from 0 with power 1", y.ticksAround(), 38);
        CHECK.due("nothing has moved", y.count(1), 0);
        CHECK.due("no tick has passed", y.count(3), 1);
    }

    /** Promise 21: the load of the ticks to come slows the motor. */
    private static void ticksAroundUnderLoad() {
        LightWheel x = Check.fullWheel(1);
        x.set(0, 60);
        x.set(1, 1);
        // 11 + 12 .. + 38 = 686, + 39 = 725.
        CHECK.due("under the limit", x.ticksAround(), 29);
        x.set(2, 1);
        // The first tick has the load 0 behind it: 11; then power 1 / 2 = 0.
        CHECK.due("over the limit", x.ticksAround(), 66);
        for (int light = 0; light < 12; light++) {
            x.setBroken(0, light, 1);
        }
        CHECK.due("broken lights are no load", x.ticksAround(), 29);
        x.setSecondArm(1);
        CHECK.due("the second arm is", x.ticksAround(), 66);
    }

    /** Promise 21: 500 ticks, and one more. */
    private static void ticksAroundAtTheEdge() {
        LightWheel x = new LightWheel();
        x.set(0, 45);
        x.run(7);
        x.set(1, 4);
        x.set(0, 1);
        // 41, 37 .. 5, 1 make 231 in 11 ticks, and 489 follow.
        CHECK.due("500 ticks", x.ticksAround(), 500);
        LightWheel y = new LightWheel();
        y.set(1, 20);
        y.set(0, 44);
        y.run(2);
        y.set(1, 4);
        y.set(0, 1);
        y.set(2, 17);
        y.addPicture(1);
        y.paint(0, 0, 0, 1);
        y.setPlace(0, y.count(1) + 40 + 36 + 32 + 28 + 24 + 1, 18);
        // 40 .. 20 make 180; the load of the sixth tick lets 18, 14 .. 2 follow, 50; 489 make 719.
        CHECK.due("501 ticks", y.ticksAround(), NONE);
    }

    /** Promise 22. */
    private static void gaps() {
        LightWheel x = new LightWheel();
        CHECK.due("gaps(-1)", x.gaps(-1), WRONG);
        CHECK.due("gaps(201)", x.gaps(201), WRONG);
        CHECK.due("without pictures", x.gaps(0), 0);
        x.addPicture(5);
        CHECK.due("gaps(0)", x.gaps(0), 30);
        CHECK.due("gaps(1)", x.gaps(1), 20);
        CHECK.due("gaps(2)", x.gaps(2), 10);
        CHECK.due("gaps(3): the angle 0", x.gaps(3), 1);
        CHECK.due("gaps(71): the angle 0", x.gaps(71), 1);
        CHECK.due("gaps(72)", x.gaps(72), 0);
        CHECK.due("gaps(200)", x.gaps(200), 0);
        x.addPicture(2);
        x.setPlace(1, 25, 6);
        CHECK.due("two pictures, each angle once", x.gaps(0), 37);
        x.setKind(1, 2);
        CHECK.due("one is off", x.gaps(0), 30);
        x.setKind(1, 1);
        x.setPlace(1, 361, 6);
        CHECK.due("the back is not written", x.gaps(2), 22);
        x.setSecondArm(1);
        CHECK.due("the second arm writes", x.gaps(2), 10);
        CHECK.due("both arms around", x.gaps(36), 0);
        for (int light = 0; light < 12; light++) {
            x.setBroken(0, light, 1);
            x.setBroken(1, light, 1);
        }
        CHECK.due("broken lights do not matter", x.gaps(2), 10);
        x.set(0, -60);
        // 5, 0, -5: the angles 1 to 5 and 0.
        CHECK.due("the speeds change", x.gaps(3), 24 + 7);
    }

    /** Promise 22: the load of the ticks to come slows the motor. */
    private static void gapsUnderLoad() {
        LightWheel x = Check.fullWheel(1);
        x.set(0, 60);
        x.set(1, 1);
        CHECK.due("11 + 12 + 13", x.gaps(3), 720 - 36);
        x.set(2, 1);
        CHECK.due("11 + 11 + 11", x.gaps(3), 720 - 33);
        x.run(1);
        CHECK.due("the last load is behind", x.gaps(1), 720 - 11);
        x.set(2, 9999);
        CHECK.due("the limit as it is now", x.gaps(1), 720 - 12);
    }

    /** Promise 23. */
    private static void bestSpeed() {
        LightWheel x = new LightWheel();
        CHECK.due("bestSpeed(0)", x.bestSpeed(0), WRONG);
        CHECK.due("bestSpeed(41)", x.bestSpeed(41), WRONG);
        CHECK.due("nothing is wanted or lit", x.bestSpeed(1), -60);
        x.addPicture(10);
        for (int column = 0; column < 10; column++) {
            x.paint(0, column, 5, 7);
        }
        x.set(1, 20);
        // One tick from speed 10 leads to -10 .. 30: forward the picture is written, and 30 writes the most of it.
        CHECK.due("one tick", x.bestSpeed(1), 30);
        x.setPlace(0, 700, 1);
        CHECK.due("behind the bar", x.bestSpeed(1), -60);
        x.setPlace(0, 15, 1);
        x.set(3, 1);
        // Wanted are 15 to 24. The second tick writes 11 to 20 with the wanted speed 10, 21 to 40 with 20.
        CHECK.due("only the last tick glows", x.bestSpeed(2), 10);
        x.set(3, 2);
        CHECK.due("both ticks glow", x.bestSpeed(2), 20);
        CHECK.due("the wanted speed stays", x.setting(0), 10);
        CHECK.due("the ticks stay", x.count(3), 0);
    }

    /** Promise 23: of several the smallest one. */
    private static void bestSpeedOfSeveral() {
        LightWheel x = new LightWheel();
        x.addPicture(1);
        x.paint(0, 0, 0, 1);
        x.setPlace(0, 2, 3);
        x.set(1, 20);
        // The angles 2 to 4 are written with every speed from 10 on.
        CHECK.due("forward", x.bestSpeed(1), 10);
        x.setPlace(0, 400, 3);
        CHECK.due("all the same", x.bestSpeed(1), -60);
        x.setPlace(0, 360 + 2, 3);
        x.setSecondArm(1);
        CHECK.due("by the second arm", x.bestSpeed(1), 10);
        x.setBroken(1, 0, 1);
        CHECK.due("its light is broken", x.bestSpeed(1), -60);
        x.setPlace(0, 2, 3);
        CHECK.due("that of the first arm is not", x.bestSpeed(1), 10);
        x.setBroken(0, 0, 1);
        CHECK.due("the light of the first arm is broken", x.bestSpeed(1), -60);
        LightWheel y = new LightWheel();
        y.addPicture(1);
        y.paint(0, 0, 11, 1);
        y.set(0, 10);
        y.run(71);
        y.setPlace(0, 0, 1);
        // The bar is at 710: the angle 0 is written with speed 10 or more.
        CHECK.due("the angle 0 alone", y.bestSpeed(1), 10);
    }

    /** Promise 23: what was lit is to go dark, or to stay. */
    private static void bestSpeedAfterTheGlow() {
        LightWheel x = new LightWheel();
        x.addPicture(1);
        x.paint(0, 0, 0, 1);
        x.setPlace(0, 1, 10);
        x.set(1, 20);
        x.run(1);
        x.setKind(0, 2);
        x.set(3, 99);
        // Lit are the angles 1 to 10, wanted is dark; only backward the bar makes them dark.
        CHECK.due("backward over what is lit", x.bestSpeed(1), -60);
        x.set(0, 0);
        x.run(1);
        CHECK.due("from a standing bar, -10 does it too", x.bestSpeed(1), -60);
        x.set(3, 2);
        CHECK.due("it goes dark by itself", x.bestSpeed(1), -60);
        x.setKind(0, 0);
        x.set(3, 3);
        CHECK.due("it stays by itself", x.bestSpeed(1), -60);
        x.set(3, 1);
        x.setPlace(0, 5, 18);
        // Wanted are 5 to 22, the bar stands at 10; 20 forward writes 12 of them, 20 backward 5.
        CHECK.due("forward", x.bestSpeed(1), 20);
    }

    /** Promise 23: the speeds that are tried. */
    private static void bestSpeedOfAll() {
        LightWheel x = Check.fullWheel(1);
        x.set(1, 20);
        x.set(3, 1);
        x.setKind(1, 2);
        // Wanted are the angles 0 to 359. Behind 4 ticks only the last one glows: the faster, the more is lit.
        CHECK.due("the fastest forward", x.bestSpeed(4), 60);
        // Behind 7 ticks the bar with 60 is at 30 + 50 + 5 * 60 = 380: 39 angles; 50 is at 330: 50 angles.
        CHECK.due("too far with 60", x.bestSpeed(7), 50);
        x.setKind(1, 0);
        x.setKind(0, 2);
        // Wanted are 360 to 719: -60 begins with -10, -30, -50.
        CHECK.due("the fastest backward", x.bestSpeed(4), -60);
        x.setKind(0, 0);
        x.set(3, 99);
        // Behind 40 ticks all speeds that go around have all written; -60 is the smallest one.
        CHECK.due("bestSpeed(40)", x.bestSpeed(40), -60);
        x.set(2, 1);
        x.set(1, 1);
        // The first tick makes 9, 10 or 11 of 10; then the load holds the speed: 440 angles at the most.
        CHECK.due("under load", x.bestSpeed(40), 20);
        x.setSecondArm(1);
        // With both arms 10 needs 36 ticks for all angles, but 9 needs 40.
        CHECK.due("both arms", x.bestSpeed(40), -60);
        CHECK.due("both arms, 39 ticks", x.bestSpeed(39), 10);
    }

    /** Promise 23: lit places that stay, and written ones that go dark. */
    private static void bestSpeedOfWhatStays() {
        LightWheel x = new LightWheel();
        x.addPicture(1);
        x.paint(0, 0, 0, 1);
        x.setPlace(0, 0, 18);
        x.set(1, 20);
        x.run(1);
        x.set(3, 2);
        // Lit are 1 to 10, and wanted is 0 to 17; the bar stands at 10 with speed 10.
        CHECK.due("what is lit stays, 10 adds the rest", x.bestSpeed(1), 10);
        // Forward 11 to 17 glow, but no more 1 to 10; backward, with -10 and -30, 0 to 9 do.
        CHECK.due("what is lit goes dark", x.bestSpeed(2), -60);
        x.set(3, 3);
        // Now 1 to 10 stay too.
        CHECK.due("what is lit stays for two ticks", x.bestSpeed(2), 10);
        x.setKind(0, 2);
        x.set(3, 99);
        x.set(0, 10);
        // Wanted is dark: only what is written anew goes dark, and backward it is.
        CHECK.due("written dark", x.bestSpeed(2), -60);
        x.setSecondArm(1);
        x.setBroken(0, 0, 1);
        // Only the second arm has the light; it gets to the angles 1 to 10 in half a circle.
        CHECK.due("written dark by the second arm, backward or forward", x.bestSpeed(9), -60);
        x.setBroken(1, 0, 1);
        CHECK.due("nothing writes there", x.bestSpeed(40), -60);
    }

    /** Promise 24. */
    private static void meetings() {
        LightWheel x = new LightWheel();
        CHECK.due("without pictures", x.meetings(0, 1), WRONG);
        x.addPicture(2);
        x.addPicture(1);
        int[][] wrong = {{0, 0}, {1, 1}, {-1, 0}, {0, -1}, {2, 0}, {0, 2}};
        for (int[] w : wrong) {
            CHECK.due("wrong meetings", x.meetings(w[0], w[1]), WRONG);
        }
        CHECK.due("both dark", x.meetings(0, 1), 0);
        x.paint(0, 0, 7, 1);
        x.paint(1, 0, 7, 2);
        x.paint(1, 0, 6, 4);
        CHECK.due("six angles, one light", x.meetings(0, 1), 6);
        x.paint(0, 0, 6, 4);
        CHECK.due("six angles, two lights", x.meetings(1, 0), 12);
        x.setPlace(1, 716, 6);
        CHECK.due("two angles", x.meetings(0, 1), 4);
        x.setPlace(1, 4, 6);
        CHECK.due("two angles again", x.meetings(0, 1), 4);
        x.setKind(0, 1);
        CHECK.due("mirrored", x.meetings(0, 1), 8);
        x.setKind(1, 2);
        CHECK.due("one is off", x.meetings(0, 1), 0);
        CHECK.due("one is off", x.meetings(1, 0), 0);
    }

    private static void questionsChangeNothing() {
        LightWheel x = Check.fullWheel(1);
        x.set(0, 30);
        x.run(2);
        x.setSecondArm(1);
        for (int i = 0; i < 2; i++) {
            CHECK.due("angle", x.count(1), 35);
            CHECK.due("speed", x.count(2), 20);
            CHECK.due("ticks", x.count(3), 2);
            CHECK.due("load", x.count(4), 240);
            CHECK.due("lit", x.count(5), 420);
            CHECK.due("not as wanted", x.count(6), 8640 - 420);
            CHECK.due("states", x.count(8), 5);
            CHECK.due("wanted speed", x.setting(0), 30);
            x.ticksAround();
            x.gaps(100);
            x.bestSpeed(40);
            x.meetings(0, 1);
        }
    }
}
