/** Promises 21 to 24: the questions, which change nothing. */
public final class QuestionsTest {
    private static final Check CHECK = new Check();
    private static final int WRONG = LightWheel.INVALID_ARGUMENT;
    private static final int NONE = LightWheel.NONE;

    public static void main(String[] args) {
        ticksAround();
        ticksAroundUnderLoad();
        ticksAroundAtTheEdge();
        ticksAroundJustOrOneStepShort();
        gaps();
        gapsUnderLoad();
        gapsAtTheEdges();
        bestSpeed();
        bestSpeedOfSeveral();
        bestSpeedAfterTheGlow();
        bestSpeedOfAll();
        bestSpeedOfWhatStays();
        bestSpeedIsAMultipleOfTen();
        meetings();
        meetingsAtTheEdges();
        questionsChangeNothing();
        CHECK.end();
    }

    /** Promise 21. */
    private static void ticksAround() {
        LightWheel x = new LightWheel();
        CHECK.due("speed 10", x.ticksAround(), 72);
        x.set(0, 60);
        // 15, 20 .. 55 make 315 in 9 ticks; then 60 a tick: 675 in 15 ticks, 735 in 16.
        CHECK.due("speed up to 60", x.ticksAround(), 16);
        x.set(0, -10);
        // 5, 0, -5: 10 steps in three ticks, though the bar is where it was; then 71 ticks with 10 each.
        CHECK.due("the way counts, not the angle", x.ticksAround(), 74);
        x.set(0, 0);
        CHECK.due("it stops", x.ticksAround(), NONE);
        x.set(0, 1);
        CHECK.due("at most 720 in 500 ticks", x.ticksAround(), NONE);
        LightWheel y = new LightWheel();
        y.set(1, 20);
        y.set(0, 2);
        CHECK.due("speed 2", y.ticksAround(), 360);
        y.set(0, 0);
        y.run(1);
        y.set(1, 1);
        y.set(0, 60);
        // 1 + 2 .. + 37 = 703, + 38 = 741.
        CHECK.due("from 0 with power 1", y.ticksAround(), 38);
        CHECK.due("nothing has moved", y.count(1), 0);
        CHECK.due("no tick has passed", y.count(3), 1);
    }

    /** Promise 21: the load of the ticks to come slows the motor. */
    private static void ticksAroundUnderLoad() {
        LightWheel x = Check.fullWheel(1);
        x.set(0, 60);
        x.set(1, 1);
        // 11 + 12 .. + 38 = 686, + 39 = 725.
        CHECK.due("under the limit", x.ticksAround(), 29);
        x.set(2, 1);
        // The first tick has the load 0 behind it: 11; then power 1 / 2 = 0.
        CHECK.due("over the limit", x.ticksAround(), 66);
        for (int light = 0; light < 12; light++) {
            x.setBroken(0, light, 1);
        }
        CHECK.due("broken lights are no load", x.ticksAround(), 29);
        x.setSecondArm(1);
        CHECK.due("the second arm is", x.ticksAround(), 66);
    }

    /** Promise 21: 500 ticks, and one more. */
    private static void ticksAroundAtTheEdge() {
        LightWheel x = new LightWheel();
        x.set(0, 45);
        x.run(7);
        x.set(1, 4);
        x.set(0, 1);
        // 41, 37 .. 5, 1 make 231 in 11 ticks, and 489 follow.
        CHECK.due("500 ticks", x.ticksAround(), 500);
        LightWheel y = new LightWheel();
        y.set(1, 20);
        y.set(0, 44);
        y.run(2);
        y.set(1, 4);
        y.set(0, 1);
        y.set(2, 17);
        y.addPicture(1);
        y.paint(0, 0, 0, 1);
        y.setPlace(0, y.count(1) + 40 + 36 + 32 + 28 + 24 + 1, 18);
        // 40 .. 20 make 180; the load of the sixth tick lets 18, 14 .. 2 follow, 50; 489 make 719.
        CHECK.due("501 ticks", y.ticksAround(), NONE);
    }

    /** Promise 21: "720 or more". */
    private static void ticksAroundJustOrOneStepShort() {
        LightWheel x = new LightWheel();
        x.set(0, 12);
        x.set(1, 2);
        CHECK.due("60 ticks with 12 make 720", x.ticksAround(), 60);
        x.set(1, 1);
        CHECK.due("11 and 59 with 12 make 719", x.ticksAround(), 61);
        x.set(1, 20);
        x.set(0, -12);
        // -10, then -12 each.
        CHECK.due("10 and 60 with 12, backward", x.ticksAround(), 61);
        x.run(1);
        CHECK.due("60 ticks with 12, backward", x.ticksAround(), 60);
        LightWheel y = new LightWheel();
        y.set(1, 20);
        y.set(0, 60);
        y.run(4);
        CHECK.due("as fast as can be", y.ticksAround(), 12);
        y.set(0, 0);
        CHECK.due("40, 20, and no further", y.ticksAround(), NONE);
        y.set(1, 2);
        // 58, 56 .. 34 make 598 in 13 ticks, and 32, 30, 28 make 688, and 26 makes 714.
        CHECK.due("slower and slower, but around", y.ticksAround(), 18);
    }

    /** Promise 22. */
    private static void gaps() {
        LightWheel x = new LightWheel();
        CHECK.due("gaps(-1)", x.gaps(-1), WRONG);
        CHECK.due("gaps(201)", x.gaps(201), WRONG);
        CHECK.due("without pictures", x.gaps(0), 0);
        x.addPicture(5);
        CHECK.due("gaps(0)", x.gaps(0), 30);
        CHECK.due("gaps(1)", x.gaps(1), 20);
        CHECK.due("gaps(2)", x.gaps(2), 10);
        CHECK.due("gaps(3): the angle 0", x.gaps(3), 1);
        CHECK.due("gaps(71): the angle 0", x.gaps(71), 1);
        CHECK.due("gaps(72)", x.gaps(72), 0);
        CHECK.due("gaps(200)", x.gaps(200), 0);
        x.addPicture(2);
        x.setPlace(1, 25, 6);
        CHECK.due("two pictures, each angle once", x.gaps(0), 37);
        x.setKind(1, 2);
        CHECK.due("one is off", x.gaps(0), 30);
        x.setKind(1, 1);
        x.setPlace(1, 361, 6);
        CHECK.due("the back is not written", x.gaps(2), 22);
        x.setSecondArm(1);
        CHECK.due("the second arm writes", x.gaps(2), 10);
        CHECK.due("both arms around", x.gaps(36), 0);
        for (int light = 0; light < 12; light++) {
            x.setBroken(0, light, 1);
            x.setBroken(1, light, 1);
        }
        CHECK.due("broken lights do not matter", x.gaps(2), 10);
        x.set(0, -60);
        // 5, 0, -5: the angles 1 to 5 and 0.
        CHECK.due("the speeds change", x.gaps(3), 24 + 7);
    }

    /** Promise 22: the load of the ticks to come slows the motor. */
    private static void gapsUnderLoad() {
        LightWheel x = Check.fullWheel(1);
        x.set(0, 60);
        x.set(1, 1);
        CHECK.due("11 + 12 + 13", x.gaps(3), 720 - 36);
        x.set(2, 1);
        CHECK.due("11 + 11 + 11", x.gaps(3), 720 - 33);
        x.run(1);
        CHECK.due("the last load is behind", x.gaps(1), 720 - 11);
        x.set(2, 9999);
        CHECK.due("the limit as it is now", x.gaps(1), 720 - 12);
    }

    /** Promise 22: each arm's first and last angle, and the whole circle. */
    private static void gapsAtTheEdges() {
        LightWheel x = new LightWheel();
        x.addPicture(1);
        int[][] angles = {{0, 1, 1}, {1, 0, 0}, {10, 0, 0}, {11, 1, 1}, {360, 1, 1}, {361, 1, 0}, {370, 1, 0},
            {371, 1, 1}, {719, 1, 1}};
        for (int[] a : angles) {
            x.setSecondArm(0);
            x.setPlace(0, a[0], 1);
            CHECK.due("one arm, one tick: the angle " + a[0], x.gaps(1), a[1]);
            CHECK.due("no tick", x.gaps(0), 1);
            x.setSecondArm(1);
            CHECK.due("both arms, one tick: the angle " + a[0], x.gaps(1), a[2]);
            CHECK.due("no tick", x.gaps(0), 1);
        }
        LightWheel y = Check.fullWheel(0);
        CHECK.due("dark pictures cover too", y.gaps(0), 720);
        CHECK.due("all but ten angles", y.gaps(1), 710);
        y.set(0, 1);
        y.set(1, 20);
        CHECK.due("200 ticks with the speed 1", y.gaps(200), 520);
        CHECK.due("199 ticks", y.gaps(199), 521);
        y.setSecondArm(1);
        CHECK.due("200 ticks, both arms", y.gaps(200), 320);
        y.run(100);
        CHECK.due("what has been written does not matter", y.gaps(0), 720);
        y.set(0, 0);
        CHECK.due("a bar that stands", y.gaps(200), 720);
        y.setKind(0, 2);
        CHECK.due("one picture is off", y.gaps(0), 360);
        y.setKind(1, 2);
        CHECK.due("both are off", y.gaps(0), 0);
        y.setKind(1, 1);
        CHECK.due("one is mirrored", y.gaps(0), 360);
    }

    /** Promise 23. */
    private static void bestSpeed() {
        LightWheel x = new LightWheel();
        CHECK.due("bestSpeed(0)", x.bestSpeed(0), WRONG);
        CHECK.due("bestSpeed(41)", x.bestSpeed(41), WRONG);
        CHECK.due("nothing is wanted or lit", x.bestSpeed(1), -60);
        x.addPicture(10);
        for (int column = 0; column < 10; column++) {
            x.paint(0, column, 5, 7);
        }
        x.set(1, 20);
        // One tick from speed 10 leads to -10 .. 30: forward the picture is written, and 30 writes the most of it.
        CHECK.due("one tick", x.bestSpeed(1), 30);
        x.setPlace(0, 700, 1);
        CHECK.due("behind the bar", x.bestSpeed(1), -60);
        x.setPlace(0, 15, 1);
        x.set(3, 1);
        // Wanted are 15 to 24. The second tick writes 11 to 20 with the wanted speed 10, 21 to 40 with 20.
        CHECK.due("only the last tick glows", x.bestSpeed(2), 10);
        x.set(3, 2);
        CHECK.due("both ticks glow", x.bestSpeed(2), 20);
        CHECK.due("the wanted speed stays", x.setting(0), 10);
        CHECK.due("the ticks stay", x.count(3), 0);
    }

    /** Promise 23: of several the smallest one. */
    private static void bestSpeedOfSeveral() {
        LightWheel x = new LightWheel();
        x.addPicture(1);
        x.paint(0, 0, 0, 1);
        x.setPlace(0, 2, 3);
        x.set(1, 20);
        // The angles 2 to 4 are written with every speed from 10 on.
        CHECK.due("forward", x.bestSpeed(1), 10);
        x.setPlace(0, 400, 3);
        CHECK.due("all the same", x.bestSpeed(1), -60);
        x.setPlace(0, 360 + 2, 3);
        x.setSecondArm(1);
        CHECK.due("by the second arm", x.bestSpeed(1), 10);
        x.setBroken(1, 0, 1);
        CHECK.due("its light is broken", x.bestSpeed(1), -60);
        x.setPlace(0, 2, 3);
        CHECK.due("that of the first arm is not", x.bestSpeed(1), 10);
        x.setBroken(0, 0, 1);
        CHECK.due("the light of the first arm is broken", x.bestSpeed(1), -60);
        LightWheel y = new LightWheel();
        y.addPicture(1);
        y.paint(0, 0, 11, 1);
        y.set(0, 10);
        y.run(71);
        y.setPlace(0, 0, 1);
        // The bar is at 710: the angle 0 is written with speed 10 or more.
        CHECK.due("the angle 0 alone", y.bestSpeed(1), 10);
    }

    /** Promise 23: what was lit is to go dark, or to stay. */
    private static void bestSpeedAfterTheGlow() {
        LightWheel x = new LightWheel();
        x.addPicture(1);
        x.paint(0, 0, 0, 1);
        x.setPlace(0, 1, 10);
        x.set(1, 20);
        x.run(1);
        x.setKind(0, 2);
        x.set(3, 99);
        // Lit are the angles 1 to 10, wanted is dark; only backward the bar makes them dark.
        CHECK.due("backward over what is lit", x.bestSpeed(1), -60);
        x.set(0, 0);
        x.run(1);
        CHECK.due("from a standing bar, -10 does it too", x.bestSpeed(1), -60);
        x.set(3, 2);
        CHECK.due("it goes dark by itself", x.bestSpeed(1), -60);
        x.setKind(0, 0);
        x.set(3, 3);
        CHECK.due("it stays by itself", x.bestSpeed(1), -60);
        x.set(3, 1);
        x.setPlace(0, 5, 18);
        // Wanted are 5 to 22, the bar stands at 10; 20 forward writes 12 of them, 20 backward 5.
        CHECK.due("forward", x.bestSpeed(1), 20);
    }

    /** Promise 23: the speeds that are tried. */
    private static void bestSpeedOfAll() {
        LightWheel x = Check.fullWheel(1);
        x.set(1, 20);
        x.set(3, 1);
        x.setKind(1, 2);
        // Wanted are the angles 0 to 359. Behind 4 ticks only the last one glows: the faster, the more is lit.
        CHECK.due("the fastest forward", x.bestSpeed(4), 60);
        // Behind 7 ticks the bar with 60 is at 30 + 50 + 5 * 60 = 380: 39 angles; 50 is at 330: 50 angles.
        CHECK.due("too far with 60", x.bestSpeed(7), 50);
        x.setKind(1, 0);
        x.setKind(0, 2);
        // Wanted are 360 to 719: -60 begins with -10, -30, -50.
        CHECK.due("the fastest backward", x.bestSpeed(4), -60);
        x.setKind(0, 0);
        x.set(3, 99);
        // Behind 40 ticks all speeds that go around have all written; -60 is the smallest one.
        CHECK.due("bestSpeed(40)", x.bestSpeed(40), -60);
        x.set(2, 1);
        x.set(1, 1);
        // The first tick makes 9, 10 or 11 of 10; then the load holds the speed: 440 angles at the most.
        CHECK.due("under load", x.bestSpeed(40), 20);
        x.setSecondArm(1);
        // With both arms 10 needs 36 ticks for all angles, but 9 needs 40.
        CHECK.due("both arms", x.bestSpeed(40), -60);
        CHECK.due("both arms, 39 ticks", x.bestSpeed(39), 10);
    }

    /** Promise 23: lit places that stay, and written ones that go dark. */
    private static void bestSpeedOfWhatStays() {
        LightWheel x = new LightWheel();
        x.addPicture(1);
        x.paint(0, 0, 0, 1);
        x.setPlace(0, 0, 18);
        x.set(1, 20);
        x.run(1);
        x.set(3, 2);
        // Lit are 1 to 10, and wanted is 0 to 17; the bar stands at 10 with speed 10.
        CHECK.due("what is lit stays, 10 adds the rest", x.bestSpeed(1), 10);
        // Forward 11 to 17 glow, but no more 1 to 10; backward, with -10 and -30, 0 to 9 do.
        CHECK.due("what is lit goes dark", x.bestSpeed(2), -60);
        x.set(3, 3);
        // Now 1 to 10 stay too.
        CHECK.due("what is lit stays for two ticks", x.bestSpeed(2), 10);
        x.setKind(0, 2);
        x.set(3, 99);
        x.set(0, 10);
        // Wanted is dark: only what is written anew goes dark, and backward it is.
        CHECK.due("written dark", x.bestSpeed(2), -60);
        x.setSecondArm(1);
        x.setBroken(0, 0, 1);
        // Only the second arm has the light; it gets to the angles 1 to 10 in half a circle.
        CHECK.due("written dark by the second arm, backward or forward", x.bestSpeed(9), -60);
        x.setBroken(1, 0, 1);
        CHECK.due("nothing writes there", x.bestSpeed(40), -60);
    }

    /** Promise 23: "of all multiples of 10 from -60 to 60"; "if it was set now" */
    private static void bestSpeedIsAMultipleOfTen() {
        for (int wanted = -60; wanted <= 60; wanted += 15) {
            LightWheel x = Check.fullWheel(1);
            x.set(1, 20);
            x.set(3, 1);
            x.set(0, wanted);
            // Wanted are the angles 1 to 10: the speed 10 writes all of them, and 20 and 30 no more.
            x.setPlace(0, 1, 1);
            Check.type(x, ("(12)1;").repeat(9) + "(12)1");
            x.load(0);
            x.setKind(1, 2);
            CHECK.due("the first of several, whatever was wanted: " + wanted, x.bestSpeed(1), 10);
            CHECK.due("it is not set", x.setting(0), wanted);
        }
        for (int speed = -10; speed <= 30; speed += 10) {
            LightWheel x = new LightWheel();
            x.addPicture(1);
            x.paint(0, 0, 0, 1);
            x.set(1, 20);
            // Only a bar that goes as far as that in its one tick writes the one angle that is wanted.
            x.setPlace(0, Math.floorMod(speed, 720), 1);
            CHECK.due("the angle " + speed, x.bestSpeed(1), speed <= 0 ? -60 : speed);
        }
        for (int ticks = 4; ticks <= 6; ticks++) {
            int[] fastest = {0, 0, 0, 0, 160, 220, 280};
            LightWheel x = new LightWheel();
            x.addPicture(1);
            x.paint(0, 0, 0, 1);
            x.set(1, 20);
            // 30, 50, 60, 60 .. make 200, 260 and 320; with 50 it is 30, 50, 50, 50 .., 180, 230 and 280.
            x.setPlace(0, fastest[ticks] + 40, 1);
            CHECK.due("60 alone comes there in " + ticks + " ticks", x.bestSpeed(ticks), 60);
            x.setPlace(0, fastest[ticks] + 41, 1);
            CHECK.due("none comes there in " + ticks + " ticks", x.bestSpeed(ticks), -60);
        }
    }

    /** Promise 24. */
    private static void meetings() {
        LightWheel x = new LightWheel();
        CHECK.due("without pictures", x.meetings(0, 1), WRONG);
        x.addPicture(2);
        x.addPicture(1);
        int[][] wrong = {{0, 0}, {1, 1}, {-1, 0}, {0, -1}, {2, 0}, {0, 2}};
        for (int[] w : wrong) {
            CHECK.due("wrong meetings", x.meetings(w[0], w[1]), WRONG);
        }
        CHECK.due("both dark", x.meetings(0, 1), 0);
        x.paint(0, 0, 7, 1);
        x.paint(1, 0, 7, 2);
        x.paint(1, 0, 6, 4);
        CHECK.due("six angles, one light", x.meetings(0, 1), 6);
        x.paint(0, 0, 6, 4);
        CHECK.due("six angles, two lights", x.meetings(1, 0), 12);
        x.setPlace(1, 716, 6);
        CHECK.due("two angles", x.meetings(0, 1), 4);
        x.setPlace(1, 4, 6);
        CHECK.due("two angles again", x.meetings(0, 1), 4);
        x.setKind(0, 1);
        CHECK.due("mirrored", x.meetings(0, 1), 8);
        x.setKind(1, 2);
        CHECK.due("one is off", x.meetings(0, 1), 0);
        CHECK.due("one is off", x.meetings(1, 0), 0);
    }

    /** Promise 24: by one angle, by no angle, all around the circle. */
    private static void meetingsAtTheEdges() {
        LightWheel x = new LightWheel();
        for (int p = 0; p < 2; p++) {
            x.addPicture(2);
            x.paint(p, 0, p, 1 + p);
            x.paint(p, 1, 1 - p, 1 + p);
            x.paint(p, 0, 11, 1);
            x.paint(p, 1, 11, 7);
        }
        // Each picture has its light p in the first column, the other's light in the second one, and light 11.
        int[][] places = {{0, 0, 12}, {0, 11, 1 + 1}, {0, 12, 0}, {11, 0, 1 + 1}, {12, 0, 0}, {714, 5, 1 + 1},
            {714, 6, 0}, {5, 714, 1 + 1}, {6, 714, 0}, {0, 6, 6 + 6}, {6, 0, 6 + 6}, {0, 360, 0}};
        for (int[] p : places) {
            x.setPlace(0, p[0], 6);
            x.setPlace(1, p[1], 6);
            CHECK.due("from " + p[0] + " and from " + p[1], x.meetings(0, 1), p[2]);
            CHECK.due("from " + p[1] + " and from " + p[0], x.meetings(1, 0), p[2]);
        }
        LightWheel y = new LightWheel();
        for (int p = 0; p < 2; p++) {
            y.addPicture(1);
            Check.type(y, "7".repeat(12) + ";0".repeat(39));
            y.load(p);
            y.setPlace(p, 18 * p, 18);
        }
        CHECK.due("all around, but where one is not dark the other is", y.meetings(0, 1), 0);
        y.setPlace(1, 17, 18);
        CHECK.due("one angle, all lights", y.meetings(0, 1), 12);
        y.setPlace(1, 705, 18);
        CHECK.due("three angles, all lights", y.meetings(0, 1), 36);
        y.setKind(0, 1);
        CHECK.due("mirrored, the bright column is the last one", y.meetings(0, 1), 12 * 15);
        y.setKind(0, 2);
        CHECK.due("the first one is off", y.meetings(0, 1), 0);
        y.setKind(0, 0);
        y.setKind(1, 2);
        CHECK.due("the second one is off", y.meetings(0, 1), 0);
    }

    private static void questionsChangeNothing() {
        LightWheel x = Check.fullWheel(1);
        x.set(0, 30);
        x.run(2);
        x.setSecondArm(1);
        for (int i = 0; i < 2; i++) {
            CHECK.due("angle", x.count(1), 35);
            CHECK.due("speed", x.count(2), 20);
            CHECK.due("ticks", x.count(3), 2);
            CHECK.due("load", x.count(4), 240);
            CHECK.due("lit", x.count(5), 420);
            CHECK.due("not as wanted", x.count(6), 8640 - 420);
            CHECK.due("states", x.count(8), 5);
            CHECK.due("wanted speed", x.setting(0), 30);
            x.ticksAround();
            x.gaps(100);
            x.bestSpeed(40);
            x.meetings(0, 1);
        }
    }
}
