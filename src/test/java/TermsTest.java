/** The sentences of "Bar", "Pictures", "Writing" and "Speed", each at its boundary and just beside it. */
public final class TermsTest {
    private static final Check CHECK = new Check();
    private static final int NONE = LightWheel.NONE;
    private static final int WANTED_SPEED = 0;
    private static final int POWER = 1;
    private static final int LIMIT = 2;
    private static final int GLOW = 3;

    public static void main(String[] args) {
        anglesModulo720();
        picturesAroundTheCircle();
        twelveLights();
        secondArmOpposite();
        secondArmOff();
        brokenLightsOfEachArm();
        speedsUpTo60();
        atMostFourPictures();
        coveredAngles();
        columnsOfAngles();
        orOfAllPictures();
        writtenAngles();
        speedZero();
        alsoDark();
        lastWrittenWins();
        glow();
        glowAsItIsNow();
        loadOfATick();
        powerOfTheMotor();
        halfThePower();
        loadAtTheLimit();
        speedAheadOfWriting();
        CHECK.end();
    }

    /** By angle: whether the light was written there in the last tick. */
    private static boolean[] writtenInTheLastTick(Scene.Calls calls, int light) {
        boolean[] written = new boolean[720];
        LightWheel x = null;
        for (int angle = 0; angle < 720; angle++) {
            if (angle % 360 == 0) {
                x = new LightWheel();
                calls.on(x);
            }
            written[angle] = x.place(angle, light, 2) == 0;
        }
        return written;
    }

    /** In the last tick, just so many angles from first on are written, and as many from second on (-1: none). */
    private static void writes(String name, Scene.Calls calls, int many, int first, int second) {
        for (int light = 0; light < 12; light += 11) {
            boolean[] written = writtenInTheLastTick(calls, light);
            for (int angle = 0; angle < 720; angle++) {
                boolean due = Math.floorMod(angle - first, 720) < many
                        || second >= 0 && Math.floorMod(angle - second, 720) < many;
                CHECK.holds(name + ": " + (due ? "" : "not ") + "at " + angle + ", light " + light,
                        written[angle] == due);
            }
        }
    }

    /** A wheel whose bar has come to an angle of 0 to 719 and stands there. */
    private static void standAt(LightWheel x, int angle) {
        x.set(POWER, 20);
        x.set(WANTED_SPEED, 0);
        int left = angle;
        while (left > 0) {
            int speed = Math.min(20, left);
            x.set(WANTED_SPEED, speed);
            x.run(1);
            left -= speed;
        }
        x.set(WANTED_SPEED, 0);
        x.run(1);
    }

    /** One tick with a speed of -20 to 20. */
    private static int tickWith(LightWheel x, int speed) {
        x.set(WANTED_SPEED, speed);
        return x.run(1);
    }

    /** "All angles are whole steps of a circle of 720 steps; they are counted modulo 720." */
    private static void anglesModulo720() {
        int[][] ways = {{719, 1, 0}, {718, 1, 719}, {719, 20, 19}, {700, 19, 719}, {700, 20, 0}, {701, 20, 1},
            {0, -1, 719}, {1, -1, 0}, {0, -20, 700}, {19, -20, 719}, {20, -20, 0}, {0, 20, 20}};
        for (int[] way : ways) {
            LightWheel x = new LightWheel();
            standAt(x, way[0]);
            CHECK.due("stands at", x.count(1), way[0]);
            tickWith(x, way[1]);
            CHECK.due("from " + way[0] + " by " + way[1], x.count(1), way[2]);
            tickWith(x, 0);
            CHECK.due("it stands there", x.count(1), way[2]);
        }
        LightWheel x = new LightWheel();
        x.run(71);
        CHECK.due("one tick less than once around", x.count(1), 710);
        x.run(1);
        CHECK.due("once around", x.count(1), 0);
        x.run(72 + 1);
        CHECK.due("twice around, and on", x.count(1), 10);
    }

    /** The covered angles go on behind 719 with 0. */
    private static void picturesAroundTheCircle() {
        LightWheel x = new LightWheel();
        x.addPicture(2);
        x.paint(0, 0, 0, 1);
        x.paint(0, 1, 0, 2);
        int[][] places = {{708, NONE}, {707, NONE}, {719, 11}, {718, 10}, {714, 6}, {0, 0}};
        for (int[] place : places) {
            int first = place[0];
            x.setPlace(0, first, 6);
            for (int i = -2; i < 14; i++) {
                int angle = Math.floorMod(first + i, 720);
                int column = i < 0 || i >= 12 ? NONE : i / 6;
                CHECK.due("first " + first + ": columnAt(0, " + angle + ")", x.columnAt(0, angle), column);
                CHECK.due("first " + first + ": place(" + angle + ", 0, 0)", x.place(angle, 0, 0),
                        column == NONE ? 0 : column + 1);
            }
        }
    }

    /** "an arm with 12 lights, numbered from 0 at the middle outward" */
    private static void twelveLights() {
        LightWheel x = new LightWheel();
        x.addPicture(1);
        for (int light = 0; light < 12; light++) {
            x.paint(0, 0, light, 1 + light % 7);
        }
        x.setPlace(0, 1, 1);
        CHECK.due("one angle, twelve lights", x.run(1), 12);
        for (int light = 0; light < 12; light++) {
            CHECK.due("light " + light, x.place(1, light, 1), 1 + light % 7);
            CHECK.due("light " + light + " behind it", x.place(2, light, 1), 0);
        }
        CHECK.due("lit", x.count(5), 12);
    }

    /** "the second arm is at the angle of the bar plus 360" */
    private static void secondArmOpposite() {
        int[][] ways = {{0, 10, 1, 361}, {350, 10, 351, 711}, {359, 1, 360, 0}, {358, 1, 359, 719},
            {355, 10, 356, 716}, {719, 1, 0, 360}, {715, 10, 716, 356}, {360, 1, 361, 1},
            {0, -1, 719, 359}, {0, -10, 710, 350}, {360, -1, 359, 719}, {361, -1, 360, 0}, {365, -10, 355, 715}};
        for (int[] way : ways) {
            writes("both arms from " + way[0] + " by " + way[1], x -> {
                x.setSecondArm(1);
                standAt(x, way[0]);
                tickWith(x, way[1]);
            }, Math.abs(way[1]), way[2], way[3]);
        }
    }

    /** "possibly a second arm": at first it is off, and it writes only while it is on. */
    private static void secondArmOff() {
        writes("never on", x -> x.run(1), 10, 1, -1);
        writes("off again", x -> {
            x.setSecondArm(1);
            x.run(1);
            x.setSecondArm(0);
            x.run(1);
        }, 10, 11, -1);
        writes("on for the last tick", x -> {
            x.run(1);
            x.setSecondArm(1);
            x.run(1);
        }, 10, 11, 371);
    }

    /** "each arm has lights of its own, the second one also while it is off" */
    private static void brokenLightsOfEachArm() {
        for (int arm = 0; arm < 2; arm++) {
            for (int light = 0; light < 12; light++) {
                LightWheel x = Check.fullWheel(1);
                x.setBroken(arm, light, 1);
                CHECK.due("broken while the second arm is off", x.run(1), arm == 0 ? 110 : 120);
                x.setSecondArm(1);
                CHECK.due("both arms but one light", x.run(1), 230);
                for (int other = 0; other < 12; other++) {
                    boolean first = arm == 0 && other == light;
                    boolean second = arm == 1 && other == light;
                    CHECK.due("the first arm, light " + other, x.place(11, other, 2), first ? NONE : 0);
                    CHECK.due("the second arm, light " + other, x.place(371, other, 2), second ? NONE : 0);
                }
                x.setBroken(arm, light, 0);
                CHECK.due("it works again", x.run(1), 240);
                x.setBroken(arm, light, 1);
                x.setSecondArm(0);
                CHECK.due("off again", x.run(1), arm == 0 ? 110 : 120);
            }
        }
    }

    /** "The bar has a speed from -60 to 60 steps in a tick (at first 10)." */
    private static void speedsUpTo60() {
        LightWheel x = new LightWheel();
        CHECK.due("at first", x.count(2), 10);
        x.set(POWER, 20);
        int[][] runs = {{60, 30, 50, 60, 60}, {-60, 40, 20, 0, -20, -40, -60, -60}, {59, -40, -20, 0, 20, 40, 59, 59}};
        for (int[] run : runs) {
            x.set(WANTED_SPEED, run[0]);
            for (int i = 1; i < run.length; i++) {
                int from = x.count(1);
                x.run(1);
                CHECK.due("the speed toward " + run[0], x.count(2), run[i]);
                CHECK.due("the way with it", Math.floorMod(x.count(1) - from, 720), Math.floorMod(run[i], 720));
            }
        }
    }

    /** "There are at most 4 pictures, numbered from 0." and how they are at first */
    private static void atMostFourPictures() {
        LightWheel x = new LightWheel();
        for (int number = 0; number < 4; number++) {
            CHECK.due("not yet there", x.picture(number, 0), LightWheel.INVALID_ARGUMENT);
            CHECK.due("its number", x.addPicture(40 - number), number);
            CHECK.due("the number of pictures", x.count(0), number + 1);
            int[] properties = {40 - number, 0, 6, 0, 0, (40 - number) * 6};
            for (int what = 0; what < properties.length; what++) {
                CHECK.due("at first, picture(" + number + ", " + what + ")", x.picture(number, what),
                        properties[what]);
            }
        }
        CHECK.due("a fifth one", x.addPicture(1), LightWheel.CAPACITY_EXCEEDED);
        CHECK.due("the number of pictures", x.count(0), 4);
        x.undo();
        CHECK.due("room again", x.addPicture(1), 3);
    }

    /** "the picture covers the n * w angles from its first angle on (at most 720 ..)" */
    private static void coveredAngles() {
        int[][] sizes = {{1, 1}, {1, 18}, {40, 1}, {2, 6}, {40, 6}, {20, 17}, {20, 18}, {39, 18}, {40, 17}, {40, 18}};
        for (int[] size : sizes) {
            for (int first : new int[] {0, 1, 360, 719}) {
                LightWheel x = new LightWheel();
                x.addPicture(size[0]);
                x.setPlace(0, first, size[1]);
                int covered = size[0] * size[1];
                String name = size[0] + " columns by " + size[1] + " from " + first;
                CHECK.due(name, x.picture(0, 5), covered);
                CHECK.due(name + ": gaps", x.gaps(0), covered);
                CHECK.due(name + ": the first angle", x.columnAt(0, first), 0);
                int last = (first + covered - 1) % 720;
                CHECK.due(name + ": the last angle", x.columnAt(0, last), size[0] - 1);
                CHECK.due(name + ": behind it", x.columnAt(0, (last + 1) % 720), covered == 720 ? 0 : NONE);
                CHECK.due(name + ": ahead of it", x.columnAt(0, (first + 719) % 720),
                        covered == 720 ? size[0] - 1 : NONE);
            }
        }
    }

    /** "The covered angle number i belongs to the column i / w of a plain picture, and to the column n - 1 - i / w" */
    private static void columnsOfAngles() {
        for (int step : new int[] {1, 2, 6, 17, 18}) {
            LightWheel x = new LightWheel();
            x.addPicture(5);
            for (int column = 0; column < 5; column++) {
                x.paint(0, column, 4, column + 1);
            }
            x.setPlace(0, 717, step);
            for (int kind = 0; kind < 2; kind++) {
                x.setKind(0, kind);
                for (int column = 0; column < 5; column++) {
                    int belongs = kind == 0 ? column : 4 - column;
                    for (int i : new int[] {column * step, column * step + step - 1}) {
                        int angle = (717 + i) % 720;
                        CHECK.due("kind " + kind + ", step " + step + ", angle number " + i,
                                x.columnAt(0, angle), belongs);
                        CHECK.due("its color", x.place(angle, 4, 0), belongs + 1);
                    }
                }
                CHECK.due("the angle behind them", x.place((717 + 5 * step) % 720, 4, 0), 0);
                CHECK.due("the angle ahead of them", x.place(716, 4, 0), 0);
            }
        }
    }

    /** "the bitwise or of the colors that all pictures which are not off and cover this angle have there" */
    private static void orOfAllPictures() {
        LightWheel x = new LightWheel();
        int[] colors = {1, 2, 4, 5};
        for (int p = 0; p < 4; p++) {
            x.addPicture(1);
            x.paint(p, 0, 6, colors[p]);
            x.setPlace(p, 100 + 2 * p, 18);
        }
        int[][] due = {{99, 0}, {100, 1}, {101, 1}, {102, 3}, {103, 3}, {104, 7}, {106, 7}, {117, 7}, {118, 7},
            {119, 7}, {120, 5}, {121, 5}, {122, 5}, {123, 5}, {124, 0}};
        for (int[] d : due) {
            CHECK.due("the angle " + d[0], x.place(d[0], 6, 0), d[1]);
        }
        x.setKind(2, 2);
        CHECK.due("without the third one", x.place(120, 6, 0), 5);
        x.setKind(3, 2);
        CHECK.due("without the last two", x.place(110, 6, 0), 3);
        CHECK.due("without the last two", x.place(120, 6, 0), 0);
        x.setKind(1, 1);
        CHECK.due("mirrored is not off", x.place(110, 6, 0), 3);
        x.setKind(0, 2);
        CHECK.due("the second one alone", x.place(110, 6, 0), 2);
        x.setKind(1, 2);
        CHECK.due("all off", x.place(110, 6, 0), 0);
        x.setKind(3, 0);
        CHECK.due("on again", x.place(110, 6, 0), 5);
        CHECK.due("another light", x.place(110, 7, 0), 0);
    }

    /** "with a speed of s it writes at the |s| angles that follow on its present one in the direction" */
    private static void writtenAngles() {
        for (int speed : new int[] {1, 2, 9, 10, 59, 60, -1, -2, -10, -59, -60}) {
            Scene.Calls speedUp = x -> {
                x.set(POWER, 20);
                x.set(WANTED_SPEED, speed);
                x.run(5);
            };
            LightWheel x = new LightWheel();
            speedUp.on(x);
            int from = x.count(1);
            writes("speed " + speed, y -> {
                speedUp.on(y);
                y.run(1);
            }, Math.abs(speed), speed > 0 ? from + 1 : from + speed, -1);
            x.run(1);
            CHECK.due("the last one is the new angle", x.count(1), Math.floorMod(from + speed, 720));
        }
    }

    /** "With the speed 0, nothing is written." */
    private static void speedZero() {
        writes("stands", x -> standAt(x, 40), 0, 0, -1);
        writes("stands, both arms", x -> {
            x.setSecondArm(1);
            standAt(x, 40);
        }, 0, 0, -1);
        LightWheel x = Check.fullWheel(3);
        x.set(POWER, 10);
        x.set(WANTED_SPEED, -10);
        CHECK.due("nothing is written on the way from 10 to -10", x.run(1), 0);
        CHECK.due("speed", x.count(2), 0);
        CHECK.due("angle", x.count(1), 0);
        CHECK.due("the tick counts", x.count(3), 1);
        CHECK.due("lit", x.count(5), 0);
        CHECK.due("place(0, 0, 2)", x.place(0, 0, 2), NONE);
        CHECK.due("place(719, 0, 2)", x.place(719, 0, 2), NONE);
        CHECK.due("place(1, 0, 2)", x.place(1, 0, 2), NONE);
        CHECK.due("behind it", x.run(1), 120);
    }

    /** "(also dark, also where no picture covers the angle)" */
    private static void alsoDark() {
        LightWheel x = Check.fullWheel(6);
        x.set(GLOW, 99);
        x.run(1);
        CHECK.due("lit", x.count(5), 120);
        x.paint(0, 0, 0, 0);
        x.setPlace(0, 0, 1);
        x.setPlace(1, 0, 1);
        x.setKind(1, 2);
        x.run(72);
        // Now the picture covers the angles 0 to 19, and all but the light 0 at the angle 0 is 6.
        CHECK.due("dark at a covered angle", x.place(0, 0, 1), 0);
        CHECK.due("it is written", x.place(0, 0, 2), 1);
        CHECK.due("the same angle, another light", x.place(0, 1, 1), 6);
        CHECK.due("the last angle that is covered", x.place(19, 0, 1), 6);
        CHECK.due("where no picture covers the angle", x.place(20, 0, 2), 71);
        x.run(1);
        CHECK.due("written dark over nothing", x.place(20, 0, 2), 0);
        CHECK.due("dark", x.place(20, 0, 1), 0);
        x.setKind(0, 2);
        x.run(72);
        CHECK.due("written dark over lit", x.place(10, 5, 2), 1);
        CHECK.due("dark", x.count(5), 0);
    }

    /** "The lit color of a place is the color that was written there last": by either arm, by a working light. */
    private static void lastWrittenWins() {
        LightWheel x = Check.fullWheel(1);
        x.setSecondArm(1);
        x.set(GLOW, 99);
        x.setBroken(1, 5, 1);
        x.run(1);
        CHECK.due("the first arm", x.place(10, 4, 1), 1);
        x.paint(0, 0, 4, 2);
        x.paint(0, 0, 5, 2);
        CHECK.due("as it was written", x.place(10, 4, 1), 1);
        x.run(35);
        CHECK.due("not yet again", x.place(10, 4, 2), 35);
        x.run(1);
        CHECK.due("the second arm", x.place(10, 4, 1), 2);
        CHECK.due("its age", x.place(10, 4, 2), 0);
        CHECK.due("the light that is broken there", x.place(10, 5, 1), 1);
        CHECK.due("its age", x.place(10, 5, 2), 36);
        x.run(36);
        CHECK.due("the first arm again", x.place(10, 5, 1), 2);
        CHECK.due("its age", x.place(10, 5, 2), 0);
        x.run(36);
        CHECK.due("within one call, by either arm", x.place(10, 4, 2), 0);
        CHECK.due("within one call, by the first arm alone", x.place(10, 5, 2), 36);
    }

    /** "if that was less than F ticks ago, where F is the glow, 1 to 99 (at first 20)" */
    private static void glow() {
        for (int glow : new int[] {1, 2, 20, 98, 99}) {
            LightWheel x = Check.fullWheel(4);
            if (glow != 20) {
                x.set(GLOW, glow);
            }
            x.set(POWER, 20);
            x.run(1);
            CHECK.due("glow " + glow + ": written 0 ticks ago", x.place(10, 11, 2), 0);
            CHECK.due("glow " + glow + ": lit", x.place(10, 11, 1), 4);
            CHECK.due("glow " + glow + ": all lit", x.count(5), 120);
            x.set(WANTED_SPEED, 0);
            if (glow > 1) {
                x.run(glow - 1);
            }
            CHECK.due("glow " + glow + ": age", x.place(1, 0, 2), glow - 1);
            CHECK.due("glow " + glow + ": lit for the last time", x.place(1, 0, 1), 4);
            CHECK.due("glow " + glow + ": all lit for the last time", x.count(5), 120);
            CHECK.due("glow " + glow + ": all others are not as wanted", x.count(6), 8640 - 120);
            x.run(1);
            CHECK.due("glow " + glow + ": age", x.place(1, 0, 2), glow);
            CHECK.due("glow " + glow + ": dark", x.place(1, 0, 1), 0);
            CHECK.due("glow " + glow + ": all dark", x.count(5), 0);
            CHECK.due("glow " + glow + ": none is as wanted", x.count(6), 8640);
        }
    }

    /** "the glow .. as it is now" */
    private static void glowAsItIsNow() {
        LightWheel x = Check.fullWheel(4);
        x.set(POWER, 20);
        x.run(1);
        x.set(WANTED_SPEED, 0);
        x.run(50);
        CHECK.due("50 ticks ago", x.count(5), 0);
        int[][] glows = {{51, 120}, {50, 0}, {99, 120}, {1, 0}};
        for (int[] g : glows) {
            x.set(GLOW, g[0]);
            CHECK.due("50 ticks ago, glow " + g[0], x.count(5), g[1]);
            CHECK.due("50 ticks ago, glow " + g[0], x.place(5, 5, 1), g[1] == 0 ? 0 : 4);
            CHECK.due("the age does not change", x.place(5, 5, 2), 50);
        }
    }

    /** "The load of a tick is the number of colors that were written in it and are not dark, by both arms." */
    private static void loadOfATick() {
        LightWheel x = new LightWheel();
        CHECK.due("ahead of the first tick", x.count(4), 0);
        x.addPicture(1);
        x.setPlace(0, 10, 1);
        for (int light = 0; light < 12; light++) {
            x.paint(0, 0, light, light < 8 ? light : 0);
        }
        CHECK.due("seven of the twelve are not dark", x.run(1), 7);
        CHECK.due("count(4)", x.count(4), 7);
        CHECK.due("nothing but dark ones", x.run(1), 0);
        CHECK.due("count(4)", x.count(4), 0);
        x.setSecondArm(1);
        x.run(34);
        CHECK.due("the bar is at 360", x.count(1), 360);
        CHECK.due("by the second arm", x.run(1), 7);
        x.setKind(0, 2);
        CHECK.due("count(4) stays", x.count(4), 7);
        x.setKind(0, 0);
        x.addPicture(1);
        x.setPlace(1, 20, 1);
        x.paint(1, 0, 9, 5);
        x.addPicture(1);
        x.setPlace(2, 380, 1);
        x.paint(2, 0, 0, 1);
        x.paint(2, 0, 1, 1);
        CHECK.due("by both arms", x.run(1), 3);
        CHECK.due("of several ticks, the last one's", x.run(36), 3);
        CHECK.due("of several ticks, the last one's", x.run(37), 0);
        LightWheel y = Check.fullWheel(7);
        y.setSecondArm(1);
        y.set(WANTED_SPEED, 60);
        CHECK.due("as much as there can be", y.run(20), 60 * 12 * 2);
    }

    /** "the speed changes toward the wanted speed by at most the power", 1 to 20 (at first 5) */
    private static void powerOfTheMotor() {
        LightWheel first = new LightWheel();
        first.set(WANTED_SPEED, 16);
        first.run(1);
        CHECK.due("5 at first", first.count(2), 15);
        for (int power : new int[] {1, 2, 5, 19, 20}) {
            for (int way = -power - 1; way <= power + 1; way++) {
                LightWheel x = new LightWheel();
                x.set(POWER, power);
                x.set(WANTED_SPEED, 10 + way);
                x.run(1);
                int change = Math.max(-power, Math.min(power, way));
                CHECK.due("power " + power + ": from 10 toward " + (10 + way), x.count(2), 10 + change);
                x.run(1);
                CHECK.due("power " + power + ": the tick behind it", x.count(2), 10 + way);
                x.run(1);
                CHECK.due("power " + power + ": it stays", x.count(2), 10 + way);
            }
        }
    }

    /** "it changes by at most power / 2 instead", rounded down */
    private static void halfThePower() {
        for (int power = 1; power <= 20; power++) {
            for (int wanted : new int[] {60, -60}) {
                LightWheel x = Check.fullWheel(1);
                x.run(1);
                x.set(LIMIT, 1);
                x.set(POWER, power);
                x.set(WANTED_SPEED, wanted);
                x.run(1);
                CHECK.due("power " + power + " under load toward " + wanted, x.count(2),
                        10 + (wanted > 0 ? 1 : -1) * (power / 2));
            }
            LightWheel x = Check.fullWheel(1);
            x.run(1);
            x.set(LIMIT, 1);
            x.set(POWER, power);
            x.set(WANTED_SPEED, 10 - power / 2);
            x.run(1);
            CHECK.due("power " + power + ": just reached", x.count(2), 10 - power / 2);
        }
    }

    /** "if the load of the tick before was greater than the limit" */
    private static void loadAtTheLimit() {
        int[][] cases = {{0, 120, 119}, {0, 120, 120}, {0, 120, 121}, {1, 240, 239}, {1, 240, 240}, {1, 240, 9999}};
        for (int[] c : cases) {
            LightWheel x = Check.fullWheel(1);
            x.setSecondArm(c[0]);
            x.set(LIMIT, c[2]);
            CHECK.due("load", x.run(1), c[1]);
            x.set(POWER, 9);
            x.set(WANTED_SPEED, 60);
            x.run(1);
            CHECK.due("load " + c[1] + ", limit " + c[2], x.count(2), c[1] > c[2] ? 14 : 19);
        }
        LightWheel x = Check.fullWheel(1);
        x.set(LIMIT, 1);
        x.set(POWER, 9);
        x.set(WANTED_SPEED, 60);
        x.run(1);
        CHECK.due("ahead of the first tick there was no load", x.count(2), 19);
        x.run(1);
        CHECK.due("then there was", x.count(2), 23);
        LightWheel y = new LightWheel();
        y.addPicture(1);
        y.setPlace(0, 10, 1);
        y.paint(0, 0, 0, 1);
        y.paint(0, 0, 1, 1);
        y.set(LIMIT, 1);
        y.set(WANTED_SPEED, 10);
        CHECK.due("load 2", y.run(1), 2);
        y.set(WANTED_SPEED, 60);
        y.run(3);
        CHECK.due("5 / 2 behind the load, 5 without", y.count(2), 10 + 2 + 5 + 5);
    }

    /** "At the beginning of each tick, ahead of writing, the speed changes" */
    private static void speedAheadOfWriting() {
        writes("15 at once", x -> {
            x.set(WANTED_SPEED, 60);
            x.run(1);
        }, 15, 1, -1);
        writes("then 20", x -> {
            x.set(WANTED_SPEED, 60);
            x.run(2);
        }, 20, 16, -1);
        writes("5 at once", x -> {
            x.set(WANTED_SPEED, -60);
            x.run(1);
        }, 5, 1, -1);
    }
}
