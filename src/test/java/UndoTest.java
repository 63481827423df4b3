import java.util.Arrays;

/** The sentences of "Undo", and promise 13. */
public final class UndoTest {
    private static final Check CHECK = new Check();
    private static final int EMPTY = LightWheel.ILLEGAL_STATE;
    private static final int GLOW = 3;

    /** An action on a busy wheel, and whether it takes a text that the wheel does not have yet. */
    private record Action(String name, String text, Scene.Call call) {
        void on(LightWheel x) {
            if (!text.isEmpty()) {
                x.clearText();
                Check.type(x, text);
            }
            CHECK.holds(name + " is successful", call.on(x) >= 0 || name.startsWith("set(0"));
        }
    }

    private static final Action[] ACTIONS = {
        new Action("addPicture(9)", "", x -> x.addPicture(9)),
        new Action("paint(0, 0, 0, 6)", "", x -> x.paint(0, 0, 0, 6)),
        new Action("paint(1, 39, 11, 1)", "", x -> x.paint(1, 39, 11, 1)),
        new Action("setPlace(0, 719, 1)", "", x -> x.setPlace(0, 719, 1)),
        new Action("setKind(0, 1)", "", x -> x.setKind(0, 1)),
        new Action("load(0)", "12;34;(12)5;7", x -> x.load(0)),
        new Action("load(1)", "(11)6", x -> x.load(1)),
        new Action("setSecondArm(0)", "", x -> x.setSecondArm(0)),
        new Action("setBroken(0, 0, 1)", "", x -> x.setBroken(0, 0, 1)),
        new Action("setBroken(1, 8, 0)", "", x -> x.setBroken(1, 8, 0)),
        new Action("set(0, -60)", "", x -> x.set(0, -60)),
        new Action("set(1, 20)", "", x -> x.set(1, 20)),
        new Action("set(2, 9999)", "", x -> x.set(2, 9999)),
        new Action("set(3, 1)", "", x -> x.set(3, 1)),
        new Action("run(1)", "", x -> x.run(1)),
        new Action("run(100)", "", x -> x.run(100)),
    };

    /** The same with the values that a busy wheel has already. */
    private static final Action[] NOTHING_NEW = {
        new Action("paint(0, 0, 0, 1)", "", x -> x.paint(0, 0, 0, 1)),
        new Action("setPlace(0, 30, 11)", "", x -> x.setPlace(0, 30, 11)),
        new Action("setKind(1, 1)", "", x -> x.setKind(1, 1)),
        new Action("setSecondArm(1)", "", x -> x.setSecondArm(1)),
        new Action("setBroken(0, 3, 1)", "", x -> x.setBroken(0, 3, 1)),
        new Action("setBroken(1, 0, 0)", "", x -> x.setBroken(1, 0, 0)),
        new Action("set(0, 35)", "", x -> x.set(0, 35)),
        new Action("set(3, 30)", "", x -> x.set(3, 30)),
    };

    public static void main(String[] args) {
        emptyHistory();
        fiveStates();
        theSixthDropsTheOldest();
        undoneAndGoneOn();
        everyActionIsRecorded();
        everyActionIsRestored();
        actionsThatChangeNothing();
        whatIsNoAction();
        textIsNoPartOfAState();
        historyIsNoPartOfAState();
        backToANewWheel();
        runIsOneAction();
        refusedActions();
        CHECK.end();
    }

    /** Busy, with only so many states in the history, 0 to 5. */
    private static LightWheel busyWith(int states) {
        LightWheel x = new LightWheel();
        busy(x, states);
        return x;
    }

    private static void busy(LightWheel x, int states) {
        Scene.busy(x);
        // Undoing what was done again leaves fewer states behind an equal wheel.
        for (int i = 0; i < 5; i++) {
            x.set(GLOW, 30);
        }
        for (int i = states; i < 5; i++) {
            x.undo();
        }
    }

    private static void same(String what, Scene.Calls one, Scene.Calls another) {
        CHECK.holds(what, Arrays.equals(Scene.state(one), Scene.state(another)));
    }

    /** "ILLEGAL_STATE if it is empty" */
    private static void emptyHistory() {
        LightWheel x = new LightWheel();
        CHECK.due("a new wheel: states", x.count(8), 0);
        CHECK.due("a new wheel: undo()", x.undo(), EMPTY);
        x.addPicture(1);
        CHECK.due("one action: states", x.count(8), 1);
        CHECK.due("one action: undo()", x.undo(), 0);
        CHECK.due("undone: states", x.count(8), 0);
        CHECK.due("undone: undo()", x.undo(), EMPTY);
        CHECK.due("no picture", x.count(0), 0);
    }

    /** "A history of at most 5 states is kept"; undo() "returns the number of states that are left" */
    private static void fiveStates() {
        for (int actions = 0; actions <= 12; actions++) {
            LightWheel x = new LightWheel();
            for (int i = 1; i <= actions; i++) {
                CHECK.due("the previous one", x.set(GLOW, 20 + i), 19 + i);
                CHECK.due("states behind " + i + " actions", x.count(8), Math.min(5, i));
            }
            int states = Math.min(5, actions);
            for (int undone = 1; undone <= states; undone++) {
                CHECK.due(actions + " actions, undo " + undone, x.undo(), states - undone);
                CHECK.due(actions + " actions, states", x.count(8), states - undone);
                CHECK.due(actions + " actions, glow", x.setting(GLOW), 20 + actions - undone);
            }
            CHECK.due(actions + " actions, one undo more", x.undo(), EMPTY);
            CHECK.due(actions + " actions, glow", x.setting(GLOW), 20 + actions - states);
        }
    }

    /** "when a sixth one is recorded, the oldest one is dropped" */
    private static void theSixthDropsTheOldest() {
        LightWheel five = new LightWheel();
        LightWheel six = new LightWheel();
        for (LightWheel x : new LightWheel[] {five, six}) {
            x.addPicture(3);
            x.run(1);
            x.setSecondArm(1);
            x.setBroken(0, 0, 1);
            x.setKind(0, 2);
        }
        six.paint(0, 0, 0, 1);
        for (int left = 4; left >= 0; left--) {
            CHECK.due("five actions", five.undo(), left);
            CHECK.due("six actions", six.undo(), left);
        }
        CHECK.due("five actions", five.undo(), EMPTY);
        CHECK.due("six actions", six.undo(), EMPTY);
        CHECK.due("the first of five is undone", five.count(0), 0);
        CHECK.due("the first of six stays", six.count(0), 1);
        CHECK.due("the second of six is undone", six.count(3), 0);
    }

    /** Undo and new actions in turn, past the fifth state. */
    private static void undoneAndGoneOn() {
        for (int back = 1; back <= 5; back++) {
            LightWheel x = new LightWheel();
            for (int i = 1; i <= 7; i++) {
                x.set(GLOW, 20 + i);
            }
            for (int i = 0; i < back; i++) {
                x.undo();
            }
            CHECK.due("back by " + back, x.setting(GLOW), 27 - back);
            for (int i = 1; i <= 3; i++) {
                CHECK.due("on", x.set(GLOW, 50 + i), i == 1 ? 27 - back : 49 + i);
                CHECK.due("states", x.count(8), Math.min(5, 5 - back + i));
            }
            x.undo();
            CHECK.due("the second new one", x.setting(GLOW), 52);
            x.undo();
            CHECK.due("the first new one", x.setting(GLOW), 51);
            x.undo();
            CHECK.due("where it had been back", x.setting(GLOW), 27 - back);
            int left = Math.min(5, 8 - back) - 3;
            CHECK.due("states", x.count(8), left);
            for (int i = 1; i <= left; i++) {
                CHECK.due("older ones", x.undo(), left - i);
                CHECK.due("glow", x.setting(GLOW), 27 - back - i);
            }
            CHECK.due("no more", x.undo(), EMPTY);
        }
    }

    /** "Every successful call of a method that is called an action records the state before it" */
    private static void everyActionIsRecorded() {
        for (Action action : ACTIONS) {
            for (int states = 0; states <= 5; states++) {
                LightWheel x = busyWith(states);
                CHECK.due("states before", x.count(8), states);
                action.on(x);
                CHECK.due(action.name + " with " + states + " states", x.count(8), Math.min(5, states + 1));
            }
        }
    }

    /** "undo() removes the latest state from the history and restores it": all of it, for each action */
    private static void everyActionIsRestored() {
        for (Action action : ACTIONS) {
            for (int states : new int[] {0, 4}) {
                same(action.name + " and undo with " + states + " states", x -> busy(x, states), x -> {
                    busy(x, states);
                    action.on(x);
                    x.undo();
                });
            }
            same(action.name + " and undo with a full history", x -> busy(x, 4), x -> {
                busy(x, 5);
                action.on(x);
                x.undo();
            });
            CHECK.holds(action.name + " does change the wheel", !Arrays.equals(Scene.state(x -> busy(x, 5)),
                    Scene.state(x -> {
                        busy(x, 5);
                        action.on(x);
                    })));
        }
    }

    /** An action is recorded also if it leaves all as it was. */
    private static void actionsThatChangeNothing() {
        for (Action action : NOTHING_NEW) {
            LightWheel x = busyWith(2);
            action.on(x);
            CHECK.due(action.name + " again", x.count(8), 3);
            same(action.name + " leaves all as it was", y -> busy(y, 3), y -> {
                busy(y, 2);
                action.on(y);
            });
        }
        LightWheel x = new LightWheel();
        x.addPicture(1);
        CHECK.due("an empty text over a dark column", x.load(0), 1);
        CHECK.due("is recorded", x.count(8), 2);
        x.set(0, 0);
        x.run(2);
        x.run(1);
        CHECK.due("so is a tick in which the bar stands", x.count(8), 5);
    }

    /** append, clearText, undo and all that looks or asks are not called actions. */
    private static void whatIsNoAction() {
        for (int states = 0; states <= 5; states += 5) {
            LightWheel x = busyWith(states);
            x.append(49);
            CHECK.due("append", x.count(8), states);
            x.clearText();
            CHECK.due("clearText", x.count(8), states);
            x.clearText();
            CHECK.due("clearText of an empty text", x.count(8), states);
            x.setting(0);
            x.picture(0, 0);
            x.color(0, 0, 0);
            x.broken(0, 0);
            x.place(0, 0, 1);
            x.columnAt(0, 0);
            CHECK.due("looking", x.count(8), states);
            x.ticksAround();
            x.gaps(10);
            x.bestSpeed(5);
            x.meetings(0, 1);
            CHECK.due("asking", x.count(8), states);
            for (int i = states; i > 0; i--) {
                CHECK.due("undo", x.undo(), i - 1);
            }
            CHECK.due("undo is no action", x.undo(), EMPTY);
        }
    }

    /** "a state is everything but the text and the history" */
    private static void textIsNoPartOfAState() {
        LightWheel x = new LightWheel();
        Check.type(x, "12");
        x.addPicture(1);
        Check.type(x, ";3");
        x.run(1);
        Check.type(x, "4");
        CHECK.due("undo()", x.undo(), 1);
        CHECK.due("the text is as long as ever", x.count(9), 5);
        CHECK.due("and reads as ever", x.load(0), 2);
        CHECK.due("its last light", x.color(0, 1, 1), 4);
        CHECK.due("it is empty now", x.count(9), 0);
        x.undo();
        CHECK.due("the picture is as before", x.picture(0, 0), 1);
        CHECK.due("the text does not come back", x.count(9), 0);
        Check.type(x, "7;7;7");
        x.run(1);
        x.clearText();
        x.undo();
        CHECK.due("what was made empty stays empty", x.count(9), 0);
        Check.type(x, "55");
        x.undo();
        CHECK.due("all undone", x.undo(), EMPTY);
        CHECK.due("but the text", x.clearText(), 2);
    }

    /** Undo takes a state out of the history; it brings none back. */
    private static void historyIsNoPartOfAState() {
        LightWheel x = busyWith(5);
        for (int left = 4; left >= 0; left--) {
            CHECK.due("undo()", x.undo(), left);
            CHECK.due("count(8)", x.count(8), left);
        }
        x.addPicture(1);
        CHECK.due("one state again", x.count(8), 1);
    }

    /** The state that undo comes back to is the whole of a new wheel. */
    private static void backToANewWheel() {
        same("five actions, all undone", x -> { }, x -> {
            x.addPicture(40);
            Check.type(x, "(12)7;".repeat(20) + "(12)1");
            x.load(0);
            x.setSecondArm(1);
            x.set(0, 60);
            x.run(100);
            for (int i = 0; i < 5; i++) {
                x.undo();
            }
        });
        same("and done again, as if never undone", x -> {
            x.addPicture(2);
            x.paint(0, 1, 5, 3);
            x.run(7);
        }, x -> {
            x.addPicture(40);
            x.paint(0, 7, 5, 7);
            x.setPlace(0, 9, 9);
            x.setSecondArm(1);
            x.run(50);
            for (int i = 0; i < 5; i++) {
                x.undo();
            }
            x.addPicture(2);
            x.paint(0, 1, 5, 3);
            x.run(7);
        });
    }

    /** "Lets ticks pass. This is one action." */
    private static void runIsOneAction() {
        LightWheel x = Check.fullWheel(2);
        x.run(3);
        int states = x.count(8);
        CHECK.due("states", states, 5);
        x.run(100);
        CHECK.due("ticks", x.count(3), 103);
        x.undo();
        CHECK.due("all of them are undone", x.count(3), 3);
        CHECK.due("and no other action", x.count(8), 4);
        same("run(40) is 40 times run(1)", y -> {
            busy(y, 5);
            for (int i = 0; i < 40; i++) {
                y.run(1);
            }
        }, y -> {
            busy(y, 5);
            y.run(40);
        });
    }

    /** A refused action records nothing: with a full history too, where count(8) would not tell. */
    private static void refusedActions() {
        LightWheel x = new LightWheel();
        for (int i = 0; i < 6; i++) {
            x.set(GLOW, 31 + i);
        }
        x.addPicture(0);
        x.paint(0, 0, 0, 0);
        x.setPlace(0, 0, 1);
        x.setKind(0, 0);
        x.load(0);
        x.setSecondArm(2);
        x.setBroken(0, 12, 1);
        x.set(GLOW, 100);
        x.run(0);
        x.append(0);
        for (int i = 4; i >= 0; i--) {
            CHECK.due("undo()", x.undo(), i);
            CHECK.due("glow", x.setting(GLOW), 31 + i);
        }
    }
}
