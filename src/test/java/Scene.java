import java.util.ArrayList;
import java.util.Arrays;
import java.util.List;

/**
 * Calls that are played again on new wheels: so all of a wheel can be looked at, and none gets more than the 512
 * calls that the document speaks of.
 */
final class Scene {
    /** The calls that make the scene: at most 200. */
    interface Calls {
        void on(LightWheel x);
    }

    interface Call {
        int on(LightWheel x);
    }

    /** A call with one argument left open. */
    interface CallWith {
        int on(LightWheel x, int value);
    }

    private static final int STATES = 5;
    private static final int LOOKS_A_WHEEL = 200;
    private static final int MOST_KEPT = 100;
    private static final List<Call> LOOKS = looks();

    private final Check check;
    private final String name;
    private final Calls calls;
    private final List<String> keptNames = new ArrayList<>();
    private final List<Call> kept = new ArrayList<>();

    Scene(Check check, String name, Calls calls) {
        this.check = check;
        this.name = name;
        this.calls = calls;
    }

    LightWheel play() {
        LightWheel x = new LightWheel();
        calls.on(x);
        return x;
    }

    /** The call's answer on a new wheel of this scene. */
    void answers(String call, int due, Call asked) {
        check.due(name + ": " + call, asked.on(play()), due);
    }

    /** The call changes nothing: end() looks for it. */
    void keeps(String call, Call asked) {
        keptNames.add(call);
        kept.add(asked);
    }

    /** The call answers an error, and changes nothing. */
    void refuses(String call, int error, Call asked) {
        answers(call, error, asked);
        keeps(call, asked);
    }

    /** An argument's range: both ends are taken; what is just outside, or far, is refused. "#" is the argument. */
    void range(String call, int lowest, int highest, CallWith asked) {
        for (int value : new int[] {lowest, highest}) {
            check.holds(name + ": " + call.replace("#", "" + value) + " is taken",
                    asked.on(play(), value) != LightWheel.INVALID_ARGUMENT);
        }
        for (int value : new int[] {lowest - 1, highest + 1, Integer.MIN_VALUE, Integer.MAX_VALUE}) {
            refuses(call.replace("#", "" + value), LightWheel.INVALID_ARGUMENT, x -> asked.on(x, value));
        }
    }

    /** The same for an argument of a call that only looks or asks: what is taken changes nothing either. */
    void rangeOfLook(String call, int lowest, int highest, CallWith asked) {
        range(call, lowest, highest, asked);
        keeps(call.replace("#", "" + lowest), x -> asked.on(x, lowest));
        keeps(call.replace("#", "" + highest), x -> asked.on(x, highest));
    }

    /** Holds if none of the kept calls changed anything that can be seen now or after any number of undos. */
    void end() {
        for (int from = 0; from < kept.size(); from += MOST_KEPT) {
            List<Call> some = kept.subList(from, Math.min(kept.size(), from + MOST_KEPT));
            if (!changed(some)) {
                check.holds(name + ": nothing is changed", true);
                continue;
            }
            for (int i = from; i < from + some.size(); i++) {
                check.holds(name + ": " + keptNames.get(i) + " changes nothing", !changed(kept.subList(i, i + 1)));
            }
            check.holds(name + ": those calls together change nothing", false);
        }
        kept.clear();
        keptNames.clear();
    }

    private boolean changed(List<Call> some) {
        for (int undone = 0; undone <= STATES; undone++) {
            int times = undone;
            Calls without = x -> {
                calls.on(x);
                undo(x, times);
            };
            Calls with = x -> {
                calls.on(x);
                for (Call call : some) {
                    call.on(x);
                }
                undo(x, times);
            };
            if (!Arrays.equals(everything(without), everything(with))) {
                return true;
            }
        }
        return false;
    }

    private static void undo(LightWheel x, int times) {
        for (int i = 0; i < times; i++) {
            x.undo();
        }
    }

    /** What all looks answer behind the calls; the length of the text comes first. */
    static int[] everything(Calls calls) {
        int[] answers = new int[LOOKS.size()];
        LightWheel x = null;
        for (int i = 0; i < answers.length; i++) {
            if (i % LOOKS_A_WHEEL == 0) {
                x = new LightWheel();
                calls.on(x);
            }
            answers[i] = LOOKS.get(i).on(x);
        }
        return answers;
    }

    /** The same without the text, which is no part of a state. */
    static int[] state(Calls calls) {
        int[] all = everything(calls);
        return Arrays.copyOfRange(all, 1, all.length);
    }

    private static List<Call> looks() {
        List<Call> looks = new ArrayList<>();
        // The numbers come first, ahead of any look that might change them.
        for (int i = 9; i >= 0; i--) {
            int what = i;
            looks.add(x -> x.count(what));
        }
        for (int i = 0; i < 4; i++) {
            int number = i;
            looks.add(x -> x.setting(number));
            for (int j = 0; j < 6; j++) {
                int what = j;
                looks.add(x -> x.picture(number, what));
            }
            for (int j = 0; j < 40 * 12; j++) {
                int column = j / 12;
                int light = j % 12;
                looks.add(x -> x.color(number, column, light));
            }
        }
        for (int i = 0; i < 2 * 12; i++) {
            int arm = i / 12;
            int light = i % 12;
            looks.add(x -> x.broken(arm, light));
        }
        for (int i = 0; i < 720 * 12; i++) {
            int angle = i / 12;
            int light = i % 12;
            looks.add(x -> x.place(angle, light, 1));
            looks.add(x -> x.place(angle, light, 2));
        }
        return looks;
    }

    /** A wheel on which all things are other than on a new one, with two pictures, a wrong text and a full history. */
    static void busy(LightWheel x) {
        x.addPicture(3);
        x.addPicture(40);
        x.paint(0, 0, 0, 1);
        x.paint(0, 2, 11, 7);
        for (int column = 0; column < 40; column += 3) {
            x.paint(1, column, column % 12, 1 + column % 7);
        }
        x.setPlace(0, 30, 11);
        x.setPlace(1, 700, 7);
        x.setSecondArm(1);
        x.setBroken(0, 3, 1);
        x.set(0, 35);
        x.set(1, 7);
        x.set(2, 4);
        x.set(3, 30);
        Check.type(x, "12;(3");
        x.run(9);
        x.setKind(1, 1);
        x.run(6);
        x.setBroken(1, 8, 1);
        x.run(2);
    }
}
