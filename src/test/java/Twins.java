/**
 * For calls that must leave no trace: two objects are made by the same calls, one of them takes one
 * call more, and afterwards both must answer alike, down to the last state of the undo stack.
 */
final class Twins {
    interface Maker {
        LineEchoes make();
    }

    interface CallOn {
        long answer(LineEchoes x);
    }

    private Twins() {
    }

    static void refuses(String what, Class<?> kind, Maker maker, CallOn call) {
        LineEchoes called = maker.make();
        Check.refuses(what, kind, () -> call.answer(called));
        alike("after the refused " + what, called, maker.make());
    }

    /** Both objects are used up by this: their undo stacks are emptied. */
    static void alike(String what, LineEchoes one, LineEchoes other) {
        Check.sameText(what, story(one), story(other));
    }

    /**
     * The digest tells of the script and of the saved states only how many bytes and states there
     * are, so the script is run, and the states are brought back one by one.
     */
    private static String story(LineEchoes x) {
        StringBuilder told = new StringBuilder();
        told.append(x.digest());
        for (int left = 3; left > 0; left = undone(x, told)) {
            told.append(' ').append(x.differences());
        }
        told.append(" script ").append(x.run()).append(' ').append(x.digest());
        return told.append(' ').append(x.clearScript()).toString();
    }

    private static int undone(LineEchoes x, StringBuilder told) {
        try {
            int left = x.undo();
            told.append(" undo ").append(left).append(' ').append(x.digest());
            return left;
        } catch (IllegalStateException e) {
            told.append(" nothing to undo");
            return 0;
        }
    }

    static void type(LineEchoes x, String text) {
        for (int i = 0; i < text.length(); i++) {
            x.type(text.charAt(i));
        }
    }

    /** Parts of the lengths 2, 3, .. with the fractions 50, 150, .., and a full undo stack. */
    static LineEchoes line(int parts) {
        LineEchoes x = new LineEchoes();
        for (int k = 0; k < parts; k++) {
            x.addPart(k + 2, 100 * k + 50);
        }
        type(x, "part 2 222;look;sound;");
        x.keepSound();
        x.setObserved(6, 5000);
        x.setBench(100, 3, 60);
        x.addPulse(7, 4321);
        return x;
    }

    /** A line whose number of pulses, from 1 to 4, is given; pulse i has the energy 10 to the i. */
    static LineEchoes pulses(int number) {
        LineEchoes x = new LineEchoes();
        x.addPart(3, 1000);
        for (int i = 0, energy = 1; i < number; i++, energy *= 10) {
            x.addPulse(5 * i, energy);
            if (i == 0) {
                x.removePulse(0);
            }
        }
        return x;
    }
}
