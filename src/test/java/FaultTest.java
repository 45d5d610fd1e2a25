/** Promises 17 to 19: the sound line, differences and faults. */
public final class FaultTest {
    public static void main(String[] args) {
        keepSound();
        differences();
        place();
        partOfPlace();
        beforeThePulses();
        wrongInputs();
        Check.finish();
    }

    private static LineEchoes line(int... lengthsAndFractions) {
        LineEchoes x = new LineEchoes();
        for (int i = 0; i < lengthsAndFractions.length; i += 2) {
            x.addPart(lengthsAndFractions[i], lengthsAndFractions[i + 1]);
        }
        return x;
    }

    private static void faults(String what, LineEchoes x, long... due) {
        for (int i = 0; i < due.length; i++) {
            Check.same(what + ": fault(" + i + ")", x.fault(i), due[i]);
        }
    }

    private static void keepSound() {
        LineEchoes x = line(3, 0, 4, 500);
        Check.same("the sound line is empty at first", x.differences(), 1);
        faults("against nothing", x, 14, 14, 1, 1);
        Check.same("keepSound", x.keepSound(), 1);
        Check.same("no differences", x.differences(), 0);
        faults("no difference", x, -1, -1, -1, -1);
        Check.same("keepSound again", x.keepSound(), 1);
        x.setPart(0, 3, 100);
        x.undo();
        x.undo();
        Check.same("the first one is still kept", x.differences(), 0);
        x.undo();
        Check.same("keepSound is undone", x.differences(), 1);
        Check.same("keepSound of nothing", new LineEchoes().keepSound(), 0);
    }

    private static void differences() {
        LineEchoes x = line(3, 0, 4, 500);
        x.keepSound();
        x.setPart(1, 5, 500);
        Check.same("two times differ", x.differences(), 2);
        faults("an echo less", x, 14, 14, 1, -1);
        x.setBench(0, 1, 15);
        Check.same("one of them up to the window", x.differences(), 1);
        x.setBench(0, 1, 16);
        Check.same("both up to the window", x.differences(), 2);
        x.setBench(0, 1, 13);
        Check.same("none up to the window", x.differences(), 0);
        faults("none up to the window", x, -1, -1, -1, -1);
        x.keepSound();
        x.setBench(0, 1, 100);
        faults("what was behind the window counts with 0", x, 16, 16, 1, 1);
        x.setPart(1, 5, 400);
        Check.same("one time differs", x.differences(), 1);
        x.keepSound();
        x.setPart(1, 5, 300);
        faults("an echo that is smaller", x, 16, 16, 1, -1);
        x.setPart(1, 5, 500);
        faults("an echo that is greater", x, 16, 16, 1, 1);
    }

    private static void place() {
        LineEchoes x = line(3, 0, 4, 500);
        x.addPulse(5, 10);
        x.removePulse(0);
        x.addPulse(2, 10);
        x.addPulse(9, 10);
        faults("the earliest pulse is not the first", x, 16, 14, 1, 1);
        x.setBench(0, 1, 20);
        x.keepSound();
        x.addPulse(0, 1);
        // The energy 1 is not turned back at a fraction of 500, so no echo changes.
        faults("an early pulse without an echo", x, -1, -1, -1, -1);
        x.setPart(1, 4, 600);
        faults("but it is the earliest", x, 16, 16, -1, 1);
        LineEchoes late = line(1, 1000);
        late.setBench(0, 1, 10);
        late.keepSound();
        late.addPulse(1, 7);
        late.addPulse(50, 7);
        faults("pulses behind the window", late, 3, 3, -1, 1);
    }

    private static void partOfPlace() {
        long[][] due = {{1, 0}, {2, 0}, {3, 1}, {4, 1}, {5, 1}, {6, 1}, {7, 2}, {8, 2}, {9, -1}};
        for (long[] pair : due) {
            LineEchoes x = missingEchoAt((int) pair[0]);
            Check.same("place " + pair[0], x.fault(1), pair[0]);
            Check.same("part of the place " + pair[0], x.fault(2), pair[1]);
        }
    }

    /** A line of the parts 1, 2, 1 without echoes, whose kept list has one at the given place. */
    private static LineEchoes missingEchoAt(int place) {
        LineEchoes x = line(1, 1000);
        x.addPulse(48 + place, 1);
        x.removePulse(0);
        x.keepSound();
        x.addPulse(50, 1);
        x.removePulse(0);
        x.setPart(0, 1, 0);
        x.addPart(2, 0);
        x.addPart(1, 0);
        return x;
    }

    private static void beforeThePulses() {
        LineEchoes x = line(1, 1000);
        x.keepSound();
        x.addPulse(2, 5);
        x.removePulse(0);
        faults("a place of 0", x, 2, 0, -1, -1);
        x.addPulse(30, 5);
        x.removePulse(0);
        faults("a place below 0", x, 2, -28, -1, -1);
    }

    private static void wrongInputs() {
        LineEchoes x = line(3, 500);
        Check.refusesUnchanged("fault(4)", IllegalArgumentException.class, x, () -> x.fault(4));
        Check.refusesUnchanged("fault(-1)", IllegalArgumentException.class, x, () -> x.fault(-1));
        x.keepSound();
        Check.refuses("fault(4) without a difference", IllegalArgumentException.class,
                () -> x.fault(4));
    }
}
