/**
 * The window: what happens at its last time and what arrives later; times behind it when an echo
 * list was kept or observed; and the place of the first difference.
 */
public final class WindowEdgeTest {
    private static final Class<?> ARGUMENT = IllegalArgumentException.class;
    private static final int NONE = LineEchoes.NONE;

    public static void main(String[] args) {
        lastTimeOfEchoes();
        lastTimeOfArrivals();
        lastTimeOfDropping();
        lastTimeOfMerging();
        lastTimeOfPulses();
        latestPulse();
        smallestWindow();
        greatestWindow();
        energyIsKept();
        keptBehindTheWindow();
        keptInAGreaterWindow();
        observedBehindTheWindow();
        peelingUpToTheWindow();
        placeIsZeroOrLess();
        placeBehindTheLine();
        placeBetweenParts();
        earliestPulseBehindTheWindow();
        Check.finish();
    }

    private static LineEchoes line(int... lengthsAndFractions) {
        LineEchoes x = new LineEchoes();
        for (int i = 0; i < lengthsAndFractions.length; i += 2) {
            x.addPart(lengthsAndFractions[i], lengthsAndFractions[i + 1]);
        }
        return x;
    }

    private static void totals(String what, LineEchoes x, long... due) {
        for (int i = 0; i < due.length; i++) {
            Check.same(what + ": total(" + i + ")", x.total(i), due[i]);
        }
    }

    private static void faults(String what, LineEchoes x, long... due) {
        for (int i = 0; i < due.length; i++) {
            Check.same(what + ": fault(" + i + ")", x.fault(i), due[i]);
        }
    }

    /** Half of 100000 is back at 6; a fifth of that is turned back there, and so on. */
    private static LineEchoes half(int least, int window) {
        LineEchoes x = line(3, 500);
        x.setBench(200, least, window);
        return x;
    }

    /** "Everything happens at whole times from 0 to the window." */
    private static void lastTimeOfEchoes() {
        LineEchoes at = half(1, 6);
        totals("window 6", at, 100000, 40000, 50000, 0, 10000, 0, 0, 1, 40000);
        Check.same("echo at the window", at.echo(6), 40000);
        Check.same("echoTime", at.echoTime(0), 6);
        Check.same("echoTime behind it", at.echoTime(1), NONE);
        Check.same("last byte", at.echoByte(7), ';');
        Check.same("byte behind it", at.echoByte(8), NONE);
        LineEchoes before = half(1, 5);
        totals("window 5", before, 100000, 0, 50000, 0, 50000, 0, 0, 0, 0);
        Check.refuses("echo behind the window", ARGUMENT, () -> before.echo(6));
        Check.same("echoTime", before.echoTime(0), NONE);
        LineEchoes between = half(1, 11);
        totals("window 11", between, 100000, 40000, 55000, 0, 5000, 0, 0, 1, 40000);
        totals("window 12", half(1, 12), 100000, 44000, 55000, 0, 1000, 0, 0, 2, 40000);
    }

    /** "in packets that arrive later than the window". */
    private static void lastTimeOfArrivals() {
        LineEchoes at = half(1, 3);
        Check.same("arrival at the window", at.arrival(1, 3, false), 100000);
        totals("window 3", at, 100000, 0, 50000, 0, 50000, 0, 0, 0, 0);
        LineEchoes before = half(1, 2);
        Check.same("arrival before", before.arrival(1, 2, false), 0);
        Check.refuses("arrival behind the window", ARGUMENT, () -> before.arrival(1, 3, false));
        totals("window 2", before, 100000, 0, 0, 0, 100000, 0, 0, 0, 0);
        LineEchoes inner = line(3, 0, 4, 1000);
        inner.setBench(0, 1, 11);
        Check.same("from far at the window", inner.arrival(1, 11, true), 100000);
        totals("window 11", inner, 100000, 0, 0, 0, 100000, 0, 0, 0, 0);
        inner.setBench(0, 1, 14);
        totals("window 14", inner, 100000, 100000, 0, 0, 0, 0, 0, 1, 100000);
        inner.setBench(0, 1, 13);
        totals("window 13", inner, 100000, 0, 0, 0, 100000, 0, 0, 0, 0);
    }

    /** The packet of 500 would set out at 15. */
    private static void lastTimeOfDropping() {
        totals("window 15", half(1000, 15), 100000, 44000, 55500, 500, 0, 0, 1, 2, 40000);
        totals("window 14", half(1000, 14), 100000, 44000, 55000, 0, 1000, 0, 0, 2, 40000);
        LineEchoes small = half(1000, 14);
        small.addPulse(14, 999);
        totals("a pulse is dropped at 14", small, 100999, 44000, 55000, 999, 1000, 0, 1, 2, 40000);
        small.setBench(200, 1000, 13);
        totals("and is not there at 13", small, 100000, 44000, 55000, 0, 1000, 0, 0, 2, 40000);
    }

    private static void lastTimeOfMerging() {
        LineEchoes front = half(1, 6);
        front.addPulse(6, 5);
        totals("a pulse at 6", front, 100005, 40000, 50000, 0, 10005, 1, 0, 1, 40000);
        front.setBench(200, 1, 5);
        totals("window 5", front, 100000, 0, 50000, 0, 50000, 0, 0, 0, 0);
        LineEchoes joint = line(1, 500, 1, 1000);
        joint.addPulse(2, 400);
        joint.setBench(0, 1, 3);
        // At 3 the joint 1 is met by 50000 from far and by 400 from near.
        totals("window 3", joint, 100400, 50000, 0, 0, 50400, 2, 0, 1, 50000);
        joint.setBench(0, 1, 2);
        totals("window 2", joint, 100400, 50000, 0, 0, 50400, 0, 0, 1, 50000);
    }

    /** "energy of the pulses with times up to the window". */
    private static void lastTimeOfPulses() {
        LineEchoes x = line(3, 1000);
        x.addPulse(50, 70);
        x.addPulse(51, 800);
        x.addPulse(51, 800);
        x.setBench(0, 1, 50);
        totals("window 50", x, 100070, 100000, 0, 0, 70, 0, 0, 1, 100000);
        x.setBench(0, 1, 49);
        totals("window 49", x, 100000, 100000, 0, 0, 0, 0, 0, 1, 100000);
        x.setBench(0, 1, 51);
        totals("window 51", x, 101670, 100000, 0, 0, 1670, 1, 0, 1, 100000);
        x.setBench(0, 1000, 51);
        totals("the pulse of 70 is dropped", x, 101670, 100000, 0, 70, 1600, 1, 1, 1, 100000);
        x.setBench(0, 1000, 49);
        totals("it is behind the window", x, 100000, 100000, 0, 0, 0, 0, 0, 1, 100000);
    }

    private static void latestPulse() {
        LineEchoes x = line(20, 1000);
        x.addPulse(100, 9);
        Check.same("up to 100", x.total(0), 100009);
        Check.same("it is under way", x.total(4), 9);
        x.setBench(0, 1, 99);
        Check.same("up to 99", x.total(0), 100000);
        x.setBench(0, 1, 140);
        Check.same("its echo", x.echo(140), 9);
        x.setBench(0, 1, 139);
        Check.same("it is under way", x.total(4), 9);
    }

    private static void smallestWindow() {
        LineEchoes x = line(1, 400);
        x.addPulse(1, 50);
        x.setBench(0, 1, 1);
        totals("window 1", x, 100050, 0, 60000, 0, 40050, 0, 0, 0, 0);
        Check.same("echo(0)", x.echo(0), 0);
        Check.same("echo(1)", x.echo(1), 0);
        Check.same("arrival at 1", x.arrival(1, 1, false), 100000);
        Check.refuses("echo(2)", ARGUMENT, () -> x.echo(2));
        x.setBench(0, 1, 2);
        totals("window 2", x, 100050, 40000, 60030, 0, 20, 0, 0, 1, 40000);
    }

    private static void greatestWindow() {
        LineEchoes x = line(20, 0, 20, 0, 20, 0, 20, 0, 20, 1000);
        x.setBench(0, 1, 200);
        totals("window 200", x, 100000, 100000, 0, 0, 0, 0, 0, 1, 100000);
        Check.same("echo(200)", x.echo(200), 100000);
        Check.same("keepSound", x.keepSound(), 1);
        Check.same("observe", x.observe(), 1);
        Check.same("observed(200)", x.observed(200), 100000);
        Check.same("peel(0)", x.peel(0), LineEchoes.TOO_LONG);
        x.addPulse(1, 7);
        Check.same("an echo at 201 is under way", x.total(4), 7);
        Check.refuses("echo(201)", ARGUMENT, () -> x.echo(201));
        x.setBench(0, 1, 199);
        totals("window 199", x, 100007, 0, 0, 0, 100007, 0, 0, 0, 0);
    }

    /** "has left the line, or is in echoes, or was dropped, or is under way". */
    private static void energyIsKept() {
        for (int window = 1; window <= 200; window++) {
            LineEchoes x = line(3, 333, 1, 77, 2, 501, 5, 900);
            x.addPulse(4, 12345);
            x.addPulse(90, 777);
            x.setBench(123, 40, window);
            long sum = x.total(1) + x.total(2) + x.total(3) + x.total(4);
            Check.same("all energy up to " + window, sum, x.total(0));
            Check.same("the pulses", x.total(0),
                    100000 + (window >= 4 ? 12345 : 0) + (window >= 90 ? 777 : 0));
        }
    }

    /** "times that were behind the window when it was kept count with 0". */
    private static void keptBehindTheWindow() {
        for (int window = 1; window <= 40; window++) {
            LineEchoes x = half(1, window);
            // The echoes are at 6, 12, 18, 24 and 30.
            int kept = Math.min(window / 6, 5);
            Check.same("keepSound in " + window, x.keepSound(), kept);
            Check.same("no difference in " + window, x.differences(), 0);
            x.setBench(200, 1, 200);
            Check.same("differences in 200", x.differences(), 5 - kept);
            int first = kept == 5 ? NONE : 6 * kept + 6;
            faults("kept in " + window, x, first, first, kept == 0 ? 0 : NONE,
                    kept == 5 ? NONE : 1);
        }
    }

    /** What was kept in a greater window is there again when the window is great again. */
    private static void keptInAGreaterWindow() {
        LineEchoes x = half(1, 200);
        Check.same("keepSound", x.keepSound(), 5);
        x.setPart(0, 3, 0);
        int[] windows = {200, 30, 29, 24, 23, 12, 11, 6, 5, 1, 200};
        int[] missing = {5, 5, 4, 4, 3, 2, 1, 1, 0, 0, 5};
        for (int i = 0; i < windows.length; i++) {
            x.setBench(200, 1, windows[i]);
            Check.same("differences in " + windows[i], x.differences(), missing[i]);
            int first = missing[i] == 0 ? NONE : 6;
            faults("in " + windows[i], x, first, first, missing[i] == 0 ? NONE : 0, -1);
        }
    }

    /** "Makes the observed echo list the present one (0 behind the window)." */
    private static void observedBehindTheWindow() {
        LineEchoes x = half(1, 200);
        x.setObserved(200, 55);
        x.setObserved(13, 55);
        Check.same("observe in 200", x.observe(), 5);
        Check.same("at 200", x.observed(200), 0);
        Check.same("at 13", x.observed(13), 0);
        Check.same("at 30", x.observed(30), 4);
        x.setBench(200, 1, 29);
        Check.same("the window does not change it", x.observed(30), 4);
        Check.same("observe in 29", x.observe(), 4);
        Check.same("at 24", x.observed(24), 40);
        Check.same("behind the window", x.observed(30), 0);
        x.setBench(200, 1, 30);
        Check.same("observe in 30", x.observe(), 5);
        Check.same("at the window", x.observed(30), 4);
        x.setBench(200, 1, 1);
        Check.same("setObserved behind the window", x.setObserved(200, 4000000), 0);
        Check.same("is there", x.observed(200), 4000000);
        Check.same("observe in 1", x.observe(), 0);
        Check.same("is gone", x.observed(200), 0);
    }

    /** "(What is behind the window stays unknown.)" */
    private static void peelingUpToTheWindow() {
        LineEchoes x = new LineEchoes();
        x.setObserved(6, 30000);
        x.setObserved(10, 1);
        int[] windows = {5, 6, 9, 10};
        int[] results = {LineEchoes.COMPLETE, LineEchoes.COMPLETE, LineEchoes.COMPLETE,
            LineEchoes.CONTRADICTION};
        int[] parts = {0, 1, 1, 1};
        for (int i = 0; i < windows.length; i++) {
            x.setBench(0, 1, windows[i]);
            Check.same("result in " + windows[i], x.peel(0), results[i]);
            Check.same("time in " + windows[i], x.peel(1), i < 3 ? NONE : 10);
            Check.same("parts in " + windows[i], x.peel(2), parts[i]);
        }
        LineEchoes odd = new LineEchoes();
        odd.setObserved(101, 9);
        Check.same("odd behind the window", odd.peel(0), LineEchoes.COMPLETE);
        odd.setBench(0, 1, 101);
        Check.same("odd at the window", odd.peel(0), LineEchoes.CONTRADICTION);
        Check.same("its time", odd.peel(1), 101);
        LineEchoes last = new LineEchoes();
        last.setBench(0, 1, 40);
        last.setObserved(40, 100000);
        Check.same("a part at the window", last.peel(2), 1);
        Check.same("of the length 20", last.found(0, 0), 20);
        Check.same("and the fraction 1000", last.found(0, 1), 1000);
        last.setBench(0, 1, 39);
        Check.same("no part behind the window", last.peel(2), 0);
    }

    /** Promise 19: NONE "if .. the place is 0 or less"; the place itself is told as it is. */
    private static void placeIsZeroOrLess() {
        // The kept echo is at 2; the only pulse is later, so that nothing has come back then.
        for (int time = 0; time <= 100; time++) {
            LineEchoes x = line(1, 1000);
            x.keepSound();
            x.addPulse(time, 5);
            x.removePulse(0);
            int part = 2 - time > 0 ? 0 : NONE;
            faults("a pulse at " + time, x, 2, 2 - time, part, -1);
        }
    }

    /** Kept with an echo at the place, against a line without echoes. */
    private static LineEchoes missingAt(int place, int... lengths) {
        LineEchoes x = line(1, 1000);
        x.addPulse(place - 2, 1);
        x.removePulse(0);
        x.keepSound();
        x.removePart(0);
        for (int length : lengths) {
            x.addPart(length, 0);
        }
        x.addPulse(0, 1);
        x.removePulse(0);
        return x;
    }

    /** "NONE if it lies behind the line". */
    private static void placeBehindTheLine() {
        faults("at the end", missingAt(20, 10), 20, 20, 0, -1);
        faults("half a step behind the end", missingAt(21, 10), 21, 21, NONE, -1);
        faults("a step behind the end", missingAt(22, 10), 22, 22, NONE, -1);
        faults("at the end of two", missingAt(26, 10, 3), 26, 26, 1, -1);
        faults("behind the end of two", missingAt(27, 10, 3), 27, 27, NONE, -1);
        faults("behind a line without parts", missingAt(2), 2, 2, NONE, -1);
        int[] eight = {1, 2, 3, 4, 5, 6, 7, 8};
        faults("at the end of eight", missingAt(72, eight), 72, 72, 7, -1);
        faults("behind the end of eight", missingAt(73, eight), 73, 73, NONE, -1);
    }

    /** "greater than the sum .. before k, and not greater than this sum plus the length". */
    private static void placeBetweenParts() {
        int[] lengths = {1, 2, 3, 4, 5, 6, 7, 8};
        int part = 0;
        int reach = 1;
        for (int place = 2; place <= 72; place++) {
            while (place > 2 * reach) {
                part++;
                reach += lengths[part];
            }
            Check.same("part of the place " + place, missingAt(place, lengths).fault(2), part);
        }
    }

    /** "t minus the time of the earliest pulse": the earliest of all, whatever the window is. */
    private static void earliestPulseBehindTheWindow() {
        LineEchoes x = line(1, 1000);
        x.keepSound();
        x.addPulse(60, 5);
        x.addPulse(70, 5);
        x.removePulse(0);
        x.setBench(0, 1, 50);
        faults("all pulses are behind the window", x, 2, -58, NONE, -1);
        LineEchoes y = line(2, 1000);
        y.addPulse(9, 5);
        y.addPulse(3, 5);
        y.removePulse(0);
        faults("the earliest is not the first", y, 7, 4, 0, 1);
    }
}
