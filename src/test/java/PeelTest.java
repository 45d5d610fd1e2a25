/** Promises 20 to 25: observing, peeling, what was found, and adopting it. */
public final class PeelTest {
    private static final Class<?> ARGUMENT = IllegalArgumentException.class;

    public static void main(String[] args) {
        observe();
        setObserved();
        simplePeeling();
        contradictions();
        tooLong();
        smallestFraction();
        everyFraction();
        dropping();
        settings();
        linesFoundBack();
        adopt();
        wrongInputs();
        Check.finish();
    }

    private static void peeled(String what, LineEchoes x, long... due) {
        for (int i = 0; i < due.length; i++) {
            Check.same(what + ": peel(" + i + ")", x.peel(i), due[i]);
        }
    }

    private static void foundParts(String what, LineEchoes x, int... lengthsAndFractions) {
        int n = lengthsAndFractions.length / 2;
        Check.same(what + ": number", x.peel(2), n);
        for (int k = 0; k < n; k++) {
            Check.same(what + ": length " + k, x.found(k, 0), lengthsAndFractions[2 * k]);
            Check.same(what + ": fraction " + k, x.found(k, 1), lengthsAndFractions[2 * k + 1]);
        }
        Check.same(what + ": no more", x.found(n, 0), LineEchoes.NONE);
        Check.same(what + ": no more", x.found(n, 1), LineEchoes.NONE);
    }

    private static void observe() {
        LineEchoes x = new LineEchoes();
        x.addPart(3, 500);
        x.setBench(200, 1, 200);
        Check.same("observe", x.observe(), 5);
        Check.same("observed(6)", x.observed(6), 40000);
        Check.same("observed(30)", x.observed(30), 4);
        Check.same("observed(7)", x.observed(7), 0);
        x.setBench(200, 1, 12);
        Check.same("observed stays", x.observed(30), 4);
        Check.same("observe in a smaller window", x.observe(), 2);
        Check.same("observed(12)", x.observed(12), 4000);
        Check.same("0 behind the window", x.observed(18), 0);
        x.undo();
        Check.same("observe is undone", x.observed(18), 400);
        LineEchoes y = new LineEchoes();
        y.setObserved(200, 9);
        Check.same("observe nothing", y.observe(), 0);
        Check.same("0 everywhere", y.observed(200), 0);
    }

    private static void setObserved() {
        LineEchoes x = new LineEchoes();
        Check.same("setObserved", x.setObserved(200, 4000000), 0);
        Check.same("setObserved", x.setObserved(200, 0), 4000000);
        Check.same("setObserved", x.setObserved(0, 17), 0);
        Check.same("observed(0)", x.observed(0), 17);
        x.undo();
        x.undo();
        Check.same("setObserved is undone", x.observed(200), 4000000);
        Check.same("setObserved is undone", x.observed(0), 0);
    }

    private static void simplePeeling() {
        LineEchoes x = new LineEchoes();
        peeled("nothing", x, LineEchoes.COMPLETE, LineEchoes.NONE, 0, 0);
        x.setObserved(6, 100000);
        peeled("one part", x, LineEchoes.COMPLETE, LineEchoes.NONE, 1, 3);
        foundParts("one part", x, 3, 1000);
        Check.same("far behind", x.found(Integer.MAX_VALUE, 0), LineEchoes.NONE);
        x.setObserved(6, 100);
        foundParts("a small echo", x, 3, 1);
        x.setObserved(101, 5);
        peeled("behind the window", x, LineEchoes.COMPLETE, LineEchoes.NONE, 1, 3);
    }

    private static void contradictions() {
        LineEchoes x = new LineEchoes();
        x.setObserved(0, 5);
        peeled("at 0", x, LineEchoes.CONTRADICTION, 0, 0, 0);
        x.setObserved(0, 100000);
        peeled("all at 0", x, LineEchoes.CONTRADICTION, 0, 0, 0);
        x.undo();
        x.undo();
        x.setObserved(7, 5000);
        peeled("odd", x, LineEchoes.CONTRADICTION, 7, 0, 0);
        x.undo();
        x.setObserved(6, 100001);
        peeled("too much", x, LineEchoes.CONTRADICTION, 6, 0, 0);
        x.setObserved(6, 250);
        peeled("between two fractions", x, LineEchoes.CONTRADICTION, 6, 0, 0);
        x.setObserved(6, 50);
        peeled("less than the smallest fraction", x, LineEchoes.CONTRADICTION, 6, 0, 0);
        x.setObserved(6, 300);
        foundParts("possible", x, 3, 3);
        x.setBench(500, 1, 100);
        x.setObserved(6, 150000 / 2);
        peeled("more than passes the front", x, LineEchoes.CONTRADICTION, 6, 0, 0);
        x.setObserved(6, 50000);
        // All comes back at 6, half of it echoes; the other half comes back at 12.
        peeled("an echo that is missing", x, LineEchoes.CONTRADICTION, 12, 1, 3);
        x.setObserved(12, 25001);
        // More is there at 12, but the end turns all back, so nothing can come from behind it.
        peeled("nothing passes the end", x, LineEchoes.CONTRADICTION, 12, 1, 3);
        x.setObserved(12, 24999);
        peeled("less than the echo", x, LineEchoes.CONTRADICTION, 12, 1, 3);
        x.setObserved(9, 1);
        peeled("odd again", x, LineEchoes.CONTRADICTION, 9, 1, 3);
    }

    private static void tooLong() {
        LineEchoes x = new LineEchoes();
        x.setObserved(40, 1000);
        foundParts("length 20", x, 20, 10);
        x.setObserved(82, 500);
        peeled("length 21", x, LineEchoes.TOO_LONG, 82, 1, 20);
        x.setObserved(40, 0);
        peeled("length 41", x, LineEchoes.TOO_LONG, 82, 0, 0);
        LineEchoes y = new LineEchoes();
        for (int k = 0; k < 8; k++) {
            y.addPart(1 + k, 100);
        }
        y.setBench(0, 1, 75);
        y.observe();
        peeled("8 parts", y, LineEchoes.COMPLETE, LineEchoes.NONE, 8, 36);
        y.setObserved(74, y.observed(74) + 1);
        peeled("a ninth part", y, LineEchoes.TOO_LONG, 74, 8, 36);
        y.setObserved(73, 1);
        peeled("an odd time behind 8 parts", y, LineEchoes.CONTRADICTION, 73, 8, 36);
        y.setObserved(73, 0);
        y.setObserved(72, y.observed(72) + 500000);
        peeled("7 parts", y, LineEchoes.CONTRADICTION, 72, 7, 28);
    }

    private static void smallestFraction() {
        LineEchoes x = new LineEchoes();
        x.addPulse(7, 10);
        x.removePulse(0);
        x.setObserved(2, 1);
        // floor(10 * p / 1000) is 1 from 100 to 199.
        foundParts("energy 10", x, 1, 100);
        x.setObserved(2, 9);
        foundParts("energy 10", x, 1, 900);
        x.setObserved(2, 10);
        foundParts("energy 10", x, 1, 1000);
        x.setObserved(2, 11);
        peeled("more than the pulse", x, LineEchoes.CONTRADICTION, 2, 0, 0);
    }

    private static void everyFraction() {
        for (int fraction = 1; fraction <= 1000; fraction++) {
            LineEchoes x = new LineEchoes();
            x.setObserved(2, 100L * fraction);
            Check.same("a fraction of " + fraction, x.found(0, 1), fraction);
        }
    }

    private static void dropping() {
        LineEchoes x = new LineEchoes();
        x.setBench(0, 600, 100);
        x.setObserved(6, 500);
        peeled("would be dropped on the way back", x, LineEchoes.CONTRADICTION, 6, 0, 0);
        x.setObserved(6, 600);
        foundParts("not dropped", x, 3, 6);
        x.addPulse(0, 599);
        x.removePulse(0);
        peeled("the pulse is dropped", x, LineEchoes.CONTRADICTION, 6, 0, 0);
        x.setBench(0, 599, 100);
        x.setObserved(6, 599);
        foundParts("the pulse is not dropped", x, 3, 1000);
    }

    private static void settings() {
        LineEchoes x = new LineEchoes();
        x.addPulse(0, 1000);
        x.setObserved(2, 500);
        foundParts("energy of pulse 0", x, 1, 5);
        x.removePulse(0);
        foundParts("energy of the pulse that is now 0", x, 1, 500);
        x.addPulse(9, 77777);
        x.addPart(4, 400);
        foundParts("other pulses and the line do not count", x, 1, 500);
        x.setBench(500, 1, 2);
        foundParts("with the present front", x, 1, 1000 - 1);
        x.setBench(0, 1, 1);
        peeled("with the present window", x, LineEchoes.COMPLETE, LineEchoes.NONE, 0, 0);
    }

    /** With enough energy each line without a fraction of 0 is found back part by part. */
    private static void linesFoundBack() {
        int[][] lines = {
            {5, 300, 3, 500, 4, 1000},
            {1, 1, 1, 2, 1, 3, 1, 4, 1, 5, 1, 6, 1, 7, 1, 8},
            {20, 10, 20, 20, 20, 30, 20, 40, 20, 999},
            {2, 500, 2, 500, 2, 500, 2, 500, 2, 500, 2, 500},
        };
        for (int[] line : lines) {
            LineEchoes x = new LineEchoes();
            x.addPulse(0, 1000000);
            x.removePulse(0);
            for (int i = 0; i < line.length; i += 2) {
                x.addPart(line[i], line[i + 1]);
            }
            x.setBench(300, 1, 200);
            x.observe();
            Check.same("found back", x.peel(0), LineEchoes.COMPLETE);
            long[] echoes = new long[201];
            for (int time = 0; time <= 200; time++) {
                echoes[time] = x.echo(time);
            }
            Check.same("adopt", x.adopt(), x.peel(2));
            for (int time = 0; time <= 200; time++) {
                Check.same("echo of what was found at " + time, x.echo(time), echoes[time]);
            }
        }
        LineEchoes x = new LineEchoes();
        x.addPart(5, 300);
        x.addPart(3, 0);
        x.addPart(4, 600);
        x.observe();
        foundParts("a joint without a fraction is not seen", x, 5, 300, 7, 600);
    }

    private static void adopt() {
        LineEchoes x = new LineEchoes();
        x.addPart(9, 900);
        x.addPart(8, 800);
        x.setObserved(6, 300);
        x.setObserved(11, 1);
        peeled("what is adopted", x, LineEchoes.CONTRADICTION, 11, 1, 3);
        Check.same("adopt", x.adopt(), 1);
        Check.same("length", x.part(0, 0), 3);
        Check.same("fraction", x.part(0, 1), 3);
        Check.same("echo", x.echo(6), 300);
        Check.same("sum", x.bench(5), 3);
        Check.same("the observed list stays", x.observed(11), 1);
        peeled("peeling stays", x, LineEchoes.CONTRADICTION, 11, 1, 3);
        x.undo();
        Check.same("adopt is undone", x.part(1, 1), 800);
        x.setObserved(3, 1);
        Check.same("adopt of no parts", x.adopt(), 0);
        Check.same("no parts", x.bench(0), 0);
    }

    private static void wrongInputs() {
        LineEchoes x = new LineEchoes();
        x.setObserved(6, 300);
        Check.refusesUnchanged("setObserved(201)", ARGUMENT, x, () -> x.setObserved(201, 0));
        Check.refusesUnchanged("setObserved(-1)", ARGUMENT, x, () -> x.setObserved(-1, 0));
        Check.refusesUnchanged("setObserved below 0", ARGUMENT, x, () -> x.setObserved(0, -1));
        Check.refusesUnchanged("setObserved too much", ARGUMENT, x,
                () -> x.setObserved(0, 4000001));
        Check.refusesUnchanged("setObserved far too much", ARGUMENT, x,
                () -> x.setObserved(0, 1L << 32));
        Check.refusesUnchanged("observed(201)", ARGUMENT, x, () -> x.observed(201));
        Check.refusesUnchanged("observed(-1)", ARGUMENT, x, () -> x.observed(-1));
        Check.refusesUnchanged("peel(4)", ARGUMENT, x, () -> x.peel(4));
        Check.refusesUnchanged("peel(-1)", ARGUMENT, x, () -> x.peel(-1));
        Check.refusesUnchanged("found(-1, 0)", ARGUMENT, x, () -> x.found(-1, 0));
        Check.refusesUnchanged("found(0, 2)", ARGUMENT, x, () -> x.found(0, 2));
        Check.refusesUnchanged("found(0, -1)", ARGUMENT, x, () -> x.found(0, -1));
        Check.refusesUnchanged("found(99, 2)", ARGUMENT, x, () -> x.found(99, 2));
    }
}
