/**
 * Full: 8 parts, 4 pulses, the only pulse, 120 bytes of script, and the undo stack with the latest
 * 3 saved states.
 */
public final class FullEdgeTest {
    private static final Class<?> STATE = IllegalStateException.class;

    public static void main(String[] args) {
        eightParts();
        eightPartsBySplitting();
        fullLineStillChanges();
        eightPartsByAdopting();
        eightPartsRun();
        fourPulses();
        theOnlyPulse();
        fullScript();
        fullScriptRuns();
        fourthSavedState();
        everyMethodAsTheFourth();
        savedAlsoIfNothingChanges();
        undoIsNotUndone();
        Check.finish();
    }

    /** "The line has n parts (0 to 8 ..)". */
    private static void eightParts() {
        LineEchoes x = new LineEchoes();
        for (int k = 1; k <= 8; k++) {
            Check.same("addPart " + k, x.addPart(20, 125 * k), k);
        }
        Check.same("the sum of all lengths", x.bench(5), 160);
        Check.same("the sum up to the last", x.part(7, 2), 160);
        Check.same("the last fraction", x.part(7, 1), 1000);
        Twins.refuses("ninth addPart", STATE, () -> Twins.line(8), y -> y.addPart(1, 0));
        Check.same("seven again", x.removePart(3), 7);
        Check.same("the eighth again", x.addPart(1, 0), 8);
        Check.refuses("the ninth again", STATE, () -> x.addPart(1, 0));
    }

    private static void eightPartsBySplitting() {
        LineEchoes x = new LineEchoes();
        x.addPart(8, 1000);
        for (int n = 2; n <= 8; n++) {
            Check.same("splitPart into " + n, x.splitPart(n - 2, 1, 10 * n), n);
        }
        for (int k = 0; k < 8; k++) {
            Check.same("each has the length 1", x.part(k, 0), 1);
            Check.same("fraction " + k, x.part(k, 1), k < 7 ? 10 * (k + 2) : 1000);
        }
        Twins.refuses("splitPart of the first of 8", STATE, () -> Twins.line(8),
                y -> y.splitPart(0, 1, 0));
        Twins.refuses("splitPart of the last of 8", STATE, () -> Twins.line(8),
                y -> y.splitPart(7, 8, 1000));
    }

    private static void fullLineStillChanges() {
        LineEchoes x = Twins.line(8);
        Check.same("setPart", x.setPart(7, 1, 1), 750);
        Check.same("reverse", x.reverse(), 36);
        int[] lengths = {1, 8, 7, 6, 5, 4, 3, 2};
        int[] fractions = {650, 550, 450, 350, 250, 150, 50, 1};
        for (int k = 0; k < 8; k++) {
            Check.same("length " + k + " reversed", x.part(k, 0), lengths[k]);
            Check.same("fraction " + k + " reversed", x.part(k, 1), fractions[k]);
        }
        Check.same("removePart", x.removePart(7), 7);
    }

    /** "or 8 parts were found already, peeling ends with TOO_LONG at t". */
    private static void eightPartsByAdopting() {
        LineEchoes x = new LineEchoes();
        for (int k = 0; k < 8; k++) {
            x.addPart(1, 100);
        }
        x.observe();
        Check.same("8 parts are enough", x.peel(0), LineEchoes.COMPLETE);
        Check.same("found", x.peel(2), 8);
        x.setObserved(18, x.observed(18) + 100);
        Check.same("a ninth would be needed", x.peel(0), LineEchoes.TOO_LONG);
        Check.same("at 18", x.peel(1), 18);
        Check.same("found", x.peel(2), 8);
        Check.same("sum", x.peel(3), 8);
        Check.same("the eighth", x.found(7, 1), 100);
        Check.same("no ninth", x.found(8, 0), LineEchoes.NONE);
        Check.same("adopt", x.adopt(), 8);
        Check.refuses("addPart behind it", STATE, () -> x.addPart(1, 1));
    }

    private static void eightPartsRun() {
        LineEchoes x = new LineEchoes();
        for (int k = 0; k < 7; k++) {
            x.addPart(12, 0);
        }
        x.addPart(16, 500);
        x.setBench(0, 1, 200);
        Check.same("arrival at the joint 8", x.arrival(8, 100, false), 100000);
        Check.same("arrival at the joint 7", x.arrival(7, 116, true), 50000);
        Check.same("the echo", x.echo(200), 50000);
        Check.same("what left", x.total(2), 50000);
        x.setPart(7, 15, 500);
        Check.same("nothing comes to it at 100", x.arrival(8, 100, false), 0);
        Check.same("but at 99", x.arrival(8, 99, false), 100000);
        Check.same("the echo is earlier", x.echo(198), 50000);
        Check.same("and alone", x.total(7), 1);
    }

    /** "There are up to 4 pulses"; the numbers of those behind a removed one decrease by 1. */
    private static void fourPulses() {
        Twins.refuses("fifth addPulse", STATE, () -> Twins.pulses(4), x -> x.addPulse(0, 1));
        Twins.refuses("fifth addPulse", STATE, () -> Twins.pulses(4),
                x -> x.addPulse(100, 1000000));
        LineEchoes x = Twins.pulses(4);
        Check.same("four", x.bench(1), 4);
        Check.same("all of them", x.total(0), 1111);
        Check.same("removePulse", x.removePulse(1), 3);
        Check.same("the fourth again", x.addPulse(100, 1000000), 4);
        Check.refuses("the fifth again", STATE, () -> x.addPulse(0, 1));
        Check.same("the one behind it has its number", x.removePulse(1), 3);
        Check.same("all of them", x.total(0), 1001001);
        Check.same("the new one is the last", x.removePulse(2), 2);
        Check.same("all of them", x.total(0), 1001);
    }

    /** Promise 9: "IllegalStateException if it is the only one". */
    private static void theOnlyPulse() {
        Twins.refuses("removePulse of a new object", STATE, LineEchoes::new,
                x -> x.removePulse(0));
        LineEchoes x = Twins.pulses(2);
        Check.same("the first of two", x.removePulse(0), 1);
        Check.refuses("the second", STATE, () -> x.removePulse(0));
        Check.same("it stays", x.total(0), 10);
        LineEchoes y = Twins.pulses(2);
        Check.same("the second of two", y.removePulse(1), 1);
        Check.refuses("the first", STATE, () -> y.removePulse(0));
        Check.same("it stays", y.total(0), 1);
        Check.same("another one", y.addPulse(0, 5), 2);
        Check.same("now it can go", y.removePulse(0), 1);
        Check.same("the other one stays", y.total(0), 5);
    }

    private static LineEchoes withFullScript() {
        LineEchoes x = Twins.line(3);
        x.clearScript();
        Twins.type(x, " ".repeat(109) + "part 5 300;");
        return x;
    }

    /** "The script has at most 120 bytes." */
    private static void fullScript() {
        LineEchoes x = new LineEchoes();
        for (int i = 1; i <= 120; i++) {
            Check.same("type", x.type(32), i);
        }
        for (int value : new int[] {0, 32, 127}) {
            Check.refuses("the byte 121", STATE, () -> x.type(value));
            Twins.refuses("type(" + value + ")", STATE, FullEdgeTest::withFullScript,
                    y -> y.type(value));
        }
        Check.same("120 bytes", x.clearScript(), 120);
        Check.same("there is room again", x.type(32), 1);
    }

    private static void fullScriptRuns() {
        LineEchoes x = withFullScript();
        Check.same("the last command", x.run(), 1);
        Check.same("is done", x.part(3, 1), 300);
        Check.refuses("it is still full", STATE, () -> x.type(59));
        Check.same("undo", x.undo(), 2);
        Check.refuses("undo leaves it full", STATE, () -> x.type(59));
        Check.same("20 commands", runOf("sound;".repeat(20)), 20);
        Check.same("24 commands", runOf("look;".repeat(24)), 24);
        Check.same("it ends too soon", runOf("look;".repeat(23) + "look "), -130);
    }

    private static long runOf(String script) {
        LineEchoes x = new LineEchoes();
        Twins.type(x, script);
        return x.run();
    }

    /** "The stack keeps the latest 3 saved states and drops older ones." */
    private static void fourthSavedState() {
        for (int saves = 0; saves <= 9; saves++) {
            LineEchoes x = new LineEchoes();
            for (int i = 1; i <= saves; i++) {
                x.setObserved(0, i);
            }
            int kept = Math.min(saves, 3);
            for (int left = kept - 1; left >= 0; left--) {
                Check.same("undo after " + saves, x.undo(), left);
                Check.same("the state", x.observed(0), saves - kept + left);
            }
            Check.refuses("no more after " + saves, STATE, () -> x.undo());
            Check.same("the oldest kept state", x.observed(0), saves - kept);
        }
        LineEchoes x = new LineEchoes();
        for (int i = 1; i <= 5; i++) {
            x.setObserved(0, i);
        }
        Check.same("undo", x.undo(), 2);
        Check.same("undo", x.undo(), 1);
        x.setObserved(0, 60);
        x.setObserved(0, 70);
        x.setObserved(0, 80);
        Check.same("undo", x.undo(), 2);
        Check.same("undo", x.undo(), 1);
        Check.same("undo", x.undo(), 0);
        Check.same("the third is the oldest one", x.observed(0), 3);
        Check.refuses("the older ones were dropped", STATE, () -> x.undo());
    }

    private static final int UNDOABLE = 13;

    private static long change(LineEchoes x, int method) {
        return switch (method) {
            case 0 -> x.addPart(7, 70);
            case 1 -> x.setPart(1, 7, 70);
            case 2 -> x.removePart(1);
            case 3 -> x.splitPart(0, 1, 70);
            case 4 -> x.reverse();
            case 5 -> x.setBench(7, 70, 77);
            case 6 -> x.addPulse(7, 70);
            case 7 -> x.removePulse(0);
            case 8 -> x.keepSound();
            case 9 -> x.observe();
            case 10 -> x.setObserved(7, 70);
            case 11 -> x.adopt();
            default -> x.run();
        };
    }

    /** The saved state is the one from before the call, and the fourth one drops the first one. */
    private static void everyMethodAsTheFourth() {
        for (int method = 0; method < UNDOABLE; method++) {
            LineEchoes x = new LineEchoes();
            Twins.type(x, "part 1 999;sound;look;");
            x.addPart(3, 300);
            x.addPart(2, 0);
            x.addPulse(9, 999);
            x.addPart(4, 400);
            long before = x.digest();
            change(x, method);
            Check.same("undo of the method " + method, x.undo(), 2);
            // The digest counts the saved states, so there must be three of them again.
            x.setObserved(0, 0);
            Check.same("the state from before the method " + method, x.digest(), before);
            x.undo();
            Check.same("before the last part", x.undo(), 1);
            Check.same("two parts, two pulses", x.bench(0) * 10 + x.bench(1), 22);
            Check.same("before the pulse", x.undo(), 0);
            Check.same("two parts, one pulse", x.bench(0) * 10 + x.bench(1), 21);
            Check.refuses("the first ones were dropped", STATE, () -> x.undo());
        }
    }

    /** "when it ends normally, also if it changes nothing". */
    private static void savedAlsoIfNothingChanges() {
        String[] names = {"setPart", "reverse", "setBench", "keepSound", "observe", "setObserved",
            "adopt", "run"};
        for (int i = 0; i < names.length; i++) {
            LineEchoes x = new LineEchoes();
            x.addPart(3, 300);
            x.undo();
            changeNothing(x, i);
            Check.same(names[i] + " saves a state", x.undo(), 0);
            Check.refuses(names[i] + " saves one state alone", STATE, () -> x.undo());
        }
    }

    private static void changeNothing(LineEchoes x, int method) {
        switch (method) {
            case 0 -> {
                x.addPart(3, 300);
                long before = x.digest();
                x.setPart(0, 3, 300);
                Check.same("setPart saves a state", x.undo(), 1);
                Check.same("setPart changed nothing", x.digest(), before);
            }
            case 1 -> Check.same("reverse", x.reverse(), 0);
            case 2 -> Check.same("setBench", x.setBench(0, 1, 100), 100);
            case 3 -> Check.same("keepSound", x.keepSound(), 0);
            case 4 -> Check.same("observe", x.observe(), 0);
            case 5 -> Check.same("setObserved", x.setObserved(200, 0), 0);
            case 6 -> Check.same("adopt", x.adopt(), 0);
            default -> Check.same("run", x.run(), 0);
        }
    }

    /** undo is not marked "undoable": it takes a state off and puts none on. */
    private static void undoIsNotUndone() {
        LineEchoes x = new LineEchoes();
        x.addPart(1, 100);
        x.addPart(2, 200);
        Check.same("undo", x.undo(), 1);
        Check.same("undo", x.undo(), 0);
        Check.refuses("no more", STATE, () -> x.undo());
        Check.same("no parts", x.bench(0), 0);
    }
}
