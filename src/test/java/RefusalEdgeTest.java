/**
 * Refused calls: each exception that a promise lists is thrown; "If several exceptions of a method
 * apply, the one that is listed first is thrown"; "A call that throws an exception changes
 * nothing", also not the undo stack; and "NONE is returned only if no exception applies".
 */
public final class RefusalEdgeTest {
    private static final Class<?> ARGUMENT = IllegalArgumentException.class;
    private static final Class<?> STATE = IllegalStateException.class;
    private static final Class<?> INDEX = IndexOutOfBoundsException.class;

    public static void main(String[] args) {
        Twins.Maker[] makers = {LineEchoes::new, RefusalEdgeTest::oneState,
            RefusalEdgeTest::twoStates, () -> Twins.line(3), RefusalEdgeTest::full};
        for (Twins.Maker maker : makers) {
            always(maker);
        }
        fullLine();
        fullPulses();
        fullScript();
        onlyPulse();
        emptyStack();
        noneOnlyWithoutException();
        refusedCallsBetween();
        undoAfterRefusedCalls();
        Check.finish();
    }

    private static LineEchoes oneState() {
        LineEchoes x = new LineEchoes();
        Twins.type(x, "part 5 300;");
        x.run();
        return x;
    }

    private static LineEchoes twoStates() {
        LineEchoes x = oneState();
        x.observe();
        return x;
    }

    /** 8 parts, 4 pulses, 120 bytes and 3 saved states, each of them different. */
    private static LineEchoes full() {
        LineEchoes x = Twins.line(8);
        x.addPulse(9, 99);
        x.addPulse(11, 111);
        x.setPart(3, 1, 10);
        Twins.type(x, " ".repeat(98));
        return x;
    }

    /** What is refused in every state, with one argument wrong and with all of them wrong. */
    private static void always(Twins.Maker m) {
        for (int bad : new int[] {-1, 1001, Integer.MIN_VALUE, Integer.MAX_VALUE}) {
            Twins.refuses("addPart", ARGUMENT, m, x -> x.addPart(bad, 0));
            Twins.refuses("addPart", ARGUMENT, m, x -> x.addPart(1, bad));
            Twins.refuses("addPart", ARGUMENT, m, x -> x.addPart(bad, bad));
            Twins.refuses("setPart", INDEX, m, x -> x.setPart(bad, 1, 0));
            Twins.refuses("setPart, bad length", INDEX, m, x -> x.setPart(bad, bad, 0));
            Twins.refuses("setPart, bad fraction", INDEX, m, x -> x.setPart(bad, 1, bad));
            Twins.refuses("removePart", INDEX, m, x -> x.removePart(bad));
            Twins.refuses("splitPart", INDEX, m, x -> x.splitPart(bad, 1, 0));
            Twins.refuses("splitPart, bad place", INDEX, m, x -> x.splitPart(bad, bad, 0));
            Twins.refuses("splitPart, bad fraction", INDEX, m, x -> x.splitPart(bad, 1, bad));
            Twins.refuses("setBench", ARGUMENT, m, x -> x.setBench(bad, 1, 100));
            Twins.refuses("setBench", ARGUMENT, m, x -> x.setBench(0, bad, 100));
            Twins.refuses("setBench", ARGUMENT, m, x -> x.setBench(0, 1, bad));
            Twins.refuses("addPulse", ARGUMENT, m, x -> x.addPulse(bad, 1));
            Twins.refuses("removePulse", INDEX, m, x -> x.removePulse(bad));
            Twins.refuses("part", INDEX, m, x -> x.part(bad, 0));
            Twins.refuses("part, bad what", INDEX, m, x -> x.part(bad, bad));
            Twins.refuses("bench", ARGUMENT, m, x -> x.bench(bad));
            Twins.refuses("echo", ARGUMENT, m, x -> x.echo(bad));
            Twins.refuses("total", ARGUMENT, m, x -> x.total(bad));
            Twins.refuses("arrival", INDEX, m, x -> x.arrival(bad, 0, true));
            Twins.refuses("arrival, bad time", INDEX, m, x -> x.arrival(bad, bad, false));
            Twins.refuses("arrival", ARGUMENT, m, x -> x.arrival(0, bad, true));
            Twins.refuses("fault", ARGUMENT, m, x -> x.fault(bad));
            Twins.refuses("setObserved", ARGUMENT, m, x -> x.setObserved(bad, 0));
            Twins.refuses("observed", ARGUMENT, m, x -> x.observed(bad));
            Twins.refuses("peel", ARGUMENT, m, x -> x.peel(bad));
            Twins.refuses("found", ARGUMENT, m, x -> x.found(0, bad));
            Twins.refuses("type", ARGUMENT, m, x -> x.type(bad));
        }
        Twins.refuses("addPulse", ARGUMENT, m, x -> x.addPulse(0, 0));
        Twins.refuses("addPulse", ARGUMENT, m, x -> x.addPulse(0, 1000001));
        Twins.refuses("setObserved", ARGUMENT, m, x -> x.setObserved(0, -1));
        Twins.refuses("setObserved", ARGUMENT, m, x -> x.setObserved(0, 4000001));
        Twins.refuses("setObserved", ARGUMENT, m, x -> x.setObserved(201, 4000001));
        Twins.refuses("echoTime", ARGUMENT, m, x -> x.echoTime(-1));
        Twins.refuses("echoByte", ARGUMENT, m, x -> x.echoByte(-1));
        Twins.refuses("found", ARGUMENT, m, x -> x.found(-1, 0));
        Twins.refuses("found", ARGUMENT, m, x -> x.found(-1, 2));
    }

    /** With 8 parts all exceptions of addPart and splitPart may apply at once. */
    private static void fullLine() {
        Twins.Maker m = RefusalEdgeTest::full;
        Twins.refuses("addPart", STATE, m, x -> x.addPart(1, 0));
        Twins.refuses("addPart", STATE, m, x -> x.addPart(20, 1000));
        Twins.refuses("addPart, bad length", ARGUMENT, m, x -> x.addPart(0, 0));
        Twins.refuses("addPart, bad length", ARGUMENT, m, x -> x.addPart(21, 0));
        Twins.refuses("addPart, bad fraction", ARGUMENT, m, x -> x.addPart(1, -1));
        Twins.refuses("addPart, bad fraction", ARGUMENT, m, x -> x.addPart(1, 1001));
        Twins.refuses("splitPart", STATE, m, x -> x.splitPart(7, 1, 0));
        Twins.refuses("splitPart", STATE, m, x -> x.splitPart(7, 8, 1000));
        Twins.refuses("splitPart at 0", ARGUMENT, m, x -> x.splitPart(7, 0, 0));
        Twins.refuses("splitPart at the end", ARGUMENT, m, x -> x.splitPart(7, 9, 0));
        Twins.refuses("splitPart of the length 1", ARGUMENT, m, x -> x.splitPart(3, 1, 0));
        Twins.refuses("splitPart, bad fraction", ARGUMENT, m, x -> x.splitPart(7, 1, -1));
        Twins.refuses("splitPart, bad fraction", ARGUMENT, m, x -> x.splitPart(7, 1, 1001));
        Twins.refuses("splitPart of none", INDEX, m, x -> x.splitPart(8, 1, 0));
        Twins.refuses("splitPart of none", INDEX, m, x -> x.splitPart(-1, 1, 0));
        Twins.refuses("splitPart of none, all bad", INDEX, m, x -> x.splitPart(8, 0, 1001));
        Twins.refuses("setPart of none", INDEX, m, x -> x.setPart(8, 1, 0));
        Twins.refuses("setPart of none, all bad", INDEX, m, x -> x.setPart(8, 0, 1001));
        Twins.refuses("setPart to 0", ARGUMENT, m, x -> x.setPart(7, 0, 0));
        Twins.refuses("setPart to 21", ARGUMENT, m, x -> x.setPart(7, 21, 0));
        Twins.refuses("setPart to -1", ARGUMENT, m, x -> x.setPart(0, 1, -1));
        Twins.refuses("setPart to 1001", ARGUMENT, m, x -> x.setPart(0, 1, 1001));
        Twins.refuses("removePart of none", INDEX, m, x -> x.removePart(8));
        Twins.refuses("part of none", INDEX, m, x -> x.part(8, 0));
        Twins.refuses("part of none, all bad", INDEX, m, x -> x.part(8, 3));
        Twins.refuses("part, bad what", ARGUMENT, m, x -> x.part(7, 3));
        Twins.refuses("arrival at none", INDEX, m, x -> x.arrival(9, 0, true));
        Twins.refuses("arrival at none, all bad", INDEX, m, x -> x.arrival(9, 61, true));
        Twins.refuses("arrival, bad time", ARGUMENT, m, x -> x.arrival(8, 61, true));
    }

    private static void fullPulses() {
        Twins.Maker m = RefusalEdgeTest::full;
        Twins.refuses("addPulse", STATE, m, x -> x.addPulse(0, 1));
        Twins.refuses("addPulse", STATE, m, x -> x.addPulse(100, 1000000));
        Twins.refuses("addPulse, bad time", ARGUMENT, m, x -> x.addPulse(-1, 1));
        Twins.refuses("addPulse, bad time", ARGUMENT, m, x -> x.addPulse(101, 1));
        Twins.refuses("addPulse, bad energy", ARGUMENT, m, x -> x.addPulse(0, 0));
        Twins.refuses("addPulse, bad energy", ARGUMENT, m, x -> x.addPulse(0, 1000001));
        Twins.refuses("removePulse of none", INDEX, m, x -> x.removePulse(4));
        Twins.refuses("removePulse of none", INDEX, m, x -> x.removePulse(-1));
    }

    private static void fullScript() {
        Twins.Maker m = RefusalEdgeTest::full;
        Twins.refuses("type", STATE, m, x -> x.type(0));
        Twins.refuses("type", STATE, m, x -> x.type(127));
        Twins.refuses("type, bad value", ARGUMENT, m, x -> x.type(-1));
        Twins.refuses("type, bad value", ARGUMENT, m, x -> x.type(128));
    }

    private static void onlyPulse() {
        Twins.Maker m = RefusalEdgeTest::twoStates;
        Twins.refuses("removePulse", STATE, m, x -> x.removePulse(0));
        Twins.refuses("removePulse of none", INDEX, m, x -> x.removePulse(1));
        Twins.refuses("removePulse of none", INDEX, m, x -> x.removePulse(-1));
        Twins.refuses("removePulse of none", INDEX, m, x -> x.removePulse(4));
    }

    private static void emptyStack() {
        Twins.Maker emptied = () -> {
            LineEchoes x = twoStates();
            x.undo();
            x.undo();
            return x;
        };
        Twins.refuses("undo", STATE, LineEchoes::new, x -> x.undo());
        Twins.refuses("undo", STATE, emptied, x -> x.undo());
    }

    private static void noneOnlyWithoutException() {
        LineEchoes x = new LineEchoes();
        Check.same("echoTime(0)", x.echoTime(0), LineEchoes.NONE);
        Check.refuses("echoTime(-1)", ARGUMENT, () -> x.echoTime(-1));
        Check.same("echoByte(0)", x.echoByte(0), LineEchoes.NONE);
        Check.refuses("echoByte(-1)", ARGUMENT, () -> x.echoByte(-1));
        Check.same("fault(3)", x.fault(3), LineEchoes.NONE);
        Check.refuses("fault(4)", ARGUMENT, () -> x.fault(4));
        Check.refuses("fault(-1)", ARGUMENT, () -> x.fault(-1));
        Check.same("peel(1)", x.peel(1), LineEchoes.NONE);
        Check.refuses("peel(4)", ARGUMENT, () -> x.peel(4));
        Check.refuses("peel(-1)", ARGUMENT, () -> x.peel(-1));
        Check.same("found(9, 1)", x.found(9, 1), LineEchoes.NONE);
        Check.refuses("found(9, 2)", ARGUMENT, () -> x.found(9, 2));
        Check.refuses("found(9, -1)", ARGUMENT, () -> x.found(9, -1));
        Check.refuses("found(-1, 1)", ARGUMENT, () -> x.found(-1, 1));
    }

    /** Answers that were worked out before a refused call must be right behind it, too. */
    private static void refusedCallsBetween() {
        LineEchoes x = Twins.line(3);
        long echoes = x.total(1);
        int result = x.peel(1);
        Check.refuses("setBench", ARGUMENT, () -> x.setBench(0, 1, 201));
        Check.refuses("setPart", ARGUMENT, () -> x.setPart(0, 1, 1001));
        Check.refuses("setObserved", ARGUMENT, () -> x.setObserved(6, -1));
        Check.same("echoes", x.total(1), echoes);
        Check.same("peeling", x.peel(1), result);
        Check.same("observed", x.observed(6), 5000);
        x.setPart(0, 2, 51);
        Check.holds("a taken call changes them", x.total(1) != echoes);
    }

    private static void undoAfterRefusedCalls() {
        LineEchoes x = new LineEchoes();
        x.addPart(1, 100);
        x.addPart(2, 200);
        x.addPart(3, 300);
        for (int i = 0; i < 5; i++) {
            Check.refuses("addPart", ARGUMENT, () -> x.addPart(0, 0));
            Check.refuses("setPart", INDEX, () -> x.setPart(3, 1, 1));
            Check.refuses("removePart", INDEX, () -> x.removePart(3));
            Check.refuses("splitPart", ARGUMENT, () -> x.splitPart(0, 1, 0));
            Check.refuses("setBench", ARGUMENT, () -> x.setBench(0, 0, 0));
            Check.refuses("addPulse", ARGUMENT, () -> x.addPulse(101, 1));
            Check.refuses("removePulse", STATE, () -> x.removePulse(0));
            Check.refuses("setObserved", ARGUMENT, () -> x.setObserved(201, 1));
        }
        for (int left = 2; left >= 0; left--) {
            Check.same("undo", x.undo(), left);
            Check.same("parts", x.bench(0), left);
        }
    }
}
