/**
 * Empty: the line without parts, the empty echo list, no difference, nothing found by peeling, the
 * empty script, the script of spaces alone, and the empty undo stack.
 */
public final class EmptyEdgeTest {
    private static final Class<?> ARGUMENT = IllegalArgumentException.class;
    private static final Class<?> STATE = IllegalStateException.class;
    private static final Class<?> INDEX = IndexOutOfBoundsException.class;
    private static final int NONE = LineEchoes.NONE;

    public static void main(String[] args) {
        newObject();
        pulsesLeaveAtTheirTime();
        smallPulsesLeave();
        nothingRunsWithoutParts();
        noSuchPart();
        reverseOfNone();
        lineThatBecomesEmpty();
        emptyEchoLists();
        emptyListIsKept();
        noDifference();
        nothingFound();
        adoptOfNothing();
        emptyScript();
        scriptOfSpaces();
        emptyUndoStack();
        Check.finish();
    }

    private static LineEchoes line(int... lengthsAndFractions) {
        LineEchoes x = new LineEchoes();
        for (int i = 0; i < lengthsAndFractions.length; i += 2) {
            x.addPart(lengthsAndFractions[i], lengthsAndFractions[i + 1]);
        }
        return x;
    }

    private static void totals(String what, LineEchoes x, long... due) {
        for (int i = 0; i < due.length; i++) {
            Check.same(what + ": total(" + i + ")", x.total(i), due[i]);
        }
    }

    /** Promise 1: "Creates a bench as described, with an empty script and an empty undo stack." */
    private static void newObject() {
        LineEchoes x = new LineEchoes();
        long[] bench = {0, 1, 0, 1, 100, 0};
        for (int what = 0; what <= 5; what++) {
            Check.same("new bench(" + what + ")", x.bench(what), bench[what]);
        }
        totals("new", x, 100000, 0, 100000, 0, 0, 0, 0, 0, 0);
        for (int time = 0; time <= 100; time++) {
            Check.same("new echo(" + time + ")", x.echo(time), 0);
        }
        for (int time = 0; time <= 200; time++) {
            Check.same("new observed(" + time + ")", x.observed(time), 0);
        }
        Check.same("the script is empty", x.clearScript(), 0);
        Check.refuses("the undo stack is empty", STATE, () -> x.undo());
    }

    /** "If the line has no parts, each pulse leaves it at its time." */
    private static void pulsesLeaveAtTheirTime() {
        LineEchoes x = new LineEchoes();
        x.addPulse(100, 1000000);
        x.addPulse(99, 20);
        totals("up to 100", x, 1100020, 0, 1100020, 0, 0, 0, 0, 0, 0);
        x.setBench(0, 1, 99);
        totals("up to 99", x, 100020, 0, 100020, 0, 0, 0, 0, 0, 0);
        x.setBench(0, 1, 98);
        totals("up to 98", x, 100000, 0, 100000, 0, 0, 0, 0, 0, 0);
        x.removePulse(0);
        totals("without the pulse at 0", x, 0, 0, 0, 0, 0, 0, 0, 0, 0);
        x.setBench(0, 1, 200);
        totals("up to 200", x, 1000020, 0, 1000020, 0, 0, 0, 0, 0, 0);
    }

    /** Each of them leaves: nothing sets out, so nothing is merged and nothing is dropped. */
    private static void smallPulsesLeave() {
        LineEchoes x = new LineEchoes();
        x.setBench(999, 1000, 100);
        x.addPulse(0, 1);
        x.addPulse(0, 999);
        x.addPulse(5, 1000);
        totals("small pulses", x, 102000, 0, 102000, 0, 0, 0, 0, 0, 0);
    }

    private static void nothingRunsWithoutParts() {
        LineEchoes x = new LineEchoes();
        x.setBench(500, 1, 30);
        x.addPulse(20, 70);
        for (int time = 0; time <= 30; time++) {
            Check.same("echo(" + time + ")", x.echo(time), 0);
            Check.same("arrival from far", x.arrival(0, time, true), 0);
            Check.same("arrival from near", x.arrival(0, time, false), 0);
        }
        Check.refuses("arrival at the joint 1", INDEX, () -> x.arrival(1, 0, false));
        Check.refuses("arrival at the joint 1", INDEX, () -> x.arrival(1, 0, true));
        Check.same("bench(0)", x.bench(0), 0);
        Check.same("bench(5)", x.bench(5), 0);
    }

    private static void noSuchPart() {
        Twins.Maker maker = () -> Twins.line(0);
        Twins.refuses("setPart", INDEX, maker, x -> x.setPart(0, 1, 0));
        Twins.refuses("removePart", INDEX, maker, x -> x.removePart(0));
        Twins.refuses("splitPart", INDEX, maker, x -> x.splitPart(0, 1, 0));
        Twins.refuses("part", INDEX, maker, x -> x.part(0, 0));
    }

    private static void reverseOfNone() {
        LineEchoes x = new LineEchoes();
        Check.same("reverse", x.reverse(), 0);
        Check.same("parts", x.bench(0), 0);
        Check.same("it saves a state", x.undo(), 0);
    }

    private static void lineThatBecomesEmpty() {
        LineEchoes cut = line(1, 1000, 2, 500);
        Check.holds("there are echoes", cut.total(7) > 0);
        Check.same("removePart", cut.removePart(0), 1);
        Check.same("removePart", cut.removePart(0), 0);
        totals("after removePart", cut, 100000, 0, 100000, 0, 0, 0, 0, 0, 0);
        LineEchoes script = line(1, 1000);
        Check.same("there is an echo", script.echo(2), 100000);
        Twins.type(script, "cut 0;");
        Check.same("cut", script.run(), 1);
        totals("after cut", script, 100000, 0, 100000, 0, 0, 0, 0, 0, 0);
        LineEchoes back = line(1, 1000);
        Check.same("there is an echo", back.echo(2), 100000);
        back.undo();
        totals("after undo", back, 100000, 0, 100000, 0, 0, 0, 0, 0, 0);
    }

    private static void isEmptyList(String what, LineEchoes x) {
        Check.same(what + ": echoTime(0)", x.echoTime(0), NONE);
        Check.same(what + ": echoTime(1)", x.echoTime(1), NONE);
        Check.same(what + ": echoByte(0)", x.echoByte(0), NONE);
        Check.same(what + ": echoByte(1)", x.echoByte(1), NONE);
        Check.same(what + ": total(1)", x.total(1), 0);
        Check.same(what + ": total(7)", x.total(7), 0);
        Check.same(what + ": total(8)", x.total(8), 0);
        Check.same(what + ": differences", x.differences(), 0);
        Check.refuses(what + ": echoTime(-1)", ARGUMENT, () -> x.echoTime(-1));
        Check.refuses(what + ": echoByte(-1)", ARGUMENT, () -> x.echoByte(-1));
        Check.same(what + ": keepSound", x.keepSound(), 0);
        Check.same(what + ": observe", x.observe(), 0);
        Check.same(what + ": peel(0)", x.peel(0), LineEchoes.COMPLETE);
        Check.same(what + ": both save a state", x.undo(), 2);
    }

    private static void emptyEchoLists() {
        LineEchoes none = line(1, 1000);
        none.removePart(0);
        isEmptyList("no parts", none);
        isEmptyList("nothing is turned back", line(3, 0, 4, 0));
        LineEchoes late = line(20, 1000);
        late.setBench(0, 1, 39);
        isEmptyList("all comes back behind the window", late);
        LineEchoes dropped = line(3, 1000);
        dropped.addPulse(0, 999);
        dropped.removePulse(0);
        dropped.setBench(0, 1000, 100);
        isEmptyList("the pulse is dropped", dropped);
        LineEchoes small = line(3, 999);
        small.addPulse(0, 1);
        small.removePulse(0);
        small.setBench(0, 0, 100);
        isEmptyList("what is turned back is rounded to 0", small);
        LineEchoes behind = line(3, 1000);
        behind.addPulse(51, 5);
        behind.removePulse(0);
        behind.setBench(0, 1, 50);
        isEmptyList("the pulse is behind the window", behind);
    }

    /** An empty list takes the place of the one that was kept or observed before. */
    private static void emptyListIsKept() {
        LineEchoes x = line(1, 1000);
        Check.same("keepSound", x.keepSound(), 1);
        Check.same("observe", x.observe(), 1);
        x.setPart(0, 1, 0);
        Check.same("the echo is missing", x.differences(), 1);
        Check.same("it is smaller", x.fault(3), -1);
        Check.same("keepSound of nothing", x.keepSound(), 0);
        Check.same("no difference", x.differences(), 0);
        Check.same("observed", x.observed(2), 100000);
        Check.same("observe nothing", x.observe(), 0);
        Check.same("observed", x.observed(2), 0);
    }

    private static void isWithoutDifference(String what, LineEchoes x) {
        Check.same(what + ": differences", x.differences(), 0);
        for (int i = 0; i <= 3; i++) {
            Check.same(what + ": fault(" + i + ")", x.fault(i), NONE);
        }
        Check.refuses(what + ": fault(4)", ARGUMENT, () -> x.fault(4));
        Check.refuses(what + ": fault(-1)", ARGUMENT, () -> x.fault(-1));
    }

    /** "at first it is empty, which means that E was 0 everywhere"; "NONE for all". */
    private static void noDifference() {
        isWithoutDifference("new", new LineEchoes());
        isWithoutDifference("a line without echoes", line(3, 0));
        LineEchoes x = line(3, 500, 2, 1000);
        Check.same("against the empty list", x.differences(), x.total(7));
        x.keepSound();
        isWithoutDifference("just kept", x);
        x.setPart(0, 3, 501);
        Check.holds("changed", x.differences() > 0);
        x.setPart(0, 3, 500);
        isWithoutDifference("changed back", x);
        x.splitPart(1, 1, 0);
        isWithoutDifference("a joint that turns nothing back", x);
    }

    private static void isNothingFound(String what, LineEchoes x, int result, int time) {
        Check.same(what + ": peel(0)", x.peel(0), result);
        Check.same(what + ": peel(1)", x.peel(1), time);
        Check.same(what + ": peel(2)", x.peel(2), 0);
        Check.same(what + ": peel(3)", x.peel(3), 0);
        Check.same(what + ": found(0, 0)", x.found(0, 0), NONE);
        Check.same(what + ": found(0, 1)", x.found(0, 1), NONE);
        Check.refuses(what + ": found(-1, 0)", ARGUMENT, () -> x.found(-1, 0));
        Check.refuses(what + ": found(0, 2)", ARGUMENT, () -> x.found(0, 2));
    }

    private static void nothingFound() {
        isNothingFound("nothing observed", new LineEchoes(), LineEchoes.COMPLETE, NONE);
        isNothingFound("only a line", line(3, 500), LineEchoes.COMPLETE, NONE);
        LineEchoes x = new LineEchoes();
        x.setObserved(0, 1);
        isNothingFound("at 0", x, LineEchoes.CONTRADICTION, 0);
        x.setObserved(0, 0);
        x.setObserved(1, 1000);
        isNothingFound("at 1", x, LineEchoes.CONTRADICTION, 1);
        x.setObserved(1, 0);
        x.setObserved(42, 1000);
        isNothingFound("at 42", x, LineEchoes.TOO_LONG, 42);
        x.setObserved(2, 100001);
        isNothingFound("too much at 2", x, LineEchoes.CONTRADICTION, 2);
        x.setBench(0, 1, 1);
        isNothingFound("all behind the window", x, LineEchoes.COMPLETE, NONE);
    }

    /** "Makes the line the one that peeling finds, whatever its result is." */
    private static void adoptOfNothing() {
        for (int time : new int[] {200, 3, 42}) {
            LineEchoes x = line(3, 500, 4, 600);
            x.setObserved(time, 7);
            Check.same("adopt of nothing", x.adopt(), 0);
            Check.same("no parts", x.bench(0), 0);
            Check.same("no echo", x.total(7), 0);
            Check.same("the observed list stays", x.observed(time), 7);
            Check.same("undo", x.undo(), 2);
            Check.same("the parts are back", x.bench(5), 7);
        }
    }

    /** "a script that is empty, or has spaces alone, has no fault". */
    private static void emptyScript() {
        LineEchoes x = line(3, 500);
        x.undo();
        Check.same("run of the empty script", x.run(), 0);
        Check.same("it saves a state", x.undo(), 0);
        Check.same("clearScript of the empty script", x.clearScript(), 0);
        Check.refuses("clearScript saves none", STATE, () -> x.undo());
        Twins.type(x, "look");
        Check.same("a fault", x.run(), -14);
        Check.same("clearScript", x.clearScript(), 4);
        Check.same("empty again", x.run(), 0);
        Check.same("the length begins anew", x.type(32), 1);
    }

    private static void scriptOfSpaces() {
        for (int spaces : new int[] {1, 2, 119, 120}) {
            LineEchoes x = new LineEchoes();
            Twins.type(x, " ".repeat(spaces));
            Check.same(spaces + " spaces", x.run(), 0);
            Check.same("they save a state", x.undo(), 0);
            Check.same("they stay", x.clearScript(), spaces);
        }
        for (int other : new int[] {0, 9, 10, 13, 31, 33, 127}) {
            LineEchoes x = new LineEchoes();
            Twins.type(x, " " + (char) other);
            Check.same("no space is the byte " + other, x.run(), -11);
        }
    }

    /** Promise 29: "IllegalStateException if the stack is empty". */
    private static void emptyUndoStack() {
        Twins.refuses("undo of a new object", STATE, LineEchoes::new, x -> x.undo());
        Twins.Maker emptied = () -> {
            LineEchoes x = line(3, 500, 4, 600);
            Twins.type(x, "look;");
            x.undo();
            x.undo();
            return x;
        };
        Twins.refuses("undo of all", STATE, emptied, x -> x.undo());
        LineEchoes x = emptied.make();
        for (int i = 0; i < 3; i++) {
            Check.refuses("undo again and again", STATE, () -> x.undo());
        }
        x.addPart(1, 1000);
        Check.same("a refused undo is no state", x.undo(), 0);
        Check.refuses("undo saves none", STATE, () -> x.undo());
    }
}
