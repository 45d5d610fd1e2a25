/** Promises 1 to 11: a new object, the line, the bench and the pulses. */
public final class LineTest {
    private static final Class<?> ARGUMENT = IllegalArgumentException.class;
    private static final Class<?> STATE = IllegalStateException.class;
    private static final Class<?> INDEX = IndexOutOfBoundsException.class;

    public static void main(String[] args) {
        newObject();
        addPart();
        setPart();
        removePart();
        splitPart();
        reverse();
        setBench();
        addPulse();
        removePulse();
        part();
        bench();
        Check.finish();
    }

    private static void isLine(String what, LineEchoes x, int... lengthsAndFractions) {
        int n = lengthsAndFractions.length / 2;
        Check.same(what + ": number of parts", x.bench(0), n);
        int sum = 0;
        for (int k = 0; k < n && k < x.bench(0); k++) {
            sum += lengthsAndFractions[2 * k];
            Check.same(what + ": length " + k, x.part(k, 0), lengthsAndFractions[2 * k]);
            Check.same(what + ": fraction " + k, x.part(k, 1), lengthsAndFractions[2 * k + 1]);
            Check.same(what + ": reach " + k, x.part(k, 2), sum);
        }
        Check.same(what + ": sum", x.bench(5), sum);
    }

    private static LineEchoes threeParts() {
        LineEchoes x = new LineEchoes();
        x.addPart(5, 300);
        x.addPart(3, 500);
        x.addPart(4, 1000);
        return x;
    }

    private static LineEchoes fullLine() {
        LineEchoes x = new LineEchoes();
        for (int k = 0; k < 8; k++) {
            x.addPart(k + 1, 100 * k);
        }
        return x;
    }

    private static void newObject() {
        LineEchoes x = new LineEchoes();
        long[] bench = {0, 1, 0, 1, 100, 0};
        for (int what = 0; what < bench.length; what++) {
            Check.same("new bench(" + what + ")", x.bench(what), bench[what]);
        }
        Check.same("new total(0)", x.total(0), 100000);
        Check.same("new total(2)", x.total(2), 100000);
        Check.same("new differences", x.differences(), 0);
        for (int time = 0; time <= 200; time++) {
            Check.same("new observed(" + time + ")", x.observed(time), 0);
        }
        Check.same("new clearScript", x.clearScript(), 0);
        Check.refuses("new undo", STATE, () -> x.undo());
        x.addPart(1, 1000);
        Check.same("the first pulse has the time 0", x.arrival(1, 1, false), 100000);
        Check.same("the default window", x.echoTime(0), 2);
        x.setBench(0, 1, 200);
        Check.same("objects do not share", new LineEchoes().bench(0), 0);
    }

    private static void addPart() {
        LineEchoes x = new LineEchoes();
        Check.same("addPart", x.addPart(1, 0), 1);
        Check.same("addPart", x.addPart(20, 1000), 2);
        isLine("after addPart", x, 1, 0, 20, 1000);
        int[][] bad = {{0, 0}, {21, 0}, {-1, 0}, {1, -1}, {1, 1001}, {Integer.MIN_VALUE, 0},
            {Integer.MAX_VALUE, 0}, {1, Integer.MAX_VALUE}, {1, Integer.MIN_VALUE}};
        LineEchoes full = fullLine();
        for (int[] pair : bad) {
            String what = "addPart(" + pair[0] + ", " + pair[1] + ")";
            Check.refusesUnchanged(what, ARGUMENT, x, () -> x.addPart(pair[0], pair[1]));
            Check.refusesUnchanged("full " + what, ARGUMENT, full,
                    () -> full.addPart(pair[0], pair[1]));
        }
        Check.refusesUnchanged("ninth addPart", STATE, full, () -> full.addPart(1, 1));
        Check.same("undo", full.undo(), 2);
        isLine("after undo of addPart", full, 1, 0, 2, 100, 3, 200, 4, 300, 5, 400, 6, 500, 7, 600);
    }

    private static void setPart() {
        LineEchoes x = threeParts();
        Check.same("setPart", x.setPart(1, 20, 0), 500);
        isLine("after setPart", x, 5, 300, 20, 0, 4, 1000);
        Check.same("setPart", x.setPart(2, 1, 999), 1000);
        isLine("after setPart", x, 5, 300, 20, 0, 1, 999);
        int[][] none = {{-1, 1, 1}, {3, 1, 1}, {3, 0, 0}, {-1, 1, 1001}, {Integer.MAX_VALUE, 1, 1}};
        for (int[] a : none) {
            Check.refusesUnchanged("setPart of " + a[0], INDEX, x,
                    () -> x.setPart(a[0], a[1], a[2]));
        }
        int[][] bad = {{0, 0, 1}, {0, 21, 1}, {0, 1, -1}, {0, 1, 1001}, {2, 21, 1001}};
        for (int[] a : bad) {
            Check.refusesUnchanged("setPart to " + a[1] + ", " + a[2], ARGUMENT, x,
                    () -> x.setPart(a[0], a[1], a[2]));
        }
        x.undo();
        isLine("after undo of setPart", x, 5, 300, 20, 0, 4, 1000);
    }

    private static void removePart() {
        LineEchoes x = threeParts();
        Check.refusesUnchanged("removePart(3)", INDEX, x, () -> x.removePart(3));
        Check.refusesUnchanged("removePart(-1)", INDEX, x, () -> x.removePart(-1));
        Check.same("removePart(1)", x.removePart(1), 2);
        isLine("after removePart", x, 5, 300, 4, 1000);
        Check.same("removePart(1)", x.removePart(1), 1);
        Check.same("removePart(0)", x.removePart(0), 0);
        Check.refusesUnchanged("removePart(0) of none", INDEX, x, () -> x.removePart(0));
        x.undo();
        x.undo();
        isLine("after two undos of removePart", x, 5, 300, 4, 1000);
    }

    private static void splitPart() {
        LineEchoes x = threeParts();
        Check.same("splitPart", x.splitPart(1, 2, 100), 4);
        isLine("after splitPart", x, 5, 300, 2, 100, 1, 500, 4, 1000);
        Check.same("splitPart", x.splitPart(0, 1, 0), 5);
        isLine("after splitPart", x, 1, 0, 4, 300, 2, 100, 1, 500, 4, 1000);
        Check.same("splitPart", x.splitPart(4, 3, 1000), 6);
        isLine("after splitPart", x, 1, 0, 4, 300, 2, 100, 1, 500, 3, 1000, 1, 1000);
        int[][] bad = {{1, 0, 1}, {1, 4, 1}, {1, 1, 1001}, {1, 1, -1}, {0, 1, 1}, {1, -1, 1}};
        for (int[] a : bad) {
            Check.refusesUnchanged("splitPart at " + a[1], ARGUMENT, x,
                    () -> x.splitPart(a[0], a[1], a[2]));
        }
        Check.refusesUnchanged("splitPart(6)", INDEX, x, () -> x.splitPart(6, 1, 1));
        Check.refusesUnchanged("splitPart(-1)", INDEX, x, () -> x.splitPart(-1, 0, 1001));
        x.undo();
        isLine("after undo of splitPart", x, 1, 0, 4, 300, 2, 100, 1, 500, 4, 1000);
        LineEchoes full = fullLine();
        Check.refusesUnchanged("splitPart of a full line", STATE, full,
                () -> full.splitPart(7, 4, 0));
        Check.refusesUnchanged("bad splitPart of a full line", ARGUMENT, full,
                () -> full.splitPart(7, 8, 0));
        Check.refusesUnchanged("splitPart(8) of a full line", INDEX, full,
                () -> full.splitPart(8, 8, 0));
        full.removePart(0);
        Check.same("splitPart to 8 parts", full.splitPart(0, 1, 1), 8);
        isLine("split to 8", full, 1, 1, 1, 100, 3, 200, 4, 300, 5, 400, 6, 500, 7, 600, 8, 700);
    }

    private static void reverse() {
        LineEchoes x = new LineEchoes();
        Check.same("reverse of none", x.reverse(), 0);
        Check.same("reverse is undoable", x.undo(), 0);
        x.addPart(7, 700);
        Check.same("reverse of one", x.reverse(), 7);
        isLine("one reversed", x, 7, 700);
        x.addPart(2, 200);
        Check.same("reverse of two", x.reverse(), 9);
        isLine("two reversed", x, 2, 700, 7, 200);
        x.addPart(3, 300);
        x.addPart(4, 400);
        Check.same("reverse of four", x.reverse(), 16);
        isLine("four reversed", x, 4, 300, 3, 200, 7, 700, 2, 400);
        x.undo();
        isLine("four again", x, 2, 700, 7, 200, 3, 300, 4, 400);
    }

    private static void setBench() {
        LineEchoes x = new LineEchoes();
        Check.same("setBench", x.setBench(999, 1000, 200), 100);
        Check.same("setBench", x.setBench(0, 0, 1), 200);
        Check.same("setBench", x.setBench(12, 34, 56), 1);
        Check.same("front", x.bench(2), 12);
        Check.same("least", x.bench(3), 34);
        Check.same("window", x.bench(4), 56);
        int[][] bad = {{-1, 0, 1}, {1000, 0, 1}, {0, -1, 1}, {0, 1001, 1}, {0, 0, 0}, {0, 0, 201},
            {0, 0, -1}, {Integer.MIN_VALUE, 0, 1}, {0, Integer.MAX_VALUE, 1}};
        for (int[] a : bad) {
            Check.refusesUnchanged("setBench(" + a[0] + ", " + a[1] + ", " + a[2] + ")", ARGUMENT,
                    x, () -> x.setBench(a[0], a[1], a[2]));
        }
        x.undo();
        Check.same("front after undo", x.bench(2), 0);
        Check.same("least after undo", x.bench(3), 0);
        Check.same("window after undo", x.bench(4), 1);
    }

    private static void addPulse() {
        LineEchoes x = new LineEchoes();
        Check.same("addPulse", x.addPulse(0, 1), 2);
        Check.same("addPulse", x.addPulse(100, 1000000), 3);
        Check.same("energy of all pulses", x.total(0), 1100001);
        int[][] bad = {{-1, 1}, {101, 1}, {0, 0}, {0, 1000001}, {0, -1}, {Integer.MAX_VALUE, 1}};
        for (int[] a : bad) {
            Check.refusesUnchanged("addPulse(" + a[0] + ", " + a[1] + ")", ARGUMENT, x,
                    () -> x.addPulse(a[0], a[1]));
        }
        Check.same("addPulse", x.addPulse(50, 10), 4);
        Check.refusesUnchanged("fifth addPulse", STATE, x, () -> x.addPulse(1, 1));
        Check.refusesUnchanged("bad fifth addPulse", ARGUMENT, x, () -> x.addPulse(1, 0));
        x.undo();
        Check.same("pulses after undo", x.bench(1), 3);
    }

    private static void removePulse() {
        LineEchoes x = new LineEchoes();
        Check.refusesUnchanged("removePulse of the only one", STATE, x, () -> x.removePulse(0));
        Check.refusesUnchanged("removePulse(1) of one", INDEX, x, () -> x.removePulse(1));
        Check.refusesUnchanged("removePulse(-1)", INDEX, x, () -> x.removePulse(-1));
        x.addPart(1, 1000);
        x.addPulse(1, 20);
        x.addPulse(2, 30);
        x.addPulse(3, 40);
        Check.refusesUnchanged("removePulse(4)", INDEX, x, () -> x.removePulse(4));
        Check.same("removePulse(1)", x.removePulse(1), 3);
        Check.same("the pulse of 100000", x.echo(2), 100000);
        Check.same("the removed one", x.echo(3), 0);
        Check.same("the one behind it", x.echo(4), 30);
        Check.same("removePulse(0)", x.removePulse(0), 2);
        Check.same("removePulse(0)", x.removePulse(0), 1);
        Check.same("the one that is left", x.echo(5), 40);
        Check.same("its energy", x.total(0), 40);
        x.undo();
        Check.same("pulses after undo", x.total(0), 70);
    }

    private static void part() {
        LineEchoes x = threeParts();
        isLine("three parts", x, 5, 300, 3, 500, 4, 1000);
        Check.refusesUnchanged("part(3, 0)", INDEX, x, () -> x.part(3, 0));
        Check.refusesUnchanged("part(-1, 0)", INDEX, x, () -> x.part(-1, 0));
        Check.refusesUnchanged("part(3, 3)", INDEX, x, () -> x.part(3, 3));
        Check.refusesUnchanged("part(2, 3)", ARGUMENT, x, () -> x.part(2, 3));
        Check.refusesUnchanged("part(0, -1)", ARGUMENT, x, () -> x.part(0, -1));
        Check.refuses("part of none", INDEX, () -> new LineEchoes().part(0, 0));
    }

    private static void bench() {
        LineEchoes x = threeParts();
        x.addPulse(7, 7);
        x.setBench(5, 6, 7);
        long[] due = {3, 2, 5, 6, 7, 12};
        for (int what = 0; what < due.length; what++) {
            Check.same("bench(" + what + ")", x.bench(what), due[what]);
        }
        Check.refusesUnchanged("bench(6)", ARGUMENT, x, () -> x.bench(6));
        Check.refusesUnchanged("bench(-1)", ARGUMENT, x, () -> x.bench(-1));
    }
}
