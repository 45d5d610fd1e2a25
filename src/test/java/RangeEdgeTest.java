/**
 * Too small and too large: each argument that has a range, with its least and its greatest value,
 * with the values just outside and with those far outside; and each number of a part, of a pulse
 * and of a joint. What is refused leaves no trace.
 */
public final class RangeEdgeTest {
    private static final Class<?> ARGUMENT = IllegalArgumentException.class;
    private static final Class<?> STATE = IllegalStateException.class;
    private static final Class<?> INDEX = IndexOutOfBoundsException.class;

    private interface CallWith {
        long answer(LineEchoes x, int value);
    }

    public static void main(String[] args) {
        addPart();
        setPart();
        removePart();
        splitPart();
        placesOfSplits();
        setBench();
        addPulse();
        removePulse();
        part();
        what();
        times();
        arrival();
        indices();
        setObserved();
        found();
        type();
        Check.finish();
    }

    /** The edges of a range are taken, and what is set is found again; the rest is refused. */
    private static void range(String what, int least, int greatest, Twins.Maker maker,
            CallWith call, Twins.CallOn probe) {
        for (int value : new int[] {least, least + 1, greatest - 1, greatest}) {
            LineEchoes x = maker.make();
            takes(what + " " + value, x, value, call);
            Check.same(what + " " + value + ", looked at", probe.answer(x), value);
        }
        outside(what, least, greatest, ARGUMENT, maker, call);
    }

    private static void takes(String what, LineEchoes x, int value, CallWith call) {
        try {
            call.answer(x, value);
            Check.holds(what, true);
        } catch (RuntimeException e) {
            Check.fail(what + " threw " + e);
        }
    }

    private static void outside(String what, int least, int greatest, Class<?> kind,
            Twins.Maker maker, CallWith call) {
        int[] values = {least - 1, greatest + 1, -1, Integer.MIN_VALUE, Integer.MAX_VALUE,
            greatest + 65536, least - 65536, greatest + 256};
        for (int value : values) {
            if (value < least || value > greatest) {
                Twins.refuses(what + " " + value, kind, maker, x -> call.answer(x, value));
            }
        }
    }

    private static void addPart() {
        range("addPart with the length", 1, 20, () -> Twins.line(3),
                (x, v) -> x.addPart(v, 500), x -> x.part(3, 0));
        range("addPart with the fraction", 0, 1000, () -> Twins.line(3),
                (x, v) -> x.addPart(5, v), x -> x.part(3, 1));
        LineEchoes x = new LineEchoes();
        Check.same("addPart of the least", x.addPart(1, 0), 1);
        Check.same("addPart of the greatest", x.addPart(20, 1000), 2);
        Check.same("their lengths", x.bench(5), 21);
    }

    private static void setPart() {
        range("setPart to the length", 1, 20, () -> Twins.line(3),
                (x, v) -> x.setPart(2, v, 500), x -> x.part(2, 0));
        range("setPart to the fraction", 0, 1000, () -> Twins.line(3),
                (x, v) -> x.setPart(0, 5, v), x -> x.part(0, 1));
        for (int n : new int[] {0, 1, 3, 8}) {
            for (int k = 0; k < n; k++) {
                LineEchoes x = Twins.line(n);
                Check.same("setPart of " + k, x.setPart(k, 20, 1000), 100 * k + 50);
                Check.same("length of " + k, x.part(k, 0), 20);
                Check.same("the others stay", x.bench(5), n * (n + 3) / 2 - (k + 2) + 20);
            }
            outside("setPart of", 0, n - 1, INDEX, () -> Twins.line(n),
                    (x, v) -> x.setPart(v, 5, 500));
        }
    }

    private static void removePart() {
        for (int n : new int[] {0, 1, 3, 8}) {
            for (int k = 0; k < n; k++) {
                LineEchoes x = Twins.line(n);
                Check.same("removePart(" + k + ")", x.removePart(k), n - 1);
                for (int i = 0; i < n - 1; i++) {
                    int old = i < k ? i : i + 1;
                    Check.same("length behind removePart", x.part(i, 0), old + 2);
                    Check.same("fraction behind removePart", x.part(i, 1), 100 * old + 50);
                }
            }
            outside("removePart", 0, n - 1, INDEX, () -> Twins.line(n),
                    (x, v) -> x.removePart(v));
        }
    }

    private static void splitPart() {
        range("splitPart with the fraction", 0, 1000, () -> Twins.line(3),
                (x, v) -> x.splitPart(1, 2, v), x -> x.part(1, 1));
        for (int n : new int[] {0, 1, 3, 7}) {
            for (int k = 0; k < n; k++) {
                LineEchoes x = Twins.line(n);
                Check.same("splitPart of " + k, x.splitPart(k, 1, 7), n + 1);
                Check.same("the first length", x.part(k, 0), 1);
                Check.same("the first fraction", x.part(k, 1), 7);
                Check.same("the second length", x.part(k + 1, 0), k + 1);
                Check.same("the second fraction", x.part(k + 1, 1), 100 * k + 50);
                Check.same("the sum stays", x.bench(5), n * (n + 3) / 2);
            }
            outside("splitPart of", 0, n - 1, INDEX, () -> Twins.line(n),
                    (x, v) -> x.splitPart(v, 1, 500));
        }
    }

    /** "at: 1 to the length of the part minus 1"; a part of the length 1 cannot be split. */
    private static void placesOfSplits() {
        for (int length : new int[] {1, 2, 3, 20}) {
            Twins.Maker maker = () -> {
                LineEchoes x = Twins.line(2);
                x.setPart(1, length, 333);
                return x;
            };
            for (int at = 1; at < length; at++) {
                LineEchoes x = maker.make();
                Check.same("splitPart at " + at, x.splitPart(1, at, 0), 3);
                Check.same("its length", x.part(1, 0), at);
                Check.same("the rest", x.part(2, 0), length - at);
                Check.same("the fraction that it had", x.part(2, 1), 333);
            }
            outside("splitPart of the length " + length + " at", 1, length - 1, ARGUMENT, maker,
                    (x, v) -> x.splitPart(1, v, 500));
        }
    }

    private static void setBench() {
        range("setBench with the front", 0, 999, () -> Twins.line(3),
                (x, v) -> x.setBench(v, 5, 50), x -> x.bench(2));
        range("setBench with the least", 0, 1000, () -> Twins.line(3),
                (x, v) -> x.setBench(5, v, 50), x -> x.bench(3));
        range("setBench with the window", 1, 200, () -> Twins.line(3),
                (x, v) -> x.setBench(5, 5, v), x -> x.bench(4));
    }

    private static LineEchoes mirror() {
        LineEchoes x = new LineEchoes();
        x.setBench(0, 1, 200);
        x.addPart(1, 1000);
        return x;
    }

    private static long lastPulseAlone(LineEchoes x, boolean energy) {
        x.removePulse(0);
        return energy ? x.total(0) : x.echoTime(0) - 2;
    }

    private static void addPulse() {
        range("addPulse at the time", 0, 100, RangeEdgeTest::mirror,
                (x, v) -> x.addPulse(v, 7), x -> lastPulseAlone(x, false));
        range("addPulse with the energy", 1, 1000000, RangeEdgeTest::mirror,
                (x, v) -> x.addPulse(9, v), x -> lastPulseAlone(x, true));
    }

    private static void removePulse() {
        for (int number = 2; number <= 4; number++) {
            int count = number;
            for (int i = 0; i < number; i++) {
                LineEchoes x = Twins.pulses(number);
                long others = x.total(0) - (long) Math.pow(10, i);
                Check.same("removePulse(" + i + ")", x.removePulse(i), number - 1);
                Check.same("the others", x.total(0), others);
                Check.same("its echo", x.echo(5 * i + 6), 0);
                Check.same("the number", x.bench(1), number - 1);
            }
            outside("removePulse of " + number, 0, number - 1, INDEX, () -> Twins.pulses(count),
                    (x, v) -> x.removePulse(v));
        }
        Twins.refuses("removePulse of the only one", STATE, () -> Twins.pulses(1),
                x -> x.removePulse(0));
        outside("removePulse of 1", 0, 0, INDEX, () -> Twins.pulses(1), (x, v) -> x.removePulse(v));
    }

    private static void part() {
        for (int n : new int[] {0, 1, 3, 8}) {
            LineEchoes x = Twins.line(n);
            for (int k = 0, sum = 0; k < n; k++) {
                sum += k + 2;
                Check.same("part(" + k + ", 0)", x.part(k, 0), k + 2);
                Check.same("part(" + k + ", 1)", x.part(k, 1), 100 * k + 50);
                Check.same("part(" + k + ", 2)", x.part(k, 2), sum);
            }
            for (int what = 0; what <= 2; what++) {
                int asked = what;
                outside("part, " + what + ", of", 0, n - 1, INDEX, () -> Twins.line(n),
                        (y, v) -> y.part(v, asked));
            }
        }
        for (int k = 0; k < 3; k++) {
            int number = k;
            outside("part " + k + " with", 0, 2, ARGUMENT, () -> Twins.line(3),
                    (x, v) -> x.part(number, v));
        }
    }

    /** The arguments "what": every value that has a meaning answers, and no other. */
    private static void what() {
        for (int n : new int[] {0, 3}) {
            Twins.Maker maker = () -> Twins.line(n);
            whatUpTo("bench", 5, maker, (x, v) -> x.bench(v));
            whatUpTo("total", 8, maker, (x, v) -> x.total(v));
            whatUpTo("fault", 3, maker, (x, v) -> x.fault(v));
            whatUpTo("peel", 3, maker, (x, v) -> x.peel(v));
            whatUpTo("found 0", 1, maker, (x, v) -> x.found(0, v));
            whatUpTo("found 8", 1, maker, (x, v) -> x.found(8, v));
        }
    }

    private static void whatUpTo(String what, int greatest, Twins.Maker maker, CallWith call) {
        LineEchoes x = maker.make();
        for (int value = 0; value <= greatest; value++) {
            takes(what + " of " + value, x, value, call);
        }
        Twins.alike(what + " changes nothing", x, maker.make());
        outside(what + " of", 0, greatest, ARGUMENT, maker, call);
    }

    private static LineEchoes lineInWindow(int parts, int window) {
        LineEchoes x = Twins.line(parts);
        x.setBench(100, 3, window);
        return x;
    }

    /** "time: 0 to the window", which is the present one. */
    private static void times() {
        for (int window : new int[] {1, 2, 59, 100, 199, 200}) {
            LineEchoes x = lineInWindow(3, window);
            for (int time = 0; time <= window; time++) {
                takes("echo in the window " + window, x, time, (y, v) -> y.echo(v));
            }
            outside("in the window " + window + ", echo", 0, window, ARGUMENT,
                    () -> lineInWindow(3, window), (y, v) -> y.echo(v));
        }
        LineEchoes x = lineInWindow(3, 200);
        takes("echo", x, 200, (y, v) -> y.echo(v));
        x.setBench(100, 3, 10);
        Check.refuses("echo behind the window that was made smaller", ARGUMENT, () -> x.echo(11));
        takes("echo at it", x, 10, (y, v) -> y.echo(v));
        x.undo();
        takes("echo after undo", x, 200, (y, v) -> y.echo(v));
    }

    private static void arrival() {
        for (boolean fromFar : new boolean[] {true, false}) {
            for (int n : new int[] {0, 1, 3, 8}) {
                LineEchoes x = Twins.line(n);
                for (int joint = 0; joint <= n; joint++) {
                    takes("arrival at the joint " + joint, x, joint,
                            (y, v) -> y.arrival(v, 60, fromFar));
                }
                outside("arrival at the joint", 0, n, INDEX, () -> Twins.line(n),
                        (y, v) -> y.arrival(v, 0, fromFar));
            }
            for (int window : new int[] {1, 60, 200}) {
                LineEchoes x = lineInWindow(3, window);
                for (int time : new int[] {0, 1, window - 1, window}) {
                    takes("arrival", x, time, (y, v) -> y.arrival(0, v, fromFar));
                    takes("arrival", x, time, (y, v) -> y.arrival(3, v, fromFar));
                }
                outside("arrival at the time", 0, window, ARGUMENT,
                        () -> lineInWindow(3, window), (y, v) -> y.arrival(3, v, fromFar));
            }
        }
        arrivalWithoutPart();
    }

    /** "0 if there is no such part": before the front and behind the end. */
    private static void arrivalWithoutPart() {
        for (int n : new int[] {0, 1, 8}) {
            LineEchoes x = Twins.line(n);
            for (int time = 0; time <= 60; time++) {
                Check.same("arrival before the front", x.arrival(0, time, false), 0);
                Check.same("arrival behind the end", x.arrival(n, time, true), 0);
            }
        }
        LineEchoes x = Twins.line(3);
        Check.holds("something comes to the end", x.arrival(3, 9, false) > 0);
        x.addPart(1, 1000);
        Check.holds("something comes back from the new end", x.arrival(3, 11, true) > 0);
        x.removePart(3);
        Check.same("nothing comes when it is gone", x.arrival(3, 11, true), 0);
    }

    /** "index: 0 or more"; "NONE if the list has not so many" only if it is not negative. */
    private static void indices() {
        for (int n : new int[] {0, 3}) {
            Twins.Maker maker = () -> Twins.line(n);
            for (int index : new int[] {-1, -2, Integer.MIN_VALUE}) {
                Twins.refuses("echoTime(" + index + ")", ARGUMENT, maker, x -> x.echoTime(index));
                Twins.refuses("echoByte(" + index + ")", ARGUMENT, maker, x -> x.echoByte(index));
                Twins.refuses("found(" + index + ", 0)", ARGUMENT, maker, x -> x.found(index, 0));
                Twins.refuses("found(" + index + ", 1)", ARGUMENT, maker, x -> x.found(index, 1));
            }
        }
        LineEchoes x = Twins.line(3);
        int times = (int) x.total(7);
        Check.holds("the list has a last time", x.echoTime(times - 1) > 0);
        int bytes = 0;
        while (bytes < 300 && x.echoByte(bytes) != LineEchoes.NONE) {
            bytes++;
        }
        Check.same("the text has a last byte", x.echoByte(bytes - 1), ';');
        for (int more : new int[] {0, 1, 1000, Integer.MAX_VALUE - 300}) {
            Check.same("echoTime behind", x.echoTime(times + more), LineEchoes.NONE);
            Check.same("echoByte behind", x.echoByte(bytes + more), LineEchoes.NONE);
        }
        Check.same("echoTime of the greatest", x.echoTime(Integer.MAX_VALUE), LineEchoes.NONE);
        Check.same("echoByte of the greatest", x.echoByte(Integer.MAX_VALUE), LineEchoes.NONE);
    }

    /** The observed list has the times 0 to 200, whatever the window is. */
    private static void setObserved() {
        for (int window : new int[] {1, 100, 200}) {
            Twins.Maker maker = () -> lineInWindow(3, window);
            for (int time : new int[] {0, 1, 100, 101, 199, 200}) {
                LineEchoes x = maker.make();
                Check.same("setObserved(" + time + ")", x.setObserved(time, 17), 0);
                Check.same("observed(" + time + ")", x.observed(time), 17);
            }
            outside("setObserved at", 0, 200, ARGUMENT, maker, (x, v) -> x.setObserved(v, 9));
            outside("observed", 0, 200, ARGUMENT, maker, (x, v) -> x.observed(v));
        }
        long[] fine = {0, 1, 3999999, 4000000};
        for (long energy : fine) {
            LineEchoes x = Twins.line(3);
            Check.same("setObserved to " + energy, x.setObserved(6, energy), 5000);
            Check.same("observed(6)", x.observed(6), energy);
        }
        long[] bad = {-1, 4000001, Integer.MAX_VALUE, Integer.MIN_VALUE, 1L << 32, (1L << 32) + 7,
            -(1L << 32), Long.MAX_VALUE, Long.MIN_VALUE};
        for (long energy : bad) {
            Twins.refuses("setObserved to " + energy, ARGUMENT, () -> Twins.line(3),
                    x -> x.setObserved(6, energy));
        }
    }

    /** "NONE if there were not so many found". */
    private static void found() {
        LineEchoes x = new LineEchoes();
        x.setObserved(6, 300);
        Check.same("found(0, 0)", x.found(0, 0), 3);
        Check.same("found(0, 1)", x.found(0, 1), 3);
        for (int part : new int[] {1, 2, 7, 8, 9, Integer.MAX_VALUE}) {
            Check.same("length of " + part, x.found(part, 0), LineEchoes.NONE);
            Check.same("fraction of " + part, x.found(part, 1), LineEchoes.NONE);
        }
    }

    private static void type() {
        LineEchoes x = new LineEchoes();
        for (int value : new int[] {0, 1, 126, 127}) {
            takes("type " + value, x, value, (y, v) -> y.type(v));
        }
        Check.same("four bytes", x.clearScript(), 4);
        outside("type", 0, 127, ARGUMENT, () -> Twins.line(3), (y, v) -> y.type(v));
    }
}
