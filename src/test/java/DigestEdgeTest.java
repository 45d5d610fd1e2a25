import java.math.BigInteger;
import java.util.ArrayList;
import java.util.List;

/** Promise 30: "h becomes 31 * h + v (long arithmetic, overflow wraps)". */
public final class DigestEdgeTest {
    private static final BigInteger LONGS = BigInteger.ONE.shiftLeft(64);

    public static void main(String[] args) {
        wraps("a new object", LineEchoes::new);
        wraps("no parts", () -> Twins.line(0));
        wraps("three parts", () -> Twins.line(3));
        wraps("eight parts", () -> Twins.line(8));
        wraps("the smallest window", () -> inWindow(1));
        wraps("the greatest window", () -> inWindow(200));
        wraps("much energy", DigestEdgeTest::muchEnergy);
        bothSigns();
        everyValueCounts();
        Check.finish();
    }

    private static LineEchoes inWindow(int window) {
        LineEchoes x = Twins.line(3);
        x.setBench(0, 0, window);
        return x;
    }

    private static LineEchoes muchEnergy() {
        LineEchoes x = Twins.pulses(3);
        x.addPulse(100, 1000000);
        x.setBench(999, 1000, 200);
        x.setObserved(0, 4000000);
        x.setObserved(200, 4000000);
        return x;
    }

    /** The pulses cannot be asked for, so they are looked for with the parts taken away. */
    private static List<long[]> pulsesOf(Twins.Maker maker) {
        List<long[]> pulses = new ArrayList<>();
        int number = maker.make().bench(1);
        for (int i = 0; i < number; i++) {
            LineEchoes x = maker.make();
            for (int other = number - 1; other >= 0; other--) {
                if (other != i) {
                    x.removePulse(other);
                }
            }
            while (x.bench(0) > 0) {
                x.removePart(0);
            }
            x.addPart(1, 1000);
            x.setBench(0, 0, 200);
            pulses.add(new long[] {x.echoTime(0) - 2, x.total(0)});
        }
        return pulses;
    }

    private static List<Long> values(Twins.Maker maker) {
        List<Long> values = new ArrayList<>();
        LineEchoes x = maker.make();
        values.add((long) savedStates(maker.make()));
        values.add((long) maker.make().clearScript());
        for (int what = 0; what <= 5; what++) {
            values.add((long) x.bench(what));
        }
        for (int k = 0; k < values.get(2); k++) {
            values.add((long) x.part(k, 0));
            values.add((long) x.part(k, 1));
        }
        for (long[] pulse : pulsesOf(maker)) {
            values.add(pulse[0]);
            values.add(pulse[1]);
        }
        for (int what = 0; what <= 8; what++) {
            values.add(x.total(what));
        }
        int window = x.bench(4);
        for (int time = 0; time <= window; time++) {
            values.add(x.echo(time));
        }
        LineEchoes y = maker.make();
        values.add((long) y.differences());
        for (int what = 0; what <= 3; what++) {
            values.add((long) y.fault(what));
        }
        for (int time = 0; time <= 200; time++) {
            values.add(y.observed(time));
        }
        for (int what = 0; what <= 3; what++) {
            values.add((long) y.peel(what));
        }
        for (int k = 0; k < y.peel(2); k++) {
            values.add((long) y.found(k, 0));
            values.add((long) y.found(k, 1));
        }
        return values;
    }

    private static int savedStates(LineEchoes x) {
        int number = 0;
        try {
            while (number <= 3) {
                x.undo();
                number++;
            }
        } catch (IllegalStateException e) {
            return number;
        }
        return number;
    }

    /** Without bound the number has hundreds of digits; a long keeps the lowest 64 bits of it. */
    private static void wraps(String what, Twins.Maker maker) {
        BigInteger h = BigInteger.valueOf(11908);
        for (long v : values(maker)) {
            h = h.multiply(BigInteger.valueOf(31)).add(BigInteger.valueOf(v));
        }
        Check.holds(what + ": the number is too great for a long", h.bitLength() > 1000);
        BigInteger rest = h.mod(LONGS);
        long wrapped = rest.testBit(63) ? rest.subtract(LONGS).longValueExact()
                : rest.longValueExact();
        Check.same("digest of " + what, maker.make().digest(), wrapped);
    }

    private static void bothSigns() {
        int below = 0;
        for (int energy = 0; energy < 64; energy++) {
            LineEchoes x = new LineEchoes();
            x.setObserved(0, energy * 62345L);
            below += x.digest() < 0 ? 1 : 0;
        }
        Check.holds("digests below 0 and above, " + below, below > 0 && below < 64);
    }

    /** A value of each kind is changed alone, as far as this can be; the digest tells it. */
    private static void everyValueCounts() {
        LineEchoes x = new LineEchoes();
        x.addPart(3, 500);
        x.observe();
        x.keepSound();
        long first = x.digest();
        x.type(32);
        Check.holds("the length of the script", x.digest() != first);
        x.clearScript();
        x.type(0);
        long zero = x.digest();
        x.clearScript();
        x.type(127);
        Check.same("not its bytes", x.digest(), zero);
        x.clearScript();
        Check.same("as before", x.digest(), first);
        for (int time : new int[] {0, 1, 100, 101, 199, 200}) {
            x.setObserved(time, x.observed(time) + 1);
            Check.holds("observed(" + time + ")", x.digest() != first);
            x.undo();
            x.run();
            Check.same("as before", x.digest(), first);
            x.undo();
            x.run();
        }
        x.addPulse(100, 1);
        Check.holds("a pulse that is late", x.digest() != first);
        x.undo();
        Check.holds("the number of saved states", x.digest() != first);
    }
}
