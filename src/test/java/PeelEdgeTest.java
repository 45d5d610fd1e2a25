/**
 * Peeling, step by step: each condition at its edge, which of two conditions counts, and the
 * smallest and the greatest part that can be found.
 */
public final class PeelEdgeTest {
    private static final int COMPLETE = LineEchoes.COMPLETE;
    private static final int CONTRADICTION = LineEchoes.CONTRADICTION;
    private static final int TOO_LONG = LineEchoes.TOO_LONG;
    private static final int NONE = LineEchoes.NONE;

    public static void main(String[] args) {
        timeZero();
        oddTimes();
        lessThanTheEcho();
        shortestAndLongestPart();
        longestLine();
        ninthPart();
        contradictionComesBeforeTooLong();
        tooLongComesBeforeTheFraction();
        smallestAndGreatestFraction();
        noFraction();
        smallestOfSeveral();
        behindAnEndThatTurnsAllBack();
        front();
        energyOfPulseZero();
        adoptWhateverTheResult();
        Check.finish();
    }

    private static LineEchoes observed(long... timesAndEnergies) {
        LineEchoes x = new LineEchoes();
        for (int i = 0; i < timesAndEnergies.length; i += 2) {
            x.setObserved((int) timesAndEnergies[i], timesAndEnergies[i + 1]);
        }
        return x;
    }

    private static void peeled(String what, LineEchoes x, long... due) {
        for (int i = 0; i < due.length; i++) {
            Check.same(what + ": peel(" + i + ")", x.peel(i), due[i]);
        }
    }

    private static void lastFound(String what, LineEchoes x, int length, int fraction) {
        int last = x.peel(2) - 1;
        Check.same(what + ": length", last < 0 ? NONE : x.found(last, 0), length);
        Check.same(what + ": fraction", last < 0 ? NONE : x.found(last, 1), fraction);
    }

    /** "t is not greater than twice the sum of the lengths that were found": 0 is not. */
    private static void timeZero() {
        for (long energy : new long[] {1, 100, 50000, 100000, 4000000}) {
            peeled("O(0) = " + energy, observed(0, energy), CONTRADICTION, 0, 0, 0);
            peeled("with more behind it", observed(0, energy, 2, 500), CONTRADICTION, 0, 0, 0);
        }
        peeled("O(0) = 0", observed(0, 0), COMPLETE, NONE, 0, 0);
    }

    /** "or t is odd". */
    private static void oddTimes() {
        for (int time = 1; time < 100; time += 2) {
            peeled("O(" + time + ")", observed(time, 500), CONTRADICTION, time, 0, 0);
        }
        peeled("behind a part", observed(2, 500, 3, 100), CONTRADICTION, 3, 1, 1);
        peeled("odd beyond the longest part", observed(43, 500), CONTRADICTION, 43, 0, 0);
    }

    /** "If O(t) is less than that echo": all comes back at 2, half of it again at 4. */
    private static void lessThanTheEcho() {
        LineEchoes x = observed(2, 50000, 4, 25000, 6, 12500);
        x.setBench(500, 1, 6);
        peeled("equal", x, COMPLETE, NONE, 1, 1);
        x.setObserved(4, 24999);
        peeled("one less", x, CONTRADICTION, 4, 1, 1);
        x.setObserved(4, 0);
        peeled("none", x, CONTRADICTION, 4, 1, 1);
        x.setObserved(4, 25001);
        peeled("one more, but all is turned back", x, CONTRADICTION, 4, 1, 1);
    }

    /** "If this is greater than 20 .. peeling ends with TOO_LONG". */
    private static void shortestAndLongestPart() {
        lastFound("at 2", observed(2, 500), 1, 5);
        lastFound("at 40", observed(40, 500), 20, 5);
        peeled("at 42", observed(42, 500), TOO_LONG, 42, 0, 0);
        peeled("at 98", observed(98, 500), TOO_LONG, 98, 0, 0);
        LineEchoes second = observed(2, 1000, 4, 1079);
        second.setBench(0, 1, 5);
        // 99000 passes the first joint; 1089 of it comes back, and 1079 of that passes the joint.
        peeled("second at 4", second, COMPLETE, NONE, 2, 2);
        lastFound("second at 4", second, 1, 11);
        LineEchoes far = observed(2, 1000, 42, 9801);
        far.setBench(0, 1, 42);
        lastFound("second at 42", far, 20, 100);
        LineEchoes farther = observed(2, 1000, 44, 9801);
        farther.setBench(0, 1, 44);
        peeled("second at 44", farther, TOO_LONG, 44, 1, 1);
    }

    /** Five parts of the length 20 come back at 200, the end of the greatest window. */
    private static void longestLine() {
        LineEchoes x = new LineEchoes();
        for (int k = 0; k < 5; k++) {
            x.addPart(20, 100);
        }
        x.setBench(0, 1, 200);
        x.observe();
        peeled("five parts", x, COMPLETE, NONE, 5, 100);
        lastFound("the fifth", x, 20, 100);
        x.setBench(0, 1, 199);
        peeled("the fifth is behind the window", x, COMPLETE, NONE, 4, 80);
    }

    private static LineEchoes eightParts() {
        LineEchoes x = new LineEchoes();
        for (int k = 0; k < 8; k++) {
            x.addPart(1, 100);
        }
        x.setBench(0, 1, 60);
        x.observe();
        return x;
    }

    /** "or 8 parts were found already". */
    private static void ninthPart() {
        LineEchoes x = eightParts();
        peeled("eight", x, COMPLETE, NONE, 8, 8);
        x.setObserved(18, x.observed(18) + 1);
        peeled("more at 18", x, TOO_LONG, 18, 8, 8);
        x.undo();
        x.setObserved(60, x.observed(60) + 1);
        peeled("more at 60", x, TOO_LONG, 60, 8, 8);
        Check.same("no ninth", x.found(8, 0), NONE);
        Check.same("no ninth", x.found(8, 1), NONE);
    }

    /** Step (2) comes before step (3). */
    private static void contradictionComesBeforeTooLong() {
        LineEchoes x = eightParts();
        x.setObserved(17, 1);
        peeled("odd behind 8 parts", x, CONTRADICTION, 17, 8, 8);
        x.undo();
        x.setObserved(18, x.observed(18) - 1);
        peeled("less behind 8 parts", x, CONTRADICTION, 18, 8, 8);
        peeled("odd and too long", observed(41, 500), CONTRADICTION, 41, 0, 0);
    }

    /** Step (3) comes before step (4). */
    private static void tooLongComesBeforeTheFraction() {
        peeled("more than all, too long", observed(42, 4000000), TOO_LONG, 42, 0, 0);
        peeled("more than all", observed(40, 4000000), CONTRADICTION, 40, 0, 0);
        LineEchoes x = eightParts();
        x.setObserved(18, 4000000);
        peeled("more than all, 8 parts", x, TOO_LONG, 18, 8, 8);
    }

    /** "the smallest one from 1 to 1000". */
    private static void smallestAndGreatestFraction() {
        lastFound("1", observed(6, 100), 3, 1);
        lastFound("2", observed(6, 200), 3, 2);
        lastFound("999", observed(6, 99900), 3, 999);
        lastFound("1000", observed(6, 100000), 3, 1000);
    }

    /** "If there is none, peeling ends with CONTRADICTION at t". */
    private static void noFraction() {
        for (long energy : new long[] {1, 99, 101, 199, 99899, 99901, 99999, 100001, 4000000}) {
            peeled("O(6) = " + energy, observed(6, energy), CONTRADICTION, 6, 0, 0);
        }
    }

    /** floor(10 * p / 1000) is 1 from 100 to 199, and 0 up to 99. */
    private static void smallestOfSeveral() {
        for (int energy = 1; energy <= 10; energy++) {
            LineEchoes x = observed(2, energy);
            x.addPulse(0, 10);
            x.removePulse(0);
            lastFound("energy " + energy, x, 1, 100 * energy);
        }
        LineEchoes one = observed(2, 1);
        one.addPulse(0, 1);
        one.removePulse(0);
        lastFound("a pulse of 1", one, 1, 1000);
        LineEchoes great = observed(2, 1);
        great.addPulse(0, 1000000);
        great.removePulse(0);
        peeled("less than a thousandth", great, CONTRADICTION, 2, 0, 0);
        great.setObserved(2, 1000);
        lastFound("a thousandth", great, 1, 1);
    }

    private static void behindAnEndThatTurnsAllBack() {
        peeled("all at 4, more at 6", observed(4, 100000, 6, 1), CONTRADICTION, 6, 1, 2);
        peeled("all at 4, more at 60", observed(4, 100000, 60, 1), TOO_LONG, 60, 1, 2);
    }

    /** "with the present front": what is turned back there does not echo. */
    private static void front() {
        LineEchoes x = observed(2, 500);
        x.setBench(500, 1, 3);
        lastFound("half of it echoes", x, 1, 10);
        x.setBench(999, 1, 3);
        peeled("at most 100 echoes", x, CONTRADICTION, 2, 0, 0);
        x.setObserved(2, 100);
        // What comes back is e; e - floor(999 * e / 1000) is 100 first for 99001.
        lastFound("all is needed", x, 1, 991);
    }

    /** "for a single pulse with the time 0 and the energy of the pulse with the number 0". */
    private static void energyOfPulseZero() {
        LineEchoes x = observed(2, 500);
        x.addPulse(50, 1000);
        x.addPulse(0, 700);
        lastFound("100000", x, 1, 5);
        x.removePulse(0);
        lastFound("1000, though it is late", x, 1, 500);
        x.setBench(0, 1, 49);
        lastFound("1000, though it is behind the window", x, 1, 500);
        x.addPart(1, 300);
        lastFound("whatever the line is", x, 1, 500);
        x.removePulse(0);
        lastFound("700", x, 1, 715);
    }

    private static void adoptWhateverTheResult() {
        LineEchoes complete = observed(6, 300);
        Check.same("adopt", complete.adopt(), 1);
        Check.same("its echo", complete.echo(6), 300);
        LineEchoes contradiction = observed(6, 300, 9, 1);
        Check.same("adopt", contradiction.adopt(), 1);
        Check.same("its sum", contradiction.bench(5), 3);
        LineEchoes tooLong = observed(6, 300, 60, 1);
        Check.same("adopt", tooLong.adopt(), 1);
        Check.same("its fraction", tooLong.part(0, 1), 3);
        LineEchoes again = observed(6, 300);
        again.addPart(9, 900);
        again.addPart(9, 900);
        Check.same("adopt of fewer parts", again.adopt(), 1);
        Check.refuses("the others are gone", IndexOutOfBoundsException.class,
                () -> again.part(1, 0));
        Check.same("adopt again", again.adopt(), 1);
        Check.same("undo", again.undo(), 2);
        Check.same("undo", again.undo(), 1);
        Check.same("the others are back", again.part(1, 1), 900);
    }
}
