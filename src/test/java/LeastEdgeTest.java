/**
 * The least energy: an energy equal to it, one below it, and 0; and mergings, also of what is
 * dropped.
 */
public final class LeastEdgeTest {
    public static void main(String[] args) {
        pulses();
        turnedBackAtTheEnd();
        atAJoint();
        fromBehindAJoint();
        turnedBackAtTheFront();
        echoesAndLeavingAreNotDropped();
        zeroIsNoPacket();
        roundingDown();
        leastOfZeroAndOne();
        droppedMergings();
        mergingsAtTheFront();
        oneMergingHoweverMany();
        mergingsAtAJoint();
        zeroIsNotMerged();
        peelingDrops();
        Check.finish();
    }

    /** A line with one pulse at 0; the front is 0 and the window 100 until they are set. */
    private static LineEchoes line(int energy, int least, int... lengthsAndFractions) {
        LineEchoes x = new LineEchoes();
        x.addPulse(0, energy);
        x.removePulse(0);
        for (int i = 0; i < lengthsAndFractions.length; i += 2) {
            x.addPart(lengthsAndFractions[i], lengthsAndFractions[i + 1]);
        }
        x.setBench(0, least, 100);
        return x;
    }

    private static void totals(String what, LineEchoes x, long... due) {
        for (int i = 0; i < due.length; i++) {
            Check.same(what + ": total(" + i + ")", x.total(i), due[i]);
        }
    }

    /** "A packet (also one that is a pulse) with an energy less than the least energy ..". */
    private static void pulses() {
        for (int least : new int[] {1, 2, 3, 500, 999, 1000}) {
            LineEchoes equal = line(least, least, 2, 1000);
            totals("a pulse of " + least, equal, least, least, 0, 0, 0, 0, 0, 1, least);
            Check.same("it arrives", equal.arrival(1, 2, false), least);
            if (least > 1) {
                LineEchoes below = line(least - 1, least, 2, 1000);
                totals("a pulse below " + least, below, least - 1, 0, 0, least - 1, 0, 0, 1, 0, 0);
                Check.same("it does not set out", below.arrival(1, 2, false), 0);
            }
            LineEchoes above = line(least + 1, least, 2, 1000);
            totals("a pulse above " + least, above, least + 1, least + 1, 0, 0, 0, 0, 0, 1,
                    least + 1);
        }
    }

    private static void turnedBackAtTheEnd() {
        totals("equal", line(1000, 600, 1, 600), 1000, 600, 400, 0, 0, 0, 0, 1, 600);
        totals("one below", line(1000, 601, 1, 600), 1000, 0, 400, 600, 0, 0, 1, 0, 0);
    }

    /** 400 of 1000 is turned back at the first joint, 600 passes. */
    private static void atAJoint() {
        LineEchoes x = line(1000, 400, 1, 400, 1, 0);
        totals("both set out", x, 1000, 400, 600, 0, 0, 0, 0, 1, 400);
        x.setBench(0, 401, 100);
        totals("what is turned back is dropped", x, 1000, 0, 600, 400, 0, 0, 1, 0, 0);
        x.setBench(0, 600, 100);
        totals("what passes sets out", x, 1000, 0, 600, 400, 0, 0, 1, 0, 0);
        x.setBench(0, 601, 100);
        totals("both are dropped", x, 1000, 0, 0, 1000, 0, 0, 2, 0, 0);
        Check.same("nothing comes to the end", x.arrival(2, 2, false), 0);
    }

    /** 600 passes the joint, is turned back at the end, and is divided into 240 and 360 at 3. */
    private static void fromBehindAJoint() {
        LineEchoes x = line(1000, 240, 1, 400, 1, 1000);
        x.setBench(0, 240, 3);
        totals("both set out", x, 1000, 400, 0, 0, 600, 0, 0, 1, 400);
        x.setBench(0, 241, 3);
        totals("240 is dropped", x, 1000, 400, 0, 240, 360, 0, 1, 1, 400);
        x.setBench(0, 360, 3);
        totals("360 sets out", x, 1000, 400, 0, 240, 360, 0, 1, 1, 400);
        x.setBench(0, 361, 3);
        totals("both are dropped", x, 1000, 400, 0, 600, 0, 0, 2, 1, 400);
        x.setBench(0, 600, 100);
        totals("three packets are dropped", x, 1000, 0, 0, 1000, 0, 0, 3, 0, 0);
    }

    private static void turnedBackAtTheFront() {
        LineEchoes x = line(1000, 600, 1, 1000);
        x.setBench(600, 600, 3);
        totals("equal", x, 1000, 400, 0, 0, 600, 0, 0, 1, 400);
        Check.same("it arrives again", x.arrival(1, 3, false), 600);
        x.setBench(600, 601, 3);
        totals("one below", x, 1000, 400, 0, 600, 0, 0, 1, 1, 400);
        Check.same("it does not arrive", x.arrival(1, 3, false), 0);
    }

    /** Only what would set out is dropped: an echo and what leaves the line may be smaller. */
    private static void echoesAndLeavingAreNotDropped() {
        LineEchoes x = line(1000, 1000, 1, 1000);
        x.setBench(999, 1000, 100);
        totals("an echo of 1", x, 1000, 1, 0, 999, 0, 0, 1, 1, 1);
        totals("1 leaves", line(1000, 1000, 1, 999), 1000, 0, 1, 999, 0, 0, 1, 0, 0);
    }

    /** "(Energy 0 is no packet.)": it is not dropped, and it is not counted. */
    private static void zeroIsNoPacket() {
        totals("nothing is turned back", line(1000, 1000, 1, 0), 1000, 0, 1000, 0, 0, 0, 0, 0, 0);
        totals("nothing passes", line(1000, 1000, 1, 1000, 1, 1000),
                1000, 1000, 0, 0, 0, 0, 0, 1, 1000);
        totals("all passes", line(1000, 1000, 1, 0, 1, 0), 1000, 0, 1000, 0, 0, 0, 0, 0, 0);
    }

    /** "floor(e * p / 1000) of it is turned back, and the rest passes". */
    private static void roundingDown() {
        totals("0.999 is 0", line(1, 1, 1, 999), 1, 0, 1, 0, 0, 0, 0, 0, 0);
        totals("0.5 is 0", line(1, 0, 1, 500), 1, 0, 1, 0, 0, 0, 0, 0, 0);
        totals("1.5 is 1", line(3, 1, 1, 500), 3, 1, 2, 0, 0, 0, 0, 1, 1);
        totals("1.998 is 1", line(2, 1, 1, 999), 2, 1, 1, 0, 0, 0, 0, 1, 1);
        totals("999000 is exact", line(1000000, 1, 1, 999),
                1000000, 999000, 1000, 0, 0, 0, 0, 1, 999000);
        totals("998999.001 is 998999", line(999999, 1, 1, 999),
                999999, 998999, 1000, 0, 0, 0, 0, 1, 998999);
        LineEchoes front = line(1, 1, 1, 1000);
        front.setBench(999, 1, 100);
        totals("0.999 is 0 at the front", front, 1, 1, 0, 0, 0, 0, 0, 1, 1);
    }

    private static void leastOfZeroAndOne() {
        for (int least = 0; least <= 1; least++) {
            LineEchoes x = line(7, least, 1, 500, 2, 500, 1, 500);
            x.setBench(500, least, 200);
            Check.same("nothing is dropped", x.total(3), 0);
            Check.same("no packet is dropped", x.total(6), 0);
            Check.same("all is somewhere", x.total(1) + x.total(2) + x.total(4), 7);
        }
        totals("a pulse of 1 at the least of 0", line(1, 0, 1, 1000), 1, 1, 0, 0, 0, 0, 0, 1, 1);
        totals("a pulse of 1 at the least of 1", line(1, 1, 1, 1000), 1, 1, 0, 0, 0, 0, 0, 1, 1);
        totals("a pulse of 1 at the least of 2", line(1, 2, 1, 1000), 1, 0, 0, 1, 0, 0, 1, 0, 0);
    }

    /** "this is one merging, also if the packet is dropped". */
    private static void droppedMergings() {
        LineEchoes x = line(500, 1000, 1, 1000);
        x.addPulse(0, 499);
        totals("one below", x, 999, 0, 0, 999, 0, 1, 1, 0, 0);
        x.removePulse(1);
        x.addPulse(0, 500);
        totals("equal", x, 1000, 1000, 0, 0, 0, 1, 0, 1, 1000);
        x.removePulse(1);
        x.addPulse(1, 500);
        totals("not together", x, 1000, 0, 0, 1000, 0, 0, 2, 0, 0);
        x.addPulse(1, 499);
        totals("two of them together", x, 1499, 0, 0, 1499, 0, 1, 2, 0, 0);
    }

    /** At 2 the front turns 200 of 1000 back, and a pulse sets out. */
    private static void mergingsAtTheFront() {
        LineEchoes x = line(1000, 300, 1, 1000);
        x.setBench(200, 300, 3);
        totals("200 alone is dropped", x, 1000, 800, 0, 200, 0, 0, 1, 1, 800);
        x.addPulse(2, 100);
        totals("300 sets out", x, 1100, 800, 0, 0, 300, 1, 0, 1, 800);
        Check.same("as one packet", x.arrival(1, 3, false), 300);
        x.removePulse(1);
        x.addPulse(2, 99);
        totals("299 is dropped", x, 1099, 800, 0, 299, 0, 1, 1, 1, 800);
        x.addPulse(2, 1);
        totals("300 of three sets out", x, 1100, 800, 0, 0, 300, 1, 0, 1, 800);
    }

    /** "if more than one of these energies were greater than 0, however many". */
    private static void oneMergingHoweverMany() {
        LineEchoes x = line(10, 1, 1, 1000);
        long sum = 10;
        for (int more = 1; more <= 3; more++) {
            x.addPulse(0, more);
            sum += more;
            totals(more + " pulses more", x, sum, sum, 0, 0, 0, 1, 0, 1, sum);
        }
        LineEchoes y = line(1000, 1, 1, 1000);
        y.setBench(500, 1, 2);
        Check.same("what is turned back alone", y.total(5), 0);
        for (int more = 1; more <= 3; more++) {
            y.addPulse(2, 1);
            Check.same("with " + more + " pulses", y.total(5), 1);
            Check.same("under way", y.total(4), 500 + more);
        }
        LineEchoes ones = line(2, 1, 1, 1000);
        ones.setBench(500, 1, 2);
        ones.addPulse(2, 1);
        totals("1 is turned back, 1 is a pulse", ones, 3, 1, 0, 0, 2, 1, 0, 1, 1);
    }

    /** At 3 the joint 1 is met by half of the first pulse from far and by the second from near. */
    private static LineEchoes crossing(int fraction, int second) {
        LineEchoes x = line(2000, 1, 1, 0, 1, 1000);
        x.addPulse(2, second);
        x.setBench(0, 1, 3);
        x.setPart(0, 1, fraction);
        return x;
    }

    private static void mergingsAtAJoint() {
        LineEchoes both = crossing(500, 600);
        Check.same("from far", both.arrival(1, 3, true), 1000);
        Check.same("from near", both.arrival(1, 3, false), 600);
        totals("a merging each way", both, 2600, 1000, 0, 0, 1600, 2, 0, 1, 1000);
        both.setBench(0, 1, 4);
        Check.same("one packet to the front", both.arrival(0, 4, true), 800);
        Check.same("one packet to the end", both.arrival(2, 4, false), 800);
    }

    private static void zeroIsNotMerged() {
        totals("all passes", crossing(0, 600), 2600, 0, 0, 0, 2600, 0, 0, 0, 0);
        totals("all is turned back", crossing(1000, 600), 2600, 2000, 0, 0, 600, 0, 0, 1, 2000);
        // Of the second pulse's 1 nothing is turned back, so only what passes is merged.
        totals("one way alone", crossing(500, 1), 2001, 1000, 0, 0, 1001, 1, 0, 1, 1000);
        // 2 passes at 1 and comes back at 3: there 1 is turned back and 1 passes.
        LineEchoes ones = line(4, 1, 1, 500, 1, 1000);
        ones.addPulse(2, 2);
        ones.setBench(0, 1, 3);
        totals("1 and 1 each way", ones, 6, 2, 0, 0, 4, 2, 0, 1, 2);
        LineEchoes front = line(1000, 1, 1, 1000);
        front.addPulse(2, 5);
        totals("the front turns nothing back", front, 1005, 1005, 0, 0, 0, 0, 0, 2, 1000);
        LineEchoes small = line(1, 1, 1, 1000);
        small.addPulse(2, 5);
        small.setBench(999, 1, 2);
        totals("the front turns 0.999 back", small, 6, 1, 0, 0, 5, 0, 0, 1, 1);
    }

    /** Peeling works "with the present front, least energy and window". */
    private static void peelingDrops() {
        LineEchoes x = line(1000, 500, 1, 0);
        x.setObserved(2, 500);
        Check.same("500 at the least of 500", x.found(0, 1), 500);
        x.setBench(0, 501, 100);
        Check.same("500 at the least of 501", x.peel(0), LineEchoes.CONTRADICTION);
        x.setBench(0, 1000, 100);
        x.setObserved(2, 1000);
        Check.same("1000 at the least of 1000", x.found(0, 1), 1000);
        x.addPulse(0, 999);
        x.removePulse(0);
        x.setObserved(2, 999);
        Check.same("a pulse that is dropped", x.peel(0), LineEchoes.CONTRADICTION);
        x.setBench(0, 999, 100);
        Check.same("a pulse that is not dropped", x.found(0, 1), 1000);
        x.setObserved(2, 1);
        Check.same("1 at the least of 999", x.peel(0), LineEchoes.CONTRADICTION);
        x.setBench(0, 1, 100);
        Check.same("floor(999 * 2 / 1000) is 1", x.found(0, 1), 2);
        x.setBench(0, 0, 100);
        Check.same("also at the least of 0", x.found(0, 1), 2);
    }
}
