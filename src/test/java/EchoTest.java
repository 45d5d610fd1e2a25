/** Promises 12 to 16: echoes, totals, arrivals and the echo list as text. */
public final class EchoTest {
    private static final Class<?> ARGUMENT = IllegalArgumentException.class;
    private static final Class<?> INDEX = IndexOutOfBoundsException.class;

    public static void main(String[] args) {
        onePart();
        window();
        dropping();
        merging();
        threeJoints();
        noParts();
        greatestNumbers();
        text();
        digitsOfText();
        wrongInputs();
        Check.finish();
    }

    /** One part of the length 3 with the end 500 and the front 200: worked out by hand. */
    private static LineEchoes onePart(int least, int window) {
        LineEchoes x = new LineEchoes();
        x.addPart(3, 500);
        x.setBench(200, least, window);
        return x;
    }

    private static void totals(String what, LineEchoes x, long... due) {
        for (int i = 0; i < due.length; i++) {
            Check.same(what + ": total(" + i + ")", x.total(i), due[i]);
        }
    }

    private static void onePart() {
        LineEchoes x = onePart(1, 100);
        int[] times = {6, 12, 18, 24, 30};
        long echo = 40000;
        for (int i = 0; i < times.length; i++) {
            Check.same("echoTime(" + i + ")", x.echoTime(i), times[i]);
            Check.same("echo(" + times[i] + ")", x.echo(times[i]), echo);
            echo /= 10;
        }
        Check.same("echoTime(5)", x.echoTime(5), LineEchoes.NONE);
        Check.same("echoTime far behind", x.echoTime(Integer.MAX_VALUE), LineEchoes.NONE);
        for (int time : new int[] {0, 3, 5, 7, 9, 36, 100}) {
            Check.same("echo(" + time + ")", x.echo(time), 0);
        }
        totals("one part", x, 100000, 44444, 55556, 0, 0, 0, 0, 5, 40000);
        Check.same("arrival(1, 3)", x.arrival(1, 3, false), 100000);
        Check.same("arrival(0, 6)", x.arrival(0, 6, true), 50000);
        Check.same("arrival(1, 9)", x.arrival(1, 9, false), 10000);
        Check.same("arrival(1, 33)", x.arrival(1, 33, false), 1);
        Check.same("nothing is before the front", x.arrival(0, 6, false), 0);
        Check.same("nothing is behind the end", x.arrival(1, 3, true), 0);
    }

    private static void window() {
        totals("window 12", onePart(1, 12), 100000, 44000, 55000, 0, 1000, 0, 0, 2, 40000);
        totals("window 11", onePart(1, 11), 100000, 40000, 55000, 0, 5000, 0, 0, 1, 40000);
        totals("window 2", onePart(1, 2), 100000, 0, 0, 0, 100000, 0, 0, 0, 0);
        LineEchoes x = onePart(1, 3);
        Check.same("arrival at the window", x.arrival(1, 3, false), 100000);
        x.addPulse(3, 70);
        x.addPulse(4, 900);
        totals("pulses at and behind the window", x, 100070, 0, 50000, 0, 50070, 0, 0, 0, 0);
    }

    private static void dropping() {
        totals("least 1000", onePart(1000, 100), 100000, 44000, 55500, 500, 0, 0, 1, 2, 40000);
        totals("least 501", onePart(501, 100), 100000, 44000, 55500, 500, 0, 0, 1, 2, 40000);
        totals("least 500", onePart(500, 100), 100000, 44400, 55500, 100, 0, 0, 1, 3, 40000);
        totals("least 0", onePart(0, 100), 100000, 44444, 55556, 0, 0, 0, 0, 5, 40000);
        LineEchoes x = onePart(1000, 100);
        x.addPulse(50, 999);
        x.removePulse(0);
        totals("a dropped pulse", x, 999, 0, 0, 999, 0, 0, 1, 0, 0);
        Check.same("it does not arrive", x.arrival(1, 53, false), 0);
        LineEchoes edge = onePart(1000, 49);
        edge.addPulse(50, 999);
        totals("a small pulse behind the window", edge,
                100000, 44000, 55500, 500, 0, 0, 1, 2, 40000);
    }

    private static void merging() {
        LineEchoes x = onePart(1000, 10);
        x.addPulse(0, 300);
        x.addPulse(0, 300);
        x.addPulse(0, 300);
        Check.same("four pulses are one merging", x.total(5), 1);
        Check.same("and one packet", x.arrival(1, 3, false), 100900);
        x.removePulse(0);
        totals("three pulses, merged and dropped", x, 900, 0, 0, 900, 0, 1, 1, 0, 0);
        x.addPulse(0, 100);
        totals("four pulses, merged and kept", x, 1000, 0, 500, 500, 0, 1, 1, 0, 0);
        LineEchoes y = onePart(1, 6);
        y.addPulse(6, 5);
        totals("a pulse meets what is turned back", y,
                100005, 40000, 50000, 0, 10005, 1, 0, 1, 40000);
        y.setBench(0, 1, 6);
        Check.same("nothing is turned back, no merging", y.total(5), 0);
        oneOfEnergy();
        LineEchoes z = new LineEchoes();
        z.addPart(2, 0);
        z.addPart(1, 1000);
        z.addPulse(2, 40);
        z.setBench(0, 1, 4);
        Check.same("ways that cross are no merging", z.total(5), 0);
        Check.same("from far", z.arrival(1, 4, true), 100000);
        Check.same("from near", z.arrival(1, 4, false), 40);
        z.setPart(0, 2, 500);
        // 50000 of the first pulse comes back at 4; the second pulse's 40 arrives there then, too.
        totals("two mergings at one joint", z, 100040, 50000, 0, 0, 50040, 2, 0, 1, 50000);
    }

    /** The smallest energies count: 1 is echoed and 1 turned back, where a pulse sets out. */
    private static void oneOfEnergy() {
        LineEchoes x = new LineEchoes();
        x.addPart(1, 1000);
        x.addPulse(0, 2);
        x.removePulse(0);
        x.setBench(500, 1, 100);
        totals("echoes of 1", x, 2, 2, 0, 0, 0, 0, 0, 2, 1);
        Check.same("echoTime of an echo of 1", x.echoTime(1), 4);
        x.addPulse(2, 3);
        Check.same("1 is merged with a pulse", x.total(5), 1);
        Check.same("into 4", x.arrival(1, 3, false), 4);
    }

    private static void threeJoints() {
        LineEchoes x = new LineEchoes();
        x.addPart(5, 300);
        x.addPart(3, 500);
        x.addPart(4, 1000);
        Check.same("arrival(1, 5, near)", x.arrival(1, 5, false), 100000);
        Check.same("arrival(2, 8, near)", x.arrival(2, 8, false), 70000);
        Check.same("arrival(3, 12, near)", x.arrival(3, 12, false), 35000);
        Check.same("arrival(2, 16, far)", x.arrival(2, 16, true), 35000);
        Check.same("arrival(1, 11, far)", x.arrival(1, 11, true), 35000);
        Check.same("arrival(2, 14, near)", x.arrival(2, 14, false), 10500);
        Check.same("arrival(0, 10, far)", x.arrival(0, 10, true), 30000);
        Check.same("nothing at another time", x.arrival(1, 10, true), 0);
        Check.same("energy is kept", x.total(1) + x.total(2) + x.total(3) + x.total(4), x.total(0));
    }

    private static void noParts() {
        LineEchoes x = new LineEchoes();
        x.setBench(500, 1000, 10);
        x.addPulse(10, 300);
        x.addPulse(10, 300);
        x.addPulse(11, 5);
        totals("no parts", x, 100600, 0, 100600, 0, 0, 0, 0, 0, 0);
        Check.same("no echo", x.echo(10), 0);
        Check.same("no time", x.echoTime(0), LineEchoes.NONE);
        Check.same("no part behind the front", x.arrival(0, 0, true), 0);
        Check.same("no part before the front", x.arrival(0, 0, false), 0);
        Check.refuses("no joint 1", INDEX, () -> x.arrival(1, 0, true));
        x.addPart(1, 1000);
        x.removePart(0);
        totals("no parts again", x, 100600, 0, 100600, 0, 0, 0, 0, 0, 0);
    }

    private static void greatestNumbers() {
        LineEchoes x = new LineEchoes();
        x.addPulse(0, 1000000);
        x.addPulse(0, 1000000);
        x.addPulse(0, 1000000);
        x.removePulse(0);
        x.addPulse(0, 1000000);
        x.addPart(20, 1000);
        x.setBench(999, 0, 200);
        totals("four million", x, 4000000, 19963, 0, 0, 3980037, 1, 0, 5, 4000);
        Check.same("first", x.echo(40), 4000);
        Check.same("third, what is turned back is rounded down", x.echo(120), 3993);
        Check.same("at the window", x.echo(200), 3985);
    }

    private static String textOf(LineEchoes x) {
        StringBuilder text = new StringBuilder();
        for (int i = 0; x.echoByte(i) != LineEchoes.NONE; i++) {
            text.append((char) x.echoByte(i));
        }
        return text.toString();
    }

    private static void text() {
        Check.sameText("text", textOf(onePart(1, 100)), "6:40000;12:4000;18:400;24:40;30:4;");
        Check.sameText("no text", textOf(new LineEchoes()), "");
        LineEchoes x = new LineEchoes();
        x.addPart(1, 1000);
        x.setBench(0, 1, 200);
        x.addPulse(98, 1);
        x.addPulse(8, 10);
        x.addPulse(7, 1000000);
        Check.sameText("text", textOf(x), "2:100000;9:1000000;10:10;100:1;");
        Check.same("byte far behind", x.echoByte(Integer.MAX_VALUE), LineEchoes.NONE);
        Check.same("byte behind", x.echoByte(31), LineEchoes.NONE);
        Check.same("last byte", x.echoByte(30), ';');
    }

    /** Numbers around a change of their digits; 4000000 is the greatest echo. */
    private static void digitsOfText() {
        LineEchoes x = new LineEchoes();
        x.addPart(1, 1000);
        x.setBench(0, 1, 200);
        x.addPulse(7, 9);
        x.addPulse(8, 10);
        x.addPulse(97, 99);
        x.removePulse(0);
        x.addPulse(98, 101);
        Check.sameText("small", textOf(x), "9:9;10:10;99:99;100:101;");
        LineEchoes y = new LineEchoes();
        y.addPart(20, 0);
        y.addPart(20, 0);
        y.addPart(10, 1000);
        y.setBench(0, 1, 200);
        y.addPulse(100, 1000000);
        y.addPulse(99, 999999);
        y.addPulse(9, 123456);
        Check.sameText("great", textOf(y), "100:100000;109:123456;199:999999;200:1000000;");
        LineEchoes z = new LineEchoes();
        z.addPart(1, 1000);
        for (int i = 0; i < 3; i++) {
            z.addPulse(0, 1000000);
        }
        z.removePulse(0);
        z.addPulse(0, 1000000);
        Check.sameText("the greatest", textOf(z), "2:4000000;");
        Check.same("total(8)", z.total(8), 4000000);
    }

    private static void wrongInputs() {
        LineEchoes x = onePart(1, 50);
        Check.same("echo at the window", x.echo(50), 0);
        Check.refusesUnchanged("echo(51)", ARGUMENT, x, () -> x.echo(51));
        Check.refusesUnchanged("echo(-1)", ARGUMENT, x, () -> x.echo(-1));
        Check.refusesUnchanged("echoTime(-1)", ARGUMENT, x, () -> x.echoTime(-1));
        Check.refusesUnchanged("echoByte(-1)", ARGUMENT, x, () -> x.echoByte(-1));
        Check.refusesUnchanged("total(9)", ARGUMENT, x, () -> x.total(9));
        Check.refusesUnchanged("total(-1)", ARGUMENT, x, () -> x.total(-1));
        Check.refusesUnchanged("arrival(2, 0)", INDEX, x, () -> x.arrival(2, 0, true));
        Check.refusesUnchanged("arrival(-1, 0)", INDEX, x, () -> x.arrival(-1, 0, false));
        Check.refusesUnchanged("arrival(2, 51)", INDEX, x, () -> x.arrival(2, 51, true));
        Check.refusesUnchanged("arrival(1, 51)", ARGUMENT, x, () -> x.arrival(1, 51, true));
        Check.refusesUnchanged("arrival(0, -1)", ARGUMENT, x, () -> x.arrival(0, -1, false));
    }
}
