/** Promises 29 and 30: undo and digest. */
public final class UndoTest {
    public static void main(String[] args) {
        everythingIsSaved();
        depth();
        notUndoable();
        digestOfNew();
        digestOfMuch();
        digestTellsApart();
        Check.finish();
    }

    private static LineEchoes much() {
        LineEchoes x = new LineEchoes();
        x.addPart(5, 300);
        x.addPart(3, 500);
        x.addPart(4, 1000);
        x.keepSound();
        x.observe();
        x.addPulse(9, 1234);
        x.setBench(111, 22, 133);
        x.splitPart(1, 2, 100);
        x.setObserved(150, 77);
        return x;
    }

    /**
     * A hash of all but the undo stack and the script, by way of the answers: of some times only,
     * since an object is used for at most 512 calls.
     */
    private static long answers(LineEchoes x) {
        long h = 7;
        for (int what = 0; what <= 5; what++) {
            h = 31 * h + x.bench(what);
        }
        for (int k = 0; k < x.bench(0); k++) {
            h = 31 * h + x.part(k, 0);
            h = 31 * h + x.part(k, 1);
        }
        for (int what = 0; what <= 8; what++) {
            h = 31 * h + x.total(what);
        }
        int window = x.bench(4);
        int middle = x.bench(0) / 2;
        for (int time = 0; time <= window; time += 9) {
            h = 31 * h + x.echo(time);
            h = 31 * h + x.arrival(middle, time, true);
            h = 31 * h + x.arrival(middle, time, false);
        }
        h = 31 * h + x.differences();
        for (int what = 0; what <= 3; what++) {
            h = 31 * h + x.fault(what);
            h = 31 * h + x.peel(what);
        }
        for (int time = 0; time <= 200; time += 10) {
            h = 31 * h + x.observed(time);
        }
        return 31 * h + x.observed(7);
    }

    private static void everythingIsSaved() {
        String[] names = {"addPart", "setPart", "removePart", "splitPart", "reverse", "setBench",
            "addPulse", "removePulse", "keepSound", "observe", "setObserved", "adopt", "run"};
        for (int i = 0; i < names.length; i++) {
            LineEchoes x = much();
            type(x, "part 2 222;look;sound;pulse 1 1;");
            long before = answers(x);
            apply(x, i);
            Check.holds(names[i] + " changes something", answers(x) != before);
            LineEchoes notAsked = much();
            type(notAsked, "part 2 222;look;sound;pulse 1 1;");
            apply(notAsked, i);
            Check.same(names[i] + " answers anew", answers(x), answers(notAsked));
            Check.same(names[i] + " saves a state", x.undo(), 2);
            Check.same("undo of " + names[i], answers(x), before);
        }
    }

    private static void type(LineEchoes x, String text) {
        for (int i = 0; i < text.length(); i++) {
            x.type(text.charAt(i));
        }
    }

    private static void apply(LineEchoes x, int index) {
        switch (index) {
            case 0 -> x.addPart(7, 70);
            case 1 -> x.setPart(1, 7, 70);
            case 2 -> x.removePart(1);
            case 3 -> x.splitPart(0, 1, 70);
            case 4 -> x.reverse();
            case 5 -> x.setBench(7, 70, 77);
            case 6 -> x.addPulse(7, 70);
            case 7 -> x.removePulse(0);
            case 8 -> x.keepSound();
            case 9 -> x.observe();
            case 10 -> x.setObserved(7, 70);
            case 11 -> x.adopt();
            default -> x.run();
        }
    }

    private static void depth() {
        LineEchoes x = new LineEchoes();
        Check.refusesUnchanged("undo of nothing", IllegalStateException.class, x, () -> x.undo());
        for (int k = 1; k <= 5; k++) {
            x.addPart(k, 100 * k);
        }
        for (int left = 2; left >= 0; left--) {
            Check.same("undo", x.undo(), left);
            Check.same("parts", x.bench(0), 2 + left);
        }
        Check.refusesUnchanged("a fourth undo", IllegalStateException.class, x, () -> x.undo());
        x.addPart(9, 900);
        x.addPart(8, 800);
        Check.same("undo", x.undo(), 1);
        x.addPart(7, 700);
        Check.same("undo", x.undo(), 1);
        Check.same("undo", x.undo(), 0);
        Check.same("parts", x.bench(0), 2);
        x.setPart(0, 1, 100);
        Check.same("a change that changes nothing is saved", x.undo(), 0);
        for (int round = 0; round < 7; round++) {
            x.setObserved(0, round);
        }
        Check.same("undo", x.undo(), 2);
        Check.same("observed", x.observed(0), 5);
        Check.same("undo", x.undo(), 1);
        Check.same("undo", x.undo(), 0);
        Check.same("observed", x.observed(0), 3);
    }

    private static void notUndoable() {
        LineEchoes x = new LineEchoes();
        x.type('x');
        x.type(' ');
        x.run();
        x.clearScript();
        x.part(x.addPart(1, 1) - 1, 0);
        x.bench(0);
        x.echo(0);
        x.echoTime(0);
        x.total(0);
        x.arrival(0, 0, true);
        x.echoByte(0);
        x.differences();
        x.fault(0);
        x.observed(0);
        x.peel(0);
        x.found(0, 0);
        x.digest();
        Check.same("addPart alone was saved", x.undo(), 0);
    }

    private static void digestOfNew() {
        long h = 11908;
        long[] head = {0, 0, 0, 1, 0, 1, 100, 0, 0, 100000, 100000, 0, 100000, 0, 0, 0, 0, 0, 0};
        for (long v : head) {
            h = 31 * h + v;
        }
        for (int time = 0; time <= 100; time++) {
            h = 31 * h;
        }
        for (long v : new long[] {0, -1, -1, -1, -1}) {
            h = 31 * h + v;
        }
        for (int time = 0; time <= 200; time++) {
            h = 31 * h;
        }
        for (long v : new long[] {0, -1, 0, 0}) {
            h = 31 * h + v;
        }
        Check.same("digest of a new object", new LineEchoes().digest(), h);
    }

    private static void digestOfMuch() {
        LineEchoes x = much();
        type(x, "abc");
        long h = 11908;
        h = 31 * h + 3;
        h = 31 * h + 3;
        for (int what = 0; what <= 5; what++) {
            h = 31 * h + x.bench(what);
        }
        for (int k = 0; k < x.bench(0); k++) {
            h = 31 * h + x.part(k, 0);
            h = 31 * h + x.part(k, 1);
        }
        for (long v : new long[] {0, 100000, 9, 1234}) {
            h = 31 * h + v;
        }
        for (int what = 0; what <= 8; what++) {
            h = 31 * h + x.total(what);
        }
        int window = x.bench(4);
        for (int time = 0; time <= window; time++) {
            h = 31 * h + x.echo(time);
        }
        h = 31 * h + x.differences();
        for (int what = 0; what <= 3; what++) {
            h = 31 * h + x.fault(what);
        }
        for (int time = 0; time <= 200; time++) {
            h = 31 * h + x.observed(time);
        }
        for (int what = 0; what <= 3; what++) {
            h = 31 * h + x.peel(what);
        }
        for (int k = 0; k < x.peel(2); k++) {
            h = 31 * h + x.found(k, 0);
            h = 31 * h + x.found(k, 1);
        }
        Check.same("digest", x.digest(), h);
        Check.same("digest again", x.digest(), h);
    }

    private static void digestTellsApart() {
        LineEchoes x = new LineEchoes();
        long before = x.digest();
        x.type(32);
        Check.holds("the length of the script counts", x.digest() != before);
        x.clearScript();
        Check.same("the same again", x.digest(), before);
        x.run();
        Check.holds("the undo stack counts", x.digest() != before);
        x.undo();
        Check.same("the same again", x.digest(), before);
    }
}
