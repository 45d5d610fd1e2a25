/** Promises 26 to 28: typing, clearing and running a script. */
public final class ScriptTest {
    public static void main(String[] args) {
        type();
        clearScript();
        noFault();
        faults();
        commands();
        stops();
        undoable();
        Check.finish();
    }

    private static void write(LineEchoes x, String text) {
        x.clearScript();
        for (int i = 0; i < text.length(); i++) {
            x.type(text.charAt(i));
        }
    }

    private static long runOf(LineEchoes x, String text) {
        write(x, text);
        return x.run();
    }

    private static void type() {
        LineEchoes x = new LineEchoes();
        for (int i = 1; i <= 120; i++) {
            Check.same("type", x.type(i % 2 == 0 ? 0 : 127), i);
        }
        Check.refusesUnchanged("type into a full script", IllegalStateException.class, x,
                () -> x.type(32));
        for (int value : new int[] {-1, 128, Integer.MAX_VALUE, Integer.MIN_VALUE}) {
            Check.refusesUnchanged("full type(" + value + ")", IllegalArgumentException.class, x,
                    () -> x.type(value));
        }
        LineEchoes y = new LineEchoes();
        Check.refusesUnchanged("type(128)", IllegalArgumentException.class, y, () -> y.type(128));
        Check.refusesUnchanged("type(-1)", IllegalArgumentException.class, y, () -> y.type(-1));
        y.type(32);
        Check.refuses("type is not undoable", IllegalStateException.class, () -> y.undo());
    }

    private static void clearScript() {
        LineEchoes x = new LineEchoes();
        Check.same("clear an empty script", x.clearScript(), 0);
        write(x, "look;");
        Check.same("clear", x.clearScript(), 5);
        Check.same("clear again", x.clearScript(), 0);
        Check.same("run the empty script", x.run(), 0);
        Check.same("it has saved a state, clearing none", x.undo(), 0);
    }

    private static void noFault() {
        String[] texts = {"", " ", "     ", "look;", "  look  ;  ", "look;look;", "part 5 300;",
            "part   5   300   ;", "part 000005 000300;", " part 5 300;cut 0 ; ",
            "set 0 1 2;", "split 0 1 2;", "pulse 1 2;", "sound;", "adopt;", "cut 999999;",
            "look ;look ; look"  + " ;"};
        for (String text : texts) {
            LineEchoes x = new LineEchoes();
            Check.holds("no fault in '" + text + "'", runOf(x, text) >= 0);
        }
        String full = " ".repeat(115) + "look;";
        Check.same("a full script", runOf(new LineEchoes(), full), 1);
        Check.same("24 commands", runOf(new LineEchoes(), "look;".repeat(24)), 24);
    }

    private static void faultAt(String text, int index) {
        LineEchoes x = new LineEchoes();
        x.addPart(5, 500);
        write(x, text);
        long before = x.digest();
        Check.same("run of '" + text + "'", x.run(), -10 - index);
        Check.same("nothing is done by '" + text + "'", x.digest(), before);
    }

    private static void faults() {
        faultAt(";", 0);
        faultAt("  ;", 2);
        faultAt("look;;", 5);
        faultAt("1", 0);
        faultAt("Look;", 0);
        faultAt("look", 4);
        faultAt("look ", 5);
        faultAt("loo", 0);
        faultAt("  loo", 2);
        faultAt("  loo;", 2);
        faultAt("lookk;", 0);
        faultAt("lookz;", 0);
        faultAt("looka;", 0);
        faultAt("part look;x", 5);
        faultAt("part 1 look;x", 7);
        faultAt("look;adop", 5);
        faultAt("look;adopt", 10);
        faultAt("loOk;", 0);
        faultAt("look!", 4);
        faultAt("zzz!", 0);
        faultAt("look5;", 4);
        faultAt("look 5;", 5);
        faultAt("look a;", 5);
        faultAt("part", 4);
        faultAt("part;", 4);
        faultAt("part5 5;", 4);
        faultAt("part ", 5);
        faultAt("part ;", 5);
        faultAt("part 5", 6);
        faultAt("part 5;", 6);
        faultAt("part 5a", 6);
        faultAt("part 5 ", 7);
        faultAt("part 5 ;", 7);
        faultAt("part 5 x;", 7);
        faultAt("part 5 300", 10);
        faultAt("part 5 300 ", 11);
        faultAt("part 5 300 1;", 11);
        faultAt("part 5 300,", 10);
        faultAt("part -5 300;", 5);
        faultAt("part 1234567 1;", 11);
        faultAt("part 5 0000001;", 13);
        faultAt("part 5 1000000", 13);
        faultAt("cut 0;part 5 300;cut 1 1;", 23);
        faultAt("set 0 1;", 7);
        faultAt("split 0 1 2 3;", 12);
        faultAt("pulse 1;", 7);
        faultAt("sound 1;", 6);
        faultAt("adopt 1;", 6);
        faultAt("look" + (char) 9 + ";", 4);
        faultAt("look;" + (char) 0, 5);
        faultAt((char) 127 + "look;", 0);
        faultAt("part" + "a".repeat(116), 0);
        faultAt("part 5 300;" + " ".repeat(105) + "look", 120);
    }

    private static void commands() {
        LineEchoes x = new LineEchoes();
        LineEchoes y = new LineEchoes();
        Check.same("part", runOf(x, "part 5 300;part 7 200;part 3 1000;"), 3);
        y.addPart(5, 300);
        y.addPart(7, 200);
        y.addPart(3, 1000);
        alike("part", x, y);
        Check.same("set", runOf(x, "set 1 8 250;"), 1);
        y.setPart(1, 8, 250);
        alike("set", x, y);
        Check.same("split", runOf(x, "split 1 2 150;"), 1);
        y.splitPart(1, 2, 150);
        alike("split", x, y);
        Check.same("look", runOf(x, "look;"), 1);
        y.observe();
        alike("look", x, y);
        Check.same("cut", runOf(x, "cut 0;"), 1);
        y.removePart(0);
        alike("cut", x, y);
        Check.same("sound", runOf(x, "sound;"), 1);
        y.keepSound();
        alike("sound", x, y);
        Check.same("pulse", runOf(x, "pulse 3 77;"), 1);
        y.addPulse(3, 77);
        alike("pulse", x, y);
        Check.same("adopt", runOf(x, "adopt;"), 1);
        y.adopt();
        alike("adopt", x, y);
        Check.same("mixed", runOf(x, "sound;cut 0;look;adopt;part 2 500;look;pulse 9 9;sound;"), 8);
        y.keepSound();
        y.removePart(0);
        y.observe();
        y.adopt();
        y.addPart(2, 500);
        y.observe();
        y.addPulse(9, 9);
        y.keepSound();
        alike("mixed", x, y);
    }

    /** Both are the same but for the undo stack and the script. */
    private static void alike(String what, LineEchoes x, LineEchoes y) {
        x.clearScript();
        for (int i = 0; i < 3; i++) {
            x.run();
            y.run();
        }
        Check.same(what + " in a script", x.digest(), y.digest());
    }

    private static void stops() {
        LineEchoes x = new LineEchoes();
        Check.same("a bad argument", runOf(x, "part 5 300;part 21 0;part 6 300;"), 1);
        Check.same("one part", x.bench(0), 1);
        Check.same("a bad number", runOf(x, "cut 1;part 6 300;"), 0);
        Check.same("still one part", x.bench(0), 1);
        Check.same("great numbers", runOf(x, "set 0 1 999999;"), 0);
        Check.same("no length 0", runOf(x, "part 0 0;"), 0);
        Check.same("a bad split", runOf(x, "split 0 5 1;"), 0);
        Check.same("pulses", runOf(x, "pulse 1 1;pulse 2 2;pulse 3 3;pulse 4 4;part 1 1;"), 3);
        Check.same("pulses", x.bench(1), 4);
        Check.same("pulse energy", runOf(x, "pulse 1 0;"), 0);
        Check.same("parts", runOf(x, "part 1 1;".repeat(10)), 7);
        Check.same("parts", x.bench(0), 8);
        Check.same("split of a full line", runOf(x, "look;split 0 1 1;look;"), 1);
        LineEchoes y = new LineEchoes();
        Check.same("the greatest pulse is beyond six digits", runOf(y, "pulse 0 999999;"), 1);
    }

    private static void undoable() {
        LineEchoes x = new LineEchoes();
        Check.same("run", runOf(x, "part 5 300;part 6 200;cut 9;"), 2);
        Check.same("run again", x.run(), 2);
        Check.same("the script stays", x.clearScript(), 28);
        Check.same("one state a run", x.undo(), 1);
        Check.same("the line of the first run", x.bench(0), 2);
        Check.same("one state a run", x.undo(), 0);
        Check.same("no line", x.bench(0), 0);
        Check.same("a fault", runOf(x, "part 5 300"), -20);
        Check.refuses("saves no state", IllegalStateException.class, () -> x.undo());
        Check.same("a command that is not carried out", runOf(x, "cut 0;"), 0);
        Check.same("saves a state", x.undo(), 0);
        Check.same("undo leaves the script", x.clearScript(), 6);
    }
}
