/**
 * Scripts: each way in which a byte cannot stand at its place, scripts that end too soon, six and
 * seven digits, words that are not known, and runs that stop at a command that would throw.
 */
public final class ScriptEdgeTest {
    private static final String LETTERS = "abcdefghijklmnopqrstuvwxyz";
    private static final String DIGITS = "0123456789";
    /** Every word with numbers that can be carried out on a line of three parts. */
    private static final String[] COMMANDS = {"part 5 300;", "set 1 8 250;", "cut 2;",
        "split 0 1 70;", "pulse 3 77;", "sound;", "look;", "adopt;"};

    public static void main(String[] args) {
        bytesBeforeACommand();
        bytesBehindAWord();
        bytesBehindASpace();
        bytesInANumber();
        endsTooSoon();
        unknownWords();
        wordsAlmostKnown();
        unknownWordIsFoundWhenComplete();
        digits();
        spaces();
        numberCounts();
        firstFaultCounts();
        nothingStaysOfAnEmptiedScript();
        faultDoesNothing();
        edgesAreCarriedOut();
        stopsAtWhatWouldThrow();
        stopsWhereTheLineIsFull();
        nothingCarriedOut();
        oneStateARun();
        scriptStays();
        numbersOfOneCommandDoNotStay();
        Check.finish();
    }

    private static LineEchoes threeParts() {
        LineEchoes x = new LineEchoes();
        x.addPart(2, 100);
        x.addPart(3, 200);
        x.addPart(4, 1000);
        return x;
    }

    private static long runOf(String text) {
        LineEchoes x = threeParts();
        Twins.type(x, text);
        return x.run();
    }

    private static void faultAt(String text, int index) {
        Check.same("run of '" + text + "'", runOf(text), -10 - index);
    }

    private static void noFault(String text) {
        Check.holds("'" + text + "' has no fault", runOf(text) >= 0);
    }

    /**
     * Tries every byte behind a text: with one that goes on the script ends too soon behind it,
     * with one that finishes it has no fault, a letter may spoil the word before it, and every
     * other one cannot stand at its place.
     */
    private static void everyByte(String text, String goesOn, String finishes, int spoiledWord) {
        for (int b = 0; b <= 127; b++) {
            String script = text + (char) b;
            if (finishes.indexOf(b) >= 0) {
                noFault(script);
            } else if (goesOn.indexOf(b) >= 0) {
                faultAt(script, script.length());
            } else if (spoiledWord >= 0 && LETTERS.indexOf(b) >= 0) {
                faultAt(script, spoiledWord);
            } else {
                faultAt(script, text.length());
            }
        }
    }

    /** A letter can stand there, but is a word that is not known: at fault with its first byte. */
    private static void bytesBeforeACommand() {
        for (String text : new String[] {"", " ", "   ", "look;", "look; ", "cut 0 ;  "}) {
            everyByte(text, "", " ", text.length());
        }
    }

    private static void bytesBehindAWord() {
        everyByte("look", " ", ";", 0);
        everyByte("sound;adopt", " ", ";", 6);
        everyByte("part", " ", "", 0);
        everyByte("  set", " ", "", 2);
        everyByte("look;cut", " ", "", 5);
        everyByte("split", " ", "", 0);
        everyByte("pulse", " ", "", 0);
    }

    private static void bytesBehindASpace() {
        everyByte("look ", " ", ";", -1);
        everyByte("adopt   ", " ", ";", -1);
        everyByte("part ", " " + DIGITS, "", -1);
        everyByte("part 5 ", " " + DIGITS, "", -1);
        everyByte("part 5  ", " " + DIGITS, "", -1);
        everyByte("part 5 300 ", " ", ";", -1);
        everyByte("cut ", " " + DIGITS, "", -1);
        everyByte("cut 0 ", " ", ";", -1);
        everyByte("split 0 1 ", " " + DIGITS, "", -1);
        everyByte("split 0 1 70 ", " ", ";", -1);
    }

    private static void bytesInANumber() {
        everyByte("part 5", " " + DIGITS, "", -1);
        everyByte("part 5 3", " " + DIGITS, ";", -1);
        everyByte("part 5 00300", " " + DIGITS, ";", -1);
        everyByte("part 5 000300", " ", ";", -1);
        everyByte("part 000005", " ", "", -1);
        everyByte("cut 0", " " + DIGITS, ";", -1);
        everyByte("set 1 8", " " + DIGITS, "", -1);
        everyByte("set 1 8 2", " " + DIGITS, ";", -1);
        everyByte("pulse 3 7", " " + DIGITS, ";", -1);
    }

    /** "or the length of the script if it ends too soon"; a cut word is not known. */
    private static void endsTooSoon() {
        for (String command : COMMANDS) {
            int word = command.replaceAll("[^a-z]", "").length();
            for (String before : new String[] {"", "  ", "look;", "cut 0 ; "}) {
                for (int size = 1; size < command.length(); size++) {
                    String script = before + command.substring(0, size);
                    faultAt(script, size < word ? before.length() : script.length());
                }
                noFault(before + command);
            }
        }
        String full = " ".repeat(109) + "part 5 300;";
        noFault(full);
        for (int from = 0; from < 4; from++) {
            String shifted = " ".repeat(110 + from) + "part 5 300".substring(0, 10 - from);
            faultAt(shifted, 120);
        }
        for (String command : COMMANDS) {
            String word = command.replaceAll("[^a-z]", "");
            faultAt(" ".repeat(120 - word.length()) + word, 120);
            faultAt(" ".repeat(121 - word.length()) + word.substring(1), 121 - word.length());
        }
    }

    /** "A word that is not one of these is at fault with its first byte". */
    private static void unknownWords() {
        String[] words = {"a", "z", "par", "parts", "partpart", "sett", "cutt", "splitt", "pulses",
            "sounds", "looks", "adopted", "undo", "run", "reverse", "bench", "observe", "keep",
            "addpart", "type", "echo", "peel", "soundlook", "tes", "tuc", "kool"};
        for (String word : words) {
            for (String before : new String[] {"", " ", "look;", "part 5 300; "}) {
                for (String behind : new String[] {"", ";", " ;", " 1 2 3;", "!", "7"}) {
                    faultAt(before + word + behind, before.length());
                }
            }
        }
        faultAt("a".repeat(120), 0);
        faultAt("look;" + "z".repeat(115), 5);
    }

    /** Each letter of each word is left out, doubled and changed. */
    private static void wordsAlmostKnown() {
        for (String command : COMMANDS) {
            int word = command.replaceAll("[^a-z]", "").length();
            for (int i = 0; i < word; i++) {
                String before = command.substring(0, i);
                String behind = command.substring(i + 1);
                char letter = command.charAt(i);
                char next = letter == 'z' ? 'a' : (char) (letter + 1);
                faultAt(before + behind, 0);
                faultAt(before + letter + letter + behind, 0);
                faultAt(before + next + behind, 0);
                // A capital is no letter here: it cannot stand, or it ends a word too early.
                faultAt(before + Character.toUpperCase(letter) + behind, 0);
            }
        }
    }

    /** "when a byte that is no letter, or the end of the script, follows it". */
    private static void unknownWordIsFoundWhenComplete() {
        for (int b = 0; b <= 127; b++) {
            faultAt("  lok" + (char) b, 2);
        }
        faultAt("loo", 0);
        faultAt("look", 4);
        faultAt("lookX", 4);
        faultAt("looX", 0);
        faultAt("part5", 4);
        faultAt("par5", 0);
    }

    /** "each of one to six digits (zeros in front are allowed; a seventh digit cannot stand)". */
    private static void digits() {
        LineEchoes x = new LineEchoes();
        Twins.type(x, "part 000007 000333;set 000000 000008 000444;");
        Check.same("six digits each", x.run(), 2);
        Check.same("length", x.part(0, 0), 8);
        Check.same("fraction", x.part(0, 1), 444);
        faultAt("part 0000007 1;", 11);
        faultAt("part 7 0000001;", 13);
        faultAt("part 1234567", 11);
        faultAt("part 12345678 1;", 11);
        faultAt("part 7 1234567", 13);
        faultAt("set 0000000 1 1;", 10);
        faultAt("set 0 0000001 1;", 12);
        faultAt("set 0 1 0000001;", 14);
        faultAt("cut 0000000;", 10);
        faultAt("split 0000000 1 1;", 12);
        faultAt("split 0 0000001 1;", 14);
        faultAt("split 0 1 0000001;", 16);
        faultAt("pulse 0000001 1;", 12);
        faultAt("pulse 1 1000000;", 14);
        Check.same("the greatest number", runOf("pulse 0 999999;"), 1);
        Check.same("999999 would throw", runOf("cut 999999;"), 0);
        Check.same("999999 would throw", runOf("pulse 999999 1;"), 0);
        for (int size = 1; size <= 6; size++) {
            Check.same(size + " zeros", runOf("cut " + "0".repeat(size) + ";"), 1);
        }
        LineEchoes y = new LineEchoes();
        Twins.type(y, "pulse 0 999999;pulse 0 123456;pulse 0 000010;");
        y.run();
        Check.same("their energies", y.total(0), 100000 + 999999 + 123456 + 10);
    }

    private static void spaces() {
        Check.same("in front of a command", runOf("   cut 0;  cut 0;"), 2);
        Check.same("in front of a semicolon", runOf("cut 0   ;look ;"), 2);
        Check.same("at the end", runOf("cut 0;    "), 1);
        Check.same("several in front of numbers", runOf("set   1    8      250;"), 1);
        Check.same("none behind a semicolon", runOf("cut 0;cut 0;cut 0;"), 3);
        faultAt("p art 5 300;", 0);
        faultAt("cut 1 0;", 6);
        faultAt("part 1 0 0;", 9);
        faultAt("cut0;", 3);
        faultAt("cut\t0;", 3);
        faultAt("cut 0\n;", 5);
        faultAt("cut 0;\n", 6);
        faultAt("cut 0; ;", 7);
        faultAt("cut 0;;", 6);
    }

    private static void numberCounts() {
        for (String command : COMMANDS) {
            String bare = command.substring(0, command.length() - 1);
            faultAt(bare + " 1;", bare.length() + 1);
            faultAt(bare + ",1;", bare.length());
            int lastSpace = bare.lastIndexOf(' ');
            if (lastSpace > 0) {
                faultAt(bare.substring(0, lastSpace) + ";", lastSpace);
                faultAt(bare.substring(0, lastSpace) + " ;", lastSpace + 1);
                faultAt(bare.substring(0, lastSpace) + " -1;", lastSpace + 1);
                faultAt(bare.substring(0, lastSpace) + " +1;", lastSpace + 1);
            }
        }
    }

    /** "the first byte that cannot stand at its place". */
    private static void firstFaultCounts() {
        faultAt("lok;!", 0);
        faultAt("look!lok;", 4);
        faultAt("look;!lok;", 5);
        faultAt("part;lok", 4);
        faultAt("look;cut;cut", 8);
        faultAt("part 1234567 x;;", 11);
        faultAt("part look;x", 5);
        faultAt("part 5 look;look", 7);
        faultAt("cut look;x", 4);
        faultAt("look 5;x", 5);
        faultAt("set 1 2 look;look;!", 8);
    }

    /** What was typed before the script was emptied is no part of it. */
    private static void nothingStaysOfAnEmptiedScript() {
        for (String command : COMMANDS) {
            for (int size = 0; size < command.length(); size++) {
                LineEchoes x = threeParts();
                Twins.type(x, command + command);
                x.clearScript();
                Twins.type(x, command.substring(0, size));
                String fresh = command.substring(0, size);
                Check.same("'" + fresh + "' behind '" + command + "'", x.run(), runOf(fresh));
            }
        }
        LineEchoes x = threeParts();
        Twins.type(x, "look;".repeat(24));
        x.clearScript();
        Twins.type(x, "look");
        Check.same("four bytes alone", x.run(), -14);
        x.type(';');
        Check.same("five bytes alone", x.run(), 1);
    }

    /** "if it has a fault, nothing is done", also not what stands before it. */
    private static void faultDoesNothing() {
        String[] scripts = {"cut 0;look;sound", "part 5 300;part", "adopt;;", "cut 9;cut",
            "pulse 1 1;pulse 1;", "look;lok;", "look;sound;adopt;cut 0;7", "x"};
        for (String script : scripts) {
            LineEchoes x = threeParts();
            Twins.type(x, script);
            LineEchoes twin = threeParts();
            Twins.type(twin, script);
            Check.holds("'" + script + "' has a fault", x.run() <= -10);
            Twins.alike("after the fault of '" + script + "'", x, twin);
        }
        LineEchoes fresh = new LineEchoes();
        Twins.type(fresh, "look");
        Check.same("a fault", fresh.run(), -14);
        Check.refuses("saves no state", IllegalStateException.class, () -> fresh.undo());
    }

    /** The edges that the methods take, the commands take too. */
    private static void edgesAreCarriedOut() {
        String[] fine = {"part 1 0;", "part 20 1000;", "set 0 1 0;", "set 2 20 1000;", "cut 0;",
            "cut 2;", "split 0 1 0;", "split 2 3 1000;", "split 2 1 1000;", "pulse 0 1;",
            "pulse 100 999999;"};
        for (String script : fine) {
            Check.same(script, runOf(script), 1);
        }
        Twins.CallOn[] calls = {x -> x.addPart(1, 0), x -> x.addPart(20, 1000),
            x -> x.setPart(0, 1, 0), x -> x.setPart(2, 20, 1000), x -> x.removePart(0),
            x -> x.removePart(2), x -> x.splitPart(0, 1, 0), x -> x.splitPart(2, 3, 1000),
            x -> x.splitPart(2, 1, 1000), x -> x.addPulse(0, 1), x -> x.addPulse(100, 999999)};
        for (int i = 0; i < fine.length; i++) {
            likeTheCall(fine[i], calls[i]);
        }
        likeTheCall("sound;", x -> x.keepSound());
        likeTheCall("look;", x -> x.observe());
        likeTheCall("adopt;", x -> x.adopt());
    }

    /** A run of one command saves a state and does what the method does. */
    private static void likeTheCall(String script, Twins.CallOn call) {
        LineEchoes x = threeParts();
        LineEchoes twin = threeParts();
        Twins.type(x, script);
        Twins.type(twin, script);
        x.run();
        call.answer(twin);
        Twins.alike(script, x, twin);
    }

    /** "until one of them would throw an exception, which is not thrown; those before it stay". */
    private static void stopsAtWhatWouldThrow() {
        String[] bad = {"part 0 0;", "part 21 0;", "part 1 1001;", "part 999999 999999;",
            "set 3 1 0;", "set 999999 1 0;", "set 0 0 0;", "set 0 21 0;", "set 0 1 1001;",
            "cut 3;", "cut 999999;", "split 3 1 0;", "split 0 0 0;", "split 0 2 0;",
            "split 2 4 0;", "split 0 1 1001;", "pulse 101 1;", "pulse 0 0;", "pulse 999999 1;"};
        for (String command : bad) {
            LineEchoes x = threeParts();
            LineEchoes twin = threeParts();
            String script = "set 1 7 777;look;" + command + "sound;cut 0;";
            Twins.type(x, script);
            Check.same(script, x.run(), 2);
            Twins.type(twin, "set 1 7 777;look;");
            Check.same("without it", twin.run(), 2);
            for (LineEchoes each : new LineEchoes[] {x, twin}) {
                each.clearScript();
            }
            Twins.alike(script, x, twin);
        }
    }

    private static void stopsWhereTheLineIsFull() {
        LineEchoes x = threeParts();
        Twins.type(x, "part 1 1;part 1 2;part 1 3;part 1 4;part 1 5;part 1 6;cut 0;");
        Check.same("the ninth part", x.run(), 5);
        Check.same("parts", x.bench(0), 8);
        Check.same("the last one", x.part(7, 1), 5);
        x.clearScript();
        Twins.type(x, "look;split 2 1 1;cut 0;");
        Check.same("a split of 8 parts", x.run(), 1);
        x.clearScript();
        Twins.type(x, "cut 0;split 1 1 1;sound;part 1 1;");
        Check.same("room after a cut", x.run(), 3);
        Check.same("parts", x.bench(0), 8);
        x.clearScript();
        Twins.type(x, "pulse 1 1;pulse 2 2;pulse 3 3;pulse 4 4;cut 0;");
        Check.same("the fifth pulse", x.run(), 3);
        Check.same("pulses", x.bench(1), 4);
        x.clearScript();
        Twins.type(x, "cut 7;cut 6;cut 5;cut 4;cut 3;cut 2;cut 1;cut 0;cut 0;look;");
        Check.same("a cut of no part", x.run(), 8);
        Check.same("parts", x.bench(0), 0);
    }

    /** "those before it stay done, and they alone count": none, but the run is undoable. */
    private static void nothingCarriedOut() {
        LineEchoes x = new LineEchoes();
        Twins.type(x, "cut 0;part 5 300;");
        Check.same("the first would throw", x.run(), 0);
        Check.same("nothing is done", x.bench(0), 0);
        Check.same("a state is saved", x.undo(), 0);
        Check.refuses("one alone", IllegalStateException.class, () -> x.undo());
    }

    /** "A run saves one state, the one from before it; its commands save none." */
    private static void oneStateARun() {
        LineEchoes x = new LineEchoes();
        Twins.type(x, "part 5 300;part 6 200;look;sound;adopt;");
        Twins.type(x, "set 0 5 1;split 1 2 3;pulse 1 1;cut 0;");
        Check.same("9 commands", x.run(), 9);
        Check.same("one state", x.undo(), 0);
        Check.same("the one from before", x.bench(0), 0);
        Check.same("also of the pulses", x.bench(1), 1);
        Check.same("also of the observed list", x.observed(10), 0);
        Check.same("also of the sound line", x.differences(), 0);
        LineEchoes y = threeParts();
        Twins.type(y, "cut 0;cut 0;");
        Check.same("a run with a full stack", y.run(), 2);
        Check.same("undo", y.undo(), 2);
        Check.same("three parts", y.bench(0), 3);
        Check.same("undo", y.undo(), 1);
        Check.same("two parts", y.bench(0), 2);
        Check.same("undo", y.undo(), 0);
        Check.same("one part; the oldest state was dropped", y.bench(0), 1);
    }

    /** "Runs the script, which stays as it is."; undo does not bring a script back. */
    private static void scriptStays() {
        LineEchoes x = new LineEchoes();
        Twins.type(x, "part 5 300;");
        for (int n = 1; n <= 8; n++) {
            Check.same("run", x.run(), 1);
            Check.same("parts", x.bench(0), n);
        }
        Check.same("the ninth part", x.run(), 0);
        Check.same("the script has stayed", x.type('c'), 12);
        Check.same("it goes on", x.run(), -21);
        Twins.type(x, "ut 7;");
        x.removePart(7);
        Check.same("both commands", x.run(), 2);
        x.undo();
        Check.same("undo leaves the script", x.clearScript(), 17);
        x.undo();
        Check.same("undo does not bring it back", x.clearScript(), 0);
    }

    private static void numbersOfOneCommandDoNotStay() {
        LineEchoes x = threeParts();
        Twins.type(x, "set 2 9 999;cut 0;sound;part 1 2;");
        Check.same("four commands", x.run(), 4);
        Check.same("the first part was cut", x.part(0, 0), 3);
        Check.same("the last length", x.part(2, 0), 1);
        Check.same("the last fraction", x.part(2, 1), 2);
    }
}
