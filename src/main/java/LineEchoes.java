import java.util.Arrays;

/**
 * A bench for echoes of a line: pulses run along parts of different lengths, a fraction of them is
 * turned back at each joint, what sets out together is merged, and small remainders are dropped.
 */
public final class LineEchoes {
    public static final int NONE = -1;
    public static final int COMPLETE = 0, CONTRADICTION = 1, TOO_LONG = 2;

    private static final int MOST_PARTS = 8;
    private static final int LONGEST_PART = 20;
    private static final int WHOLE = 1000;
    private static final int GREATEST_LEAST = 1000;
    private static final int LONGEST_WINDOW = 200;
    private static final int TIMES = LONGEST_WINDOW + 1;
    private static final int MOST_PULSES = 4;
    private static final int LATEST_PULSE = 100;
    private static final int GREATEST_PULSE = 1000000;
    private static final long GREATEST_OBSERVED = 4000000;
    private static final int MOST_SAVED = 3;
    private static final int LONGEST_SCRIPT = 120;
    private static final int MOST_DIGITS = 6;
    private static final int MOST_NUMBERS = 3;
    private static final int FAULT_BASE = -10;
    private static final long DIGEST_START = 11908;
    private static final long DIGEST_FACTOR = 31;

    private static final int SENT = 0;
    private static final int ECHOED = 1;
    private static final int LEFT_LINE = 2;
    private static final int DROPPED = 3;
    private static final int UNDER_WAY = 4;
    private static final int MERGINGS = 5;
    private static final int DROPPED_PACKETS = 6;
    private static final int ECHO_TIMES = 7;
    private static final int GREATEST_ECHO = 8;
    private static final int TOTALS = 9;

    private final State now;
    private final History history;
    private final Script script;
    // Both are worked out when they are asked for, and kept until the state changes.
    private final Wave wave;
    private final Peeling peeling;
    private boolean waveIsFresh;
    private boolean peelingIsFresh;

    public LineEchoes() {
        now = new State();
        history = new History();
        script = new Script();
        wave = new Wave();
        peeling = new Peeling();
        waveIsFresh = false;
        peelingIsFresh = false;
    }

    // ---- line and pulses

    public int addPart(int length, int fraction)
            throws IllegalArgumentException, IllegalStateException {
        return change(Command.PART, length, fraction, 0);
    }

    public int setPart(int part, int length, int fraction)
            throws IndexOutOfBoundsException, IllegalArgumentException {
        return change(Command.SET, part, length, fraction);
    }

    public int removePart(int part) throws IndexOutOfBoundsException {
        return change(Command.CUT, part, 0, 0);
    }

    public int splitPart(int part, int at, int fraction)
            throws IndexOutOfBoundsException, IllegalArgumentException, IllegalStateException {
        return change(Command.SPLIT, part, at, fraction);
    }

    public int reverse() {
        history.keep(now);
        forgetResults();
        now.bench.turnRound();
        return now.bench.reach(now.bench.count);
    }

    public int setBench(int front, int least, int window) throws IllegalArgumentException {
        requireRange(front, 0, WHOLE - 1);
        requireRange(least, 0, GREATEST_LEAST);
        requireRange(window, 1, LONGEST_WINDOW);
        int previous = now.bench.window;
        history.keep(now);
        forgetResults();
        now.bench.front = front;
        now.bench.least = least;
        now.bench.window = window;
        return previous;
    }

    public int addPulse(int time, int energy)
            throws IllegalArgumentException, IllegalStateException {
        return change(Command.PULSE, time, energy, 0);
    }

    public int removePulse(int pulse) throws IndexOutOfBoundsException, IllegalStateException {
        requireNumber(pulse, now.bench.pulses);
        if (now.bench.pulses == 1) {
            throw new IllegalStateException("it is the only pulse");
        }
        history.keep(now);
        forgetResults();
        return now.bench.cutPulse(pulse);
    }

    public int part(int part, int what)
            throws IndexOutOfBoundsException, IllegalArgumentException {
        requireNumber(part, now.bench.count);
        requireRange(what, 0, 2);
        if (what == 0) {
            return now.bench.lengths[part];
        }
        return what == 1 ? now.bench.fractions[part] : now.bench.reach(part + 1);
    }

    public int bench(int what) throws IllegalArgumentException {
        requireRange(what, 0, 5);
        switch (what) {
            case 0:
                return now.bench.count;
            case 1:
                return now.bench.pulses;
            case 2:
                return now.bench.front;
            case 3:
                return now.bench.least;
            case 4:
                return now.bench.window;
            default:
                return now.bench.reach(now.bench.count);
        }
    }

    // ---- echoes

    public long echo(int time) throws IllegalArgumentException {
        requireRange(time, 0, now.bench.window);
        return presentWave().echoes[time];
    }

    public int echoTime(int index) throws IllegalArgumentException {
        requireNotNegative(index);
        long[] echoes = presentWave().echoes;
        int left = index;
        for (int time = 0; time < TIMES; time++) {
            if (echoes[time] > 0) {
                if (left == 0) {
                    return time;
                }
                left--;
            }
        }
        return NONE;
    }

    public long total(int what) throws IllegalArgumentException {
        requireRange(what, 0, TOTALS - 1);
        return presentWave().totals[what];
    }

    public long arrival(int joint, int time, boolean fromFar)
            throws IndexOutOfBoundsException, IllegalArgumentException {
        requireNumber(joint, now.bench.count + 1);
        requireRange(time, 0, now.bench.window);
        Wave present = presentWave();
        return fromFar ? present.fromFar[joint][time] : present.fromNear[joint][time];
    }

    public int echoByte(int index) throws IllegalArgumentException {
        requireNotNegative(index);
        long[] echoes = presentWave().echoes;
        int left = index;
        for (int time = 0; time < TIMES; time++) {
            if (echoes[time] > 0) {
                int size = digitCount(time) + digitCount(echoes[time]) + 2;
                if (left < size) {
                    return entryByte(time, echoes[time], left);
                }
                left -= size;
            }
        }
        return NONE;
    }

    // ---- faults

    public int keepSound() {
        history.keep(now);
        return carryOut(Command.SOUND, 0, 0, 0);
    }

    public int differences() {
        long[] echoes = presentWave().echoes;
        int number = 0;
        for (int time = 0; time <= now.bench.window; time++) {
            if (echoes[time] != now.sound[time]) {
                number++;
            }
        }
        return number;
    }

    public int fault(int what) throws IllegalArgumentException {
        requireRange(what, 0, 3);
        long[] echoes = presentWave().echoes;
        int time = firstUnequal(echoes, now.sound, now.bench.window);
        if (time == NONE || what == 0) {
            return time;
        }
        int place = time - now.bench.earliestPulse();
        if (what == 1) {
            return place;
        }
        if (what == 2) {
            return now.bench.partAtWayAndBack(place);
        }
        return echoes[time] > now.sound[time] ? 1 : -1;
    }

    // ---- peeling

    public int observe() {
        history.keep(now);
        return carryOut(Command.LOOK, 0, 0, 0);
    }

    public long setObserved(int time, long energy) throws IllegalArgumentException {
        requireRange(time, 0, LONGEST_WINDOW);
        requireRange(energy, 0, GREATEST_OBSERVED);
        long previous = now.seen[time];
        history.keep(now);
        forgetResults();
        now.seen[time] = energy;
        return previous;
    }

    public long observed(int time) throws IllegalArgumentException {
        requireRange(time, 0, LONGEST_WINDOW);
        return now.seen[time];
    }

    public int peel(int what) throws IllegalArgumentException {
        requireRange(what, 0, 3);
        Peeling peeled = presentPeeling();
        switch (what) {
            case 0:
                return peeled.result;
            case 1:
                return peeled.endTime;
            case 2:
                return peeled.line.count;
            default:
                return peeled.line.reach(peeled.line.count);
        }
    }

    public int found(int part, int what) throws IllegalArgumentException {
        requireNotNegative(part);
        requireRange(what, 0, 1);
        Bench line = presentPeeling().line;
        if (part >= line.count) {
            return NONE;
        }
        return what == 0 ? line.lengths[part] : line.fractions[part];
    }

    public int adopt() {
        history.keep(now);
        return carryOut(Command.ADOPT, 0, 0, 0);
    }

    // ---- scripts, undo and checksum

    public int type(int value) throws IllegalArgumentException, IllegalStateException {
        requireRange(value, 0, 127);
        if (script.length >= LONGEST_SCRIPT) {
            throw new IllegalStateException("the script is full");
        }
        script.append(value);
        return script.length;
    }

    public int clearScript() {
        int previous = script.length;
        script.length = 0;
        return previous;
    }

    public int run() {
        int fault = script.firstFault();
        if (fault != NONE) {
            return FAULT_BASE - fault;
        }
        history.keep(now);
        int number = 0;
        script.rewind();
        while (number < LONGEST_SCRIPT && script.readCommand()) {
            int[] n = script.numbers;
            if (verdictOn(script.command, n[0], n[1], n[2]) != Verdict.FINE) {
                break;
            }
            carryOut(script.command, n[0], n[1], n[2]);
            number++;
        }
        return number;
    }

    public int undo() throws IllegalStateException {
        if (history.count == 0) {
            throw new IllegalStateException("no state is saved");
        }
        history.restoreLatest(now);
        forgetResults();
        return history.count;
    }

    public long digest() {
        long hash = mixed(DIGEST_START, history.count);
        hash = mixed(hash, script.length);
        hash = mixedWithBench(hash);
        for (int what = 0; what < TOTALS; what++) {
            hash = mixed(hash, total(what));
        }
        for (int time = 0; time <= now.bench.window; time++) {
            hash = mixed(hash, echo(time));
        }
        hash = mixed(hash, differences());
        for (int what = 0; what <= 3; what++) {
            hash = mixed(hash, fault(what));
        }
        for (int time = 0; time < TIMES; time++) {
            hash = mixed(hash, now.seen[time]);
        }
        for (int what = 0; what <= 3; what++) {
            hash = mixed(hash, peel(what));
        }
        return mixedWithParts(hash, presentPeeling().line);
    }

    // ---- changes, for the methods and for the commands of a script

    /** For the commands that may be refused, which are those that change the bench. */
    private int change(Command command, int first, int second, int third) {
        refuseUnlessFine(verdictOn(command, first, second, third));
        history.keep(now);
        return changeBench(command, first, second, third);
    }

    private Verdict verdictOn(Command command, int first, int second, int third) {
        switch (command) {
            case PART:
                return now.bench.verdictOnAppend(first, second);
            case SET:
                return now.bench.verdictOnReplace(first, second, third);
            case CUT:
                return now.bench.verdictOnPart(first);
            case SPLIT:
                return now.bench.verdictOnDivide(first, second, third);
            case PULSE:
                return now.bench.verdictOnPulse(first, second);
            default:
                return Verdict.FINE;
        }
    }

    /** Does what a command says, if the verdict on it is FINE; the answer is the method's. */
    private int carryOut(Command command, int first, int second, int third) {
        switch (command) {
            case SOUND:
                return copyEchoes(now.sound);
            case LOOK:
                int times = copyEchoes(now.seen);
                forgetResults();
                return times;
            case ADOPT:
                now.bench.takeLine(presentPeeling().line);
                forgetResults();
                return now.bench.count;
            default:
                return changeBench(command, first, second, third);
        }
    }

    private int changeBench(Command command, int first, int second, int third) {
        forgetResults();
        switch (command) {
            case PART:
                return now.bench.append(first, second);
            case SET:
                return now.bench.replace(first, second, third);
            case CUT:
                return now.bench.cut(first);
            case SPLIT:
                return now.bench.divide(first, second, third);
            default:
                return now.bench.appendPulse(first, second);
        }
    }

    private int copyEchoes(long[] target) {
        Wave present = presentWave();
        System.arraycopy(present.echoes, 0, target, 0, TIMES);
        return (int) present.totals[ECHO_TIMES];
    }

    private void forgetResults() {
        waveIsFresh = false;
        peelingIsFresh = false;
    }

    private Wave presentWave() {
        if (!waveIsFresh) {
            wave.spread(now.bench);
            waveIsFresh = true;
        }
        return wave;
    }

    private Peeling presentPeeling() {
        if (!peelingIsFresh) {
            peeling.findLine(now);
            peelingIsFresh = true;
        }
        return peeling;
    }

    // ---- small helps

    private static void refuseUnlessFine(Verdict verdict) {
        if (verdict == Verdict.NO_SUCH_NUMBER) {
            throw new IndexOutOfBoundsException("there is no such number");
        }
        if (verdict == Verdict.OUT_OF_RANGE) {
            throw new IllegalArgumentException("an argument is out of range");
        }
        if (verdict == Verdict.NO_ROOM) {
            throw new IllegalStateException("there is no room for more");
        }
    }

    private static void requireNumber(int number, int count) {
        if (number < 0 || number >= count) {
            throw new IndexOutOfBoundsException("there is no such number");
        }
    }

    private static void requireRange(long value, long least, long greatest) {
        if (!isWithin(value, least, greatest)) {
            throw new IllegalArgumentException("an argument is out of range");
        }
    }

    private static void requireNotNegative(int value) {
        if (value < 0) {
            throw new IllegalArgumentException("an argument is negative");
        }
    }

    private static boolean isWithin(long value, long least, long greatest) {
        return value >= least && value <= greatest;
    }

    private static long turnedBack(long energy, int fraction) {
        return energy * fraction / WHOLE;
    }

    /** The first time up to the last one at which two rows of TIMES values differ, or NONE. */
    private static int firstUnequal(long[] one, long[] other, int last) {
        for (int time = 0; time <= last && time < TIMES; time++) {
            if (one[time] != other[time]) {
                return time;
            }
        }
        return NONE;
    }

    private static int digitCount(long number) {
        int count = 1;
        for (long rest = number / 10; rest > 0; rest /= 10) {
            count++;
        }
        return count;
    }

    private static int digitByte(long number, int fromRight) {
        long rest = number;
        for (int i = 0; i < fromRight; i++) {
            rest /= 10;
        }
        return '0' + (int) (rest % 10);
    }

    /** A byte of one entry of the echo list's text, which is time, colon, echo, semicolon. */
    private static int entryByte(int time, long echo, int index) {
        int timeDigits = digitCount(time);
        if (index < timeDigits) {
            return digitByte(time, timeDigits - 1 - index);
        }
        if (index == timeDigits) {
            return ':';
        }
        int left = timeDigits + digitCount(echo) - index;
        return left >= 0 ? digitByte(echo, left) : ';';
    }

    private static long mixed(long hash, long value) {
        return DIGEST_FACTOR * hash + value;
    }

    private static long mixedWithParts(long start, Bench line) {
        long hash = start;
        for (int k = 0; k < line.count; k++) {
            hash = mixed(hash, line.lengths[k]);
            hash = mixed(hash, line.fractions[k]);
        }
        return hash;
    }

    private long mixedWithBench(long start) {
        long hash = start;
        for (int what = 0; what <= 5; what++) {
            hash = mixed(hash, bench(what));
        }
        hash = mixedWithParts(hash, now.bench);
        for (int i = 0; i < now.bench.pulses; i++) {
            hash = mixed(hash, now.bench.pulseTimes[i]);
            hash = mixed(hash, now.bench.pulseEnergies[i]);
        }
        return hash;
    }

    /** Whether a change may be made, and if not, which kind of exception it calls for. */
    private enum Verdict {
        FINE, NO_SUCH_NUMBER, OUT_OF_RANGE, NO_ROOM
    }

    /** The commands of scripts, with their words and how many numbers follow. */
    private enum Command {
        PART("part", 2), SET("set", 3), CUT("cut", 1), SPLIT("split", 3),
        PULSE("pulse", 2), SOUND("sound", 0), LOOK("look", 0), ADOPT("adopt", 0);

        private static final Command[] ALL = values();

        final String word;
        final int numberCount;

        Command(String word, int numberCount) {
            this.word = word;
            this.numberCount = numberCount;
        }

        /** The command whose word stands from one index up to another, or null. */
        static Command spelled(byte[] bytes, int from, int to) {
            for (int i = 0; i < ALL.length; i++) {
                if (ALL[i].isSpelled(bytes, from, to)) {
                    return ALL[i];
                }
            }
            return null;
        }

        private boolean isSpelled(byte[] bytes, int from, int to) {
            if (from < 0 || to > bytes.length || to - from != word.length()) {
                return false;
            }
            for (int i = 0; i < word.length(); i++) {
                if (bytes[from + i] != word.charAt(i)) {
                    return false;
                }
            }
            return true;
        }
    }

    /** The line, the settings and the pulses: all that echoes depend on. */
    private static final class Bench {
        int count;
        final int[] lengths;
        // Joint k is the far end of part k - 1, so its fraction stands at k - 1.
        final int[] fractions;
        int front;
        int least;
        int window;
        int pulses;
        final int[] pulseTimes;
        final int[] pulseEnergies;

        Bench() {
            count = 0;
            lengths = new int[MOST_PARTS];
            fractions = new int[MOST_PARTS];
            front = 0;
            least = 1;
            window = 100;
            pulses = 1;
            pulseTimes = new int[MOST_PULSES];
            pulseEnergies = new int[MOST_PULSES];
            pulseEnergies[0] = 100000;
        }

        void copyBench(Bench other) {
            takeLine(other);
            takeSettings(other);
            pulses = other.pulses;
            System.arraycopy(other.pulseTimes, 0, pulseTimes, 0, MOST_PULSES);
            System.arraycopy(other.pulseEnergies, 0, pulseEnergies, 0, MOST_PULSES);
        }

        void takeLine(Bench other) {
            count = other.count;
            System.arraycopy(other.lengths, 0, lengths, 0, MOST_PARTS);
            System.arraycopy(other.fractions, 0, fractions, 0, MOST_PARTS);
        }

        void takeSettings(Bench other) {
            front = other.front;
            least = other.least;
            window = other.window;
        }

        Verdict verdictOnPart(int part) {
            return isWithin(part, 0, count - 1) ? Verdict.FINE : Verdict.NO_SUCH_NUMBER;
        }

        Verdict verdictOnAppend(int length, int fraction) {
            if (!isWithin(length, 1, LONGEST_PART) || !isWithin(fraction, 0, WHOLE)) {
                return Verdict.OUT_OF_RANGE;
            }
            return count < MOST_PARTS ? Verdict.FINE : Verdict.NO_ROOM;
        }

        Verdict verdictOnReplace(int part, int length, int fraction) {
            if (!isWithin(part, 0, count - 1)) {
                return Verdict.NO_SUCH_NUMBER;
            }
            boolean fits = isWithin(length, 1, LONGEST_PART) && isWithin(fraction, 0, WHOLE);
            return fits ? Verdict.FINE : Verdict.OUT_OF_RANGE;
        }

        Verdict verdictOnDivide(int part, int at, int fraction) {
            if (!isWithin(part, 0, count - 1)) {
                return Verdict.NO_SUCH_NUMBER;
            }
            if (!isWithin(at, 1, lengths[part] - 1) || !isWithin(fraction, 0, WHOLE)) {
                return Verdict.OUT_OF_RANGE;
            }
            return count < MOST_PARTS ? Verdict.FINE : Verdict.NO_ROOM;
        }

        Verdict verdictOnPulse(int time, int energy) {
            if (!isWithin(time, 0, LATEST_PULSE) || !isWithin(energy, 1, GREATEST_PULSE)) {
                return Verdict.OUT_OF_RANGE;
            }
            return pulses < MOST_PULSES ? Verdict.FINE : Verdict.NO_ROOM;
        }

        int append(int length, int fraction) {
            if (count < MOST_PARTS) {
                lengths[count] = length;
                fractions[count] = fraction;
                count++;
            }
            return count;
        }

        int replace(int part, int length, int fraction) {
            int previous = fractions[part];
            lengths[part] = length;
            fractions[part] = fraction;
            return previous;
        }

        int cut(int part) {
            for (int k = part; k < count - 1; k++) {
                lengths[k] = lengths[k + 1];
                fractions[k] = fractions[k + 1];
            }
            count--;
            return count;
        }

        int divide(int part, int at, int fraction) {
            if (count < MOST_PARTS) {
                for (int k = count; k > part; k--) {
                    lengths[k] = lengths[k - 1];
                    fractions[k] = fractions[k - 1];
                }
                count++;
                lengths[part] = at;
                fractions[part] = fraction;
                lengths[part + 1] -= at;
            }
            return count;
        }

        /** Reverses the line; the fraction of its end is left out, since it stays there. */
        void turnRound() {
            swapEnds(lengths, count);
            swapEnds(fractions, count - 1);
        }

        private static void swapEnds(int[] row, int size) {
            for (int low = 0, high = size - 1; low < high; low++, high--) {
                int kept = row[low];
                row[low] = row[high];
                row[high] = kept;
            }
        }

        int appendPulse(int time, int energy) {
            if (pulses < MOST_PULSES) {
                pulseTimes[pulses] = time;
                pulseEnergies[pulses] = energy;
                pulses++;
            }
            return pulses;
        }

        int cutPulse(int pulse) {
            for (int i = pulse; i < pulses - 1; i++) {
                pulseTimes[i] = pulseTimes[i + 1];
                pulseEnergies[i] = pulseEnergies[i + 1];
            }
            pulses--;
            return pulses;
        }

        int earliestPulse() {
            int earliest = LATEST_PULSE;
            for (int i = 0; i < pulses; i++) {
                earliest = Math.min(earliest, pulseTimes[i]);
            }
            return earliest;
        }

        /** The sum of the lengths of the first parts. */
        int reach(int parts) {
            int sum = 0;
            for (int k = 0; k < parts && k < MOST_PARTS; k++) {
                sum += lengths[k];
            }
            return sum;
        }

        /** The part in which half of a way there and back lies; doubled, as the half may be odd. */
        int partAtWayAndBack(int way) {
            int reached = 0;
            for (int k = 0; k < count; k++) {
                int next = reached + 2 * lengths[k];
                if (way > reached && way <= next) {
                    return k;
                }
                reached = next;
            }
            return NONE;
        }
    }

    /** What undo brings back: everything but the script. */
    private static final class State {
        final Bench bench;
        final long[] sound;
        final long[] seen;

        State() {
            bench = new Bench();
            sound = new long[TIMES];
            seen = new long[TIMES];
        }

        void copyState(State other) {
            bench.copyBench(other.bench);
            System.arraycopy(other.sound, 0, sound, 0, TIMES);
            System.arraycopy(other.seen, 0, seen, 0, TIMES);
        }
    }

    /** The undo stack; its states are made once and used again, to keep the room small. */
    private static final class History {
        private final State[] states;
        int count;

        History() {
            states = new State[MOST_SAVED];
            for (int i = 0; i < MOST_SAVED; i++) {
                states[i] = new State();
            }
            count = 0;
        }

        void keep(State state) {
            if (count >= MOST_SAVED) {
                moveOldestToTop();
            }
            states[count].copyState(state);
            count++;
        }

        /** Frees the place of the oldest state at the top, where it is written over. */
        private void moveOldestToTop() {
            State oldest = states[0];
            for (int i = 1; i < MOST_SAVED; i++) {
                states[i - 1] = states[i];
            }
            states[MOST_SAVED - 1] = oldest;
            count = MOST_SAVED - 1;
        }

        void restoreLatest(State target) {
            if (count > 0) {
                count--;
                target.copyState(states[count]);
            }
        }
    }

    /** How energy runs along the line of a bench, up to its window. */
    private static final class Wave {
        // What comes to a joint at a time, out of the part before it and out of the part behind it.
        final long[][] fromNear;
        final long[][] fromFar;
        final long[] echoes;
        final long[] totals;

        Wave() {
            fromNear = new long[MOST_PARTS + 1][TIMES];
            fromFar = new long[MOST_PARTS + 1][TIMES];
            echoes = new long[TIMES];
            totals = new long[TOTALS];
        }

        void spread(Bench bench) {
            clear();
            addUpPulses(bench);
            if (bench.count == 0) {
                totals[LEFT_LINE] = totals[SENT];
                return;
            }
            // Every way takes time, so all that arrives at a time is known when it is reached.
            for (int time = 0; time <= bench.window; time++) {
                meetFront(bench, time);
                for (int joint = 1; joint <= bench.count; joint++) {
                    meetJoint(bench, joint, time);
                }
            }
            addUpEchoes();
        }

        private void clear() {
            for (int joint = 0; joint <= MOST_PARTS; joint++) {
                Arrays.fill(fromNear[joint], 0);
                Arrays.fill(fromFar[joint], 0);
            }
            Arrays.fill(echoes, 0);
            Arrays.fill(totals, 0);
        }

        private void addUpPulses(Bench bench) {
            for (int i = 0; i < bench.pulses; i++) {
                if (bench.pulseTimes[i] <= bench.window) {
                    totals[SENT] += bench.pulseEnergies[i];
                }
            }
        }

        private void addUpEchoes() {
            for (int time = 0; time < TIMES; time++) {
                if (echoes[time] > 0) {
                    totals[ECHOED] += echoes[time];
                    totals[ECHO_TIMES]++;
                    totals[GREATEST_ECHO] = Math.max(totals[GREATEST_ECHO], echoes[time]);
                }
            }
        }

        private void meetFront(Bench bench, int time) {
            long far = fromFar[0][time];
            long energy = turnedBack(far, bench.front);
            int sources = energy > 0 ? 1 : 0;
            echoes[time] = far - energy;
            for (int i = 0; i < bench.pulses; i++) {
                if (bench.pulseTimes[i] == time) {
                    energy += bench.pulseEnergies[i];
                    sources++;
                }
            }
            if (sources > 1) {
                totals[MERGINGS]++;
            }
            setOut(bench, 0, true, time, energy);
        }

        private void meetJoint(Bench bench, int joint, int time) {
            long near = fromNear[joint][time];
            long far = fromFar[joint][time];
            if (near == 0 && far == 0) {
                return;
            }
            int fraction = bench.fractions[joint - 1];
            long nearBack = turnedBack(near, fraction);
            long farBack = turnedBack(far, fraction);
            countMerging(nearBack, far - farBack);
            setOut(bench, joint - 1, false, time, nearBack + far - farBack);
            if (joint < bench.count) {
                countMerging(near - nearBack, farBack);
                setOut(bench, joint, true, time, near - nearBack + farBack);
            } else {
                totals[LEFT_LINE] += near - nearBack;
            }
        }

        private void countMerging(long one, long other) {
            if (one > 0 && other > 0) {
                totals[MERGINGS]++;
            }
        }

        private void setOut(Bench bench, int part, boolean toFar, int time, long energy) {
            if (energy == 0) {
                return;
            }
            int arrival = time + bench.lengths[part];
            if (energy < bench.least) {
                totals[DROPPED] += energy;
                totals[DROPPED_PACKETS]++;
            } else if (arrival > bench.window) {
                totals[UNDER_WAY] += energy;
            } else if (toFar) {
                fromNear[part + 1][arrival] = energy;
            } else {
                fromFar[part][arrival] = energy;
            }
        }
    }

    /** Finds a line for an observed echo list, one part after the other. */
    private static final class Peeling {
        final Bench line;
        int result;
        int endTime;
        private final Wave trial;

        Peeling() {
            line = new Bench();
            result = COMPLETE;
            endTime = NONE;
            trial = new Wave();
        }

        void findLine(State state) {
            startLine(state.bench);
            // Every round but the last one finds a part, and with MOST_PARTS a round is the last.
            for (int round = 0; round <= MOST_PARTS; round++) {
                trial.spread(line);
                int time = timeOfNextPart(state.seen);
                if (time == NONE) {
                    return;
                }
                int sum = line.reach(line.count);
                int fraction = smallestFraction(time, sum, state.seen[time]);
                if (fraction == NONE) {
                    endWith(CONTRADICTION, time);
                    return;
                }
                line.append(time / 2 - sum, fraction);
            }
        }

        private void startLine(Bench bench) {
            line.count = 0;
            line.takeSettings(bench);
            line.pulses = 1;
            line.pulseTimes[0] = 0;
            line.pulseEnergies[0] = bench.pulseEnergies[0];
        }

        /** The time of an echo that asks for one more part; NONE if peeling has ended. */
        private int timeOfNextPart(long[] seen) {
            int time = firstUnequal(seen, trial.echoes, line.window);
            if (time == NONE) {
                endWith(COMPLETE, NONE);
                return NONE;
            }
            int sum = line.reach(line.count);
            if (seen[time] < trial.echoes[time] || time % 2 != 0 || time <= 2 * sum) {
                endWith(CONTRADICTION, time);
                return NONE;
            }
            if (time / 2 - sum > LONGEST_PART || line.count >= MOST_PARTS) {
                endWith(TOO_LONG, time);
                return NONE;
            }
            return time;
        }

        private void endWith(int howItEnds, int time) {
            result = howItEnds;
            endTime = time;
        }

        /**
         * Halves the range again and again: a greater fraction never makes the echo smaller, since
         * turning back, passing, merging and dropping all keep the order of energies.
         */
        private int smallestFraction(int time, int sum, long wanted) {
            long energy = energyBeyondEnd(sum);
            int tooSmall = 0;
            for (int step = 512; step > 0; step /= 2) {
                int tried = tooSmall + step;
                if (tried <= WHOLE && echoOfNewEnd(energy, tried, time - sum) < wanted) {
                    tooSmall = tried;
                }
            }
            int fraction = tooSmall + 1;
            boolean fits = fraction <= WHOLE
                    && echoOfNewEnd(energy, fraction, time - sum) == wanted;
            return fits ? fraction : NONE;
        }

        /** What would set out into a new part when the pulse first comes to the end of the line. */
        private long energyBeyondEnd(int sum) {
            if (line.count == 0) {
                return kept(line.pulseEnergies[0]);
            }
            long near = trial.fromNear[line.count][sum];
            return kept(near - turnedBack(near, line.fractions[line.count - 1]));
        }

        /**
         * The echo at the time at which the first energy from the end of a new part comes back. It
         * meets nothing on its way that has been in the new part before it, so what it merges with
         * is known from the line without the part.
         */
        private long echoOfNewEnd(long energy, int fraction, int backAtOldEnd) {
            long back = kept(turnedBack(energy, fraction));
            int time = backAtOldEnd;
            for (int joint = line.count; joint >= 1; joint--) {
                int passed = line.fractions[joint - 1];
                long near = trial.fromNear[joint][time];
                back = kept(back - turnedBack(back, passed) + turnedBack(near, passed));
                time += line.lengths[joint - 1];
            }
            return back - turnedBack(back, line.front);
        }

        private long kept(long energy) {
            return energy < line.least ? 0 : energy;
        }
    }

    /** The bytes of a script, and a reader that goes through them command by command. */
    private static final class Script {
        private final byte[] bytes;
        int length;
        Command command;
        final int[] numbers;
        private int position;
        private int fault;

        Script() {
            bytes = new byte[LONGEST_SCRIPT];
            length = 0;
            command = Command.PART;
            numbers = new int[MOST_NUMBERS];
            position = 0;
            fault = NONE;
        }

        void append(int value) {
            if (length < LONGEST_SCRIPT) {
                bytes[length] = (byte) value;
                length++;
            }
        }

        int firstFault() {
            rewind();
            boolean goesOn = true;
            for (int i = 0; i <= LONGEST_SCRIPT && goesOn; i++) {
                goesOn = readCommand();
            }
            return fault;
        }

        void rewind() {
            position = 0;
            fault = NONE;
        }

        /** Reads the next command; false at the end of the script, and at a fault. */
        boolean readCommand() {
            skipSpaces();
            if (position >= length) {
                return false;
            }
            int first = position;
            skipLetters();
            Command spelled = Command.spelled(bytes, first, position);
            if (spelled == null) {
                fault = first;
                return false;
            }
            command = spelled;
            for (int i = 0; i < command.numberCount && i < MOST_NUMBERS; i++) {
                if (!readNumber(i)) {
                    return false;
                }
            }
            skipSpaces();
            if (byteHere() != ';') {
                return failHere();
            }
            position++;
            return true;
        }

        private boolean readNumber(int index) {
            if (byteHere() != ' ') {
                return failHere();
            }
            skipSpaces();
            if (!isDigitHere()) {
                return failHere();
            }
            int value = 0;
            for (int digits = 0; digits < MOST_DIGITS && isDigitHere(); digits++) {
                value = 10 * value + byteHere() - '0';
                position++;
            }
            numbers[index] = value;
            return true;
        }

        private boolean failHere() {
            fault = position;
            return false;
        }

        private void skipSpaces() {
            while (position < length && byteHere() == ' ') {
                position++;
            }
        }

        private void skipLetters() {
            while (position < length && byteHere() >= 'a' && byteHere() <= 'z') {
                position++;
            }
        }

        private boolean isDigitHere() {
            return byteHere() >= '0' && byteHere() <= '9';
        }

        /** The byte at the position, or NONE at the end of the script. */
        private int byteHere() {
            return position < length && position < LONGEST_SCRIPT ? bytes[position] : NONE;
        }
    }
}
