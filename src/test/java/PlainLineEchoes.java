import java.util.ArrayDeque;
import java.util.ArrayList;
import java.util.Arrays;
import java.util.Deque;
import java.util.List;
import java.util.Map;
import java.util.TreeMap;

/**
 * A second writing of the document for tests: slow, without caches, each rule as plainly as the
 * document says it, and with none of the ways of LineEchoes.
 */
final class PlainLineEchoes {
    private static final class World {
        List<int[]> parts = new ArrayList<>();
        List<int[]> pulses = new ArrayList<>();
        int front = 0;
        int least = 1;
        int window = 100;
        TreeMap<Integer, Long> sound = new TreeMap<>();
        TreeMap<Integer, Long> observed = new TreeMap<>();

        World copy() {
            World w = new World();
            for (int[] part : parts) {
                w.parts.add(part.clone());
            }
            for (int[] pulse : pulses) {
                w.pulses.add(pulse.clone());
            }
            w.front = front;
            w.least = least;
            w.window = window;
            w.sound = new TreeMap<>(sound);
            w.observed = new TreeMap<>(observed);
            return w;
        }
    }

    /** All that a line does up to the window: what goes each way is asked for, time by time. */
    private static final class Course {
        private static final int NEAR = 0;
        private static final int FAR = 1;
        final TreeMap<Integer, Long> echoes = new TreeMap<>();
        final long[][][] arrivals;
        final long[] totals = new long[9];
        private final World w;

        Course(World world) {
            w = world;
            int n = w.parts.size();
            arrivals = new long[w.window + 1][n + 1][2];
            for (int time = 0; time <= w.window; time++) {
                leave(time, n);
                for (int joint = 0; joint < n; joint++) {
                    setOut(time, joint, FAR);
                    setOut(time, joint + 1, NEAR);
                }
            }
            for (long e : echoes.values()) {
                totals[1] += e;
                totals[7] += 1;
                totals[8] = Math.max(totals[8], e);
            }
        }

        private long back(int time, int joint, int side) {
            int p = joint == 0 ? w.front : w.parts.get(joint - 1)[1];
            return Math.floorDiv(arrivals[time][joint][side] * p, 1000L);
        }

        private long rest(int time, int joint, int side) {
            return arrivals[time][joint][side] - back(time, joint, side);
        }

        /** Pulses that set out or leave, echoes, and what leaves at the end. */
        private void leave(int time, int n) {
            for (int[] pulse : w.pulses) {
                if (pulse[0] == time) {
                    totals[0] += pulse[1];
                    totals[2] += n == 0 ? pulse[1] : 0;
                }
            }
            totals[2] += rest(time, n, NEAR);
            if (rest(time, 0, FAR) > 0) {
                echoes.put(time, rest(time, 0, FAR));
            }
        }

        private void setOut(int time, int joint, int side) {
            List<Long> energies = new ArrayList<>();
            energies.add(back(time, joint, side));
            energies.add(rest(time, joint, 1 - side));
            for (int[] pulse : w.pulses) {
                if (joint == 0 && pulse[0] == time) {
                    energies.add((long) pulse[1]);
                }
            }
            energies.removeIf(e -> e == 0);
            if (energies.isEmpty()) {
                return;
            }
            long sum = 0;
            for (long e : energies) {
                sum += e;
            }
            totals[5] += energies.size() > 1 ? 1 : 0;
            int there = time + w.parts.get(side == FAR ? joint : joint - 1)[0];
            if (sum < w.least) {
                totals[3] += sum;
                totals[6]++;
            } else if (there > w.window) {
                totals[4] += sum;
            } else {
                arrivals[there][side == FAR ? joint + 1 : joint - 1][1 - side] = sum;
            }
        }

        long echo(int time) {
            return echoes.getOrDefault(time, 0L);
        }
    }

    private static final class Peeled {
        final World line = new World();
        int result;
        int time;
        int sum = 0;

        Peeled(World w) {
            line.front = w.front;
            line.least = w.least;
            line.window = w.window;
            line.pulses.add(new int[] {0, w.pulses.get(0)[1]});
            while (true) {
                Course course = new Course(line);
                int t = 0;
                while (t <= w.window && w.observed.getOrDefault(t, 0L) == course.echo(t)) {
                    t++;
                }
                if (t > w.window) {
                    result = LineEchoes.COMPLETE;
                    time = LineEchoes.NONE;
                    return;
                }
                time = t;
                long wanted = w.observed.getOrDefault(t, 0L);
                if (wanted < course.echo(t) || t % 2 == 1 || t <= 2 * sum) {
                    result = LineEchoes.CONTRADICTION;
                    return;
                }
                int length = t / 2 - sum;
                if (length > 20 || line.parts.size() == 8) {
                    result = LineEchoes.TOO_LONG;
                    return;
                }
                if (!putPart(t, length, wanted)) {
                    result = LineEchoes.CONTRADICTION;
                    return;
                }
            }
        }

        /** Tries every fraction, one after the other, with the whole line. */
        private boolean putPart(int t, int length, long wanted) {
            int[] part = {length, 0};
            line.parts.add(part);
            int window = line.window;
            line.window = t;
            boolean fits = false;
            for (part[1] = 1; part[1] <= 1000; part[1]++) {
                if (new Course(line).echo(t) == wanted) {
                    fits = true;
                    break;
                }
            }
            line.window = window;
            if (fits) {
                sum += length;
            } else {
                line.parts.remove(line.parts.size() - 1);
            }
            return fits;
        }
    }

    private World now = new World();
    private final Deque<World> saved = new ArrayDeque<>();
    private final StringBuilder script = new StringBuilder();
    private Peeled peeled = null;
    private Course course = null;

    PlainLineEchoes() {
        now.pulses.add(new int[] {0, 100000});
    }

    private void save() {
        saved.push(now.copy());
        while (saved.size() > 3) {
            saved.removeLast();
        }
        changed();
    }

    private void changed() {
        peeled = null;
        course = null;
    }

    private Course course() {
        if (course == null) {
            course = new Course(now);
        }
        return course;
    }

    private Peeled peeled() {
        if (peeled == null) {
            peeled = new Peeled(now);
        }
        return peeled;
    }

    private static void argument(boolean fine) {
        if (!fine) {
            throw new IllegalArgumentException();
        }
    }

    private static void state(boolean fine) {
        if (!fine) {
            throw new IllegalStateException();
        }
    }

    private static void index(int number, int count) {
        if (number < 0 || number >= count) {
            throw new IndexOutOfBoundsException();
        }
    }

    private static boolean in(long value, long low, long high) {
        return low <= value && value <= high;
    }

    // ---- the commands: checks, then what is done; the caller saves

    private Runnable command(String word, int a, int b, int c) {
        int n = now.parts.size();
        switch (word) {
            case "part":
                argument(in(a, 1, 20) && in(b, 0, 1000));
                state(n < 8);
                return () -> now.parts.add(new int[] {a, b});
            case "set":
                index(a, n);
                argument(in(b, 1, 20) && in(c, 0, 1000));
                return () -> now.parts.set(a, new int[] {b, c});
            case "cut":
                index(a, n);
                return () -> now.parts.remove(a);
            case "split":
                index(a, n);
                argument(in(b, 1, now.parts.get(a)[0] - 1) && in(c, 0, 1000));
                state(n < 8);
                return () -> {
                    now.parts.get(a)[0] -= b;
                    now.parts.add(a, new int[] {b, c});
                };
            case "pulse":
                argument(in(a, 0, 100) && in(b, 1, 1000000));
                state(now.pulses.size() < 4);
                return () -> now.pulses.add(new int[] {a, b});
            case "sound":
                return () -> now.sound = new TreeMap<>(course().echoes);
            case "look":
                return () -> now.observed = new TreeMap<>(course().echoes);
            case "adopt":
                return () -> {
                    List<int[]> parts = new ArrayList<>();
                    for (int[] part : peeled().line.parts) {
                        parts.add(part.clone());
                    }
                    now.parts = parts;
                };
            default:
                throw new AssertionError(word);
        }
    }

    private void doCommand(String word, int a, int b, int c) {
        Runnable what = command(word, a, b, c);
        save();
        what.run();
        changed();
    }

    public int addPart(int length, int fraction) {
        doCommand("part", length, fraction, 0);
        return now.parts.size();
    }

    public int setPart(int part, int length, int fraction) {
        command("set", part, length, fraction);
        int previous = now.parts.get(part)[1];
        doCommand("set", part, length, fraction);
        return previous;
    }

    public int removePart(int part) {
        doCommand("cut", part, 0, 0);
        return now.parts.size();
    }

    public int splitPart(int part, int at, int fraction) {
        doCommand("split", part, at, fraction);
        return now.parts.size();
    }

    public int reverse() {
        save();
        int n = now.parts.size();
        List<int[]> turned = new ArrayList<>();
        for (int k = 0; k < n; k++) {
            int joint = k + 1;
            int fraction = joint == n ? now.parts.get(n - 1)[1] : now.parts.get(n - joint - 1)[1];
            turned.add(new int[] {now.parts.get(n - 1 - k)[0], fraction});
        }
        now.parts = turned;
        return bench(5);
    }

    public int setBench(int front, int least, int window) {
        argument(in(front, 0, 999) && in(least, 0, 1000) && in(window, 1, 200));
        save();
        int previous = now.window;
        now.front = front;
        now.least = least;
        now.window = window;
        return previous;
    }

    public int addPulse(int time, int energy) {
        doCommand("pulse", time, energy, 0);
        return now.pulses.size();
    }

    public int removePulse(int pulse) {
        index(pulse, now.pulses.size());
        state(now.pulses.size() > 1);
        save();
        now.pulses.remove(pulse);
        return now.pulses.size();
    }

    public int part(int part, int what) {
        index(part, now.parts.size());
        argument(in(what, 0, 2));
        if (what < 2) {
            return now.parts.get(part)[what];
        }
        return now.parts.subList(0, part + 1).stream().mapToInt(p -> p[0]).sum();
    }

    public int bench(int what) {
        argument(in(what, 0, 5));
        int sum = now.parts.stream().mapToInt(p -> p[0]).sum();
        return new int[] {now.parts.size(), now.pulses.size(), now.front, now.least, now.window,
            sum}[what];
    }

    public long echo(int time) {
        argument(in(time, 0, now.window));
        return course().echo(time);
    }

    public int echoTime(int index) {
        argument(index >= 0);
        List<Integer> times = new ArrayList<>(course().echoes.keySet());
        return index < times.size() ? times.get(index) : -1;
    }

    public long total(int what) {
        argument(in(what, 0, 8));
        return course().totals[what];
    }

    public long arrival(int joint, int time, boolean fromFar) {
        index(joint, now.parts.size() + 1);
        argument(in(time, 0, now.window));
        return course().arrivals[time][joint][fromFar ? Course.FAR : Course.NEAR];
    }

    public int echoByte(int index) {
        argument(index >= 0);
        StringBuilder text = new StringBuilder();
        course().echoes.forEach((time, e) -> text.append(time).append(':').append(e).append(';'));
        return index < text.length() ? text.charAt(index) : -1;
    }

    public int keepSound() {
        doCommand("sound", 0, 0, 0);
        return now.sound.size();
    }

    private List<Integer> differing() {
        List<Integer> times = new ArrayList<>();
        for (int t = 0; t <= now.window; t++) {
            if (course().echo(t) != now.sound.getOrDefault(t, 0L)) {
                times.add(t);
            }
        }
        return times;
    }

    public int differences() {
        return differing().size();
    }

    public int fault(int what) {
        argument(in(what, 0, 3));
        List<Integer> times = differing();
        if (times.isEmpty()) {
            return -1;
        }
        int t = times.get(0);
        int place = t - now.pulses.stream().mapToInt(p -> p[0]).min().getAsInt();
        if (what == 2) {
            double half = place / 2.0;
            double before = 0;
            for (int k = 0; k < now.parts.size(); k++) {
                double behind = before + now.parts.get(k)[0];
                if (half > before && half <= behind) {
                    return k;
                }
                before = behind;
            }
            return -1;
        }
        int greater = course().echo(t) > now.sound.getOrDefault(t, 0L) ? 1 : -1;
        return new int[] {t, place, 0, greater}[what];
    }

    public int observe() {
        doCommand("look", 0, 0, 0);
        return now.observed.size();
    }

    public long setObserved(int time, long energy) {
        argument(in(time, 0, 200) && in(energy, 0, 4000000));
        save();
        Long previous = now.observed.put(time, energy);
        return previous == null ? 0 : previous;
    }

    public long observed(int time) {
        argument(in(time, 0, 200));
        return now.observed.getOrDefault(time, 0L);
    }

    public int peel(int what) {
        argument(in(what, 0, 3));
        return new int[] {peeled().result, peeled().time, peeled().line.parts.size(),
            peeled().sum}[what];
    }

    public int found(int part, int what) {
        argument(part >= 0 && in(what, 0, 1));
        List<int[]> parts = peeled().line.parts;
        return part < parts.size() ? parts.get(part)[what] : -1;
    }

    public int adopt() {
        doCommand("adopt", 0, 0, 0);
        return now.parts.size();
    }

    public int type(int value) {
        argument(in(value, 0, 127));
        state(script.length() < 120);
        script.append((char) value);
        return script.length();
    }

    public int clearScript() {
        int previous = script.length();
        script.setLength(0);
        return previous;
    }

    private static final Map<String, Integer> WORDS = Map.of("part", 2, "set", 3, "cut", 1,
            "split", 3, "pulse", 2, "sound", 0, "look", 0, "adopt", 0);

    /** Goes byte by byte through states; the end of the script is the byte -1. */
    private int faultOf(List<String[]> commands) {
        StringBuilder word = new StringBuilder();
        List<String> pieces = new ArrayList<>();
        char mode = 'c'; // c before a command, w in a word, g in a gap, n in a number
        for (int i = 0; i <= script.length(); i++) {
            int b = i < script.length() ? script.charAt(i) : -1;
            boolean letter = b >= 'a' && b <= 'z';
            boolean digit = b >= '0' && b <= '9';
            if (mode == 'w') {
                if (letter) {
                    word.append((char) b);
                    continue;
                }
                if (!WORDS.containsKey(word.toString())) {
                    return i - word.length();
                }
                pieces = new ArrayList<>(Arrays.asList(word.toString()));
            }
            if (mode == 'c') {
                if (b == -1) {
                    return -1;
                }
                if (letter) {
                    word = new StringBuilder().append((char) b);
                    mode = 'w';
                } else if (b != ' ') {
                    return i;
                }
                continue;
            }
            int due = WORDS.get(pieces.get(0)) - (pieces.size() - 1);
            String last = pieces.get(pieces.size() - 1);
            if (digit && mode == 'n' && last.length() < 6) {
                pieces.set(pieces.size() - 1, last + (char) b);
            } else if (digit && mode == 'g' && due > 0) {
                pieces.add("" + (char) b);
                mode = 'n';
            } else if (b == ' ') {
                mode = 'g';
            } else if (b == ';' && due == 0) {
                commands.add(pieces.toArray(new String[0]));
                mode = 'c';
            } else {
                return i;
            }
        }
        throw new AssertionError("the end of the script always answers");
    }

    public int run() {
        List<String[]> commands = new ArrayList<>();
        int fault = faultOf(commands);
        if (fault >= 0) {
            return -10 - fault;
        }
        save();
        int count = 0;
        for (String[] pieces : commands) {
            int[] n = new int[3];
            for (int i = 1; i < pieces.length; i++) {
                n[i - 1] = Integer.parseInt(pieces[i]);
            }
            try {
                command(pieces[0], n[0], n[1], n[2]).run();
            } catch (IndexOutOfBoundsException | IllegalArgumentException
                    | IllegalStateException e) {
                break;
            }
            changed();
            count++;
        }
        return count;
    }

    public int undo() {
        state(!saved.isEmpty());
        now = saved.pop();
        changed();
        return saved.size();
    }

    public long digest() {
        List<Long> values = new ArrayList<>();
        values.add((long) saved.size());
        values.add((long) script.length());
        for (int i = 0; i <= 5; i++) {
            values.add((long) bench(i));
        }
        for (int[] part : now.parts) {
            values.add((long) part[0]);
            values.add((long) part[1]);
        }
        for (int[] pulse : now.pulses) {
            values.add((long) pulse[0]);
            values.add((long) pulse[1]);
        }
        for (int i = 0; i <= 8; i++) {
            values.add(total(i));
        }
        for (int t = 0; t <= now.window; t++) {
            values.add(echo(t));
        }
        values.add((long) differences());
        for (int i = 0; i <= 3; i++) {
            values.add((long) fault(i));
        }
        for (int t = 0; t <= 200; t++) {
            values.add(observed(t));
        }
        for (int i = 0; i <= 3; i++) {
            values.add((long) peel(i));
        }
        for (int[] part : peeled().line.parts) {
            values.add((long) part[0]);
            values.add((long) part[1]);
        }
        long h = 11908;
        for (long v : values) {
            h = 31 * h + v;
        }
        return h;
    }
}
