import java.lang.reflect.InvocationTargetException;
import java.lang.reflect.Method;
import java.lang.reflect.Modifier;
import java.util.ArrayList;
import java.util.Comparator;
import java.util.List;
import java.util.Random;

/** Long runs of calls on LineEchoes and on PlainLineEchoes, whose answers must be the same. */
public final class RandomRunsTest {
    private static final int RUNS = 2500;
    // An object is used for at most 512 calls: a step takes up to 123, the last look up to 114.
    private static final int CALLS_BEFORE_LAST_STEP = 270;

    private final Random random;
    private final LineEchoes one = new LineEchoes();
    private final PlainLineEchoes other = new PlainLineEchoes();
    private final StringBuilder told = new StringBuilder();
    private final boolean wild;
    private int made = 0;

    private RandomRunsTest(long seed) {
        random = new Random(seed);
        wild = seed % 5 == 0;
    }

    public static void main(String[] args) throws Exception {
        int runs = args.length > 0 ? Integer.parseInt(args[0]) : RUNS;
        long first = args.length > 1 ? Long.parseLong(args[1]) : 0;
        for (long seed = first; seed < first + runs; seed++) {
            if (!new RandomRunsTest(seed).isAlike()) {
                Check.fail("in the run of seed " + seed);
                break;
            }
            Check.holds("run " + seed, true);
        }
        Check.finish();
    }

    private static List<Method> face() {
        List<Method> methods = new ArrayList<>();
        for (Method m : LineEchoes.class.getDeclaredMethods()) {
            if (Modifier.isPublic(m.getModifiers())) {
                methods.add(m);
            }
        }
        methods.sort(Comparator.comparing(Method::getName));
        return methods;
    }

    private static final List<Method> FACE = face();

    private boolean isAlike() throws Exception {
        while (made < CALLS_BEFORE_LAST_STEP) {
            int kind = random.nextInt(40);
            if (kind == 0) {
                if (!typeScript()) {
                    return false;
                }
            } else if (kind == 1) {
                if (!lookAtAll()) {
                    return false;
                }
            } else {
                Method m = FACE.get(random.nextInt(FACE.size()));
                boolean rare = m.getName().equals("digest") || m.getName().equals("type")
                        || m.getName().equals("clearScript");
                if (rare && random.nextInt(4) != 0) {
                    continue;
                }
                if (!call(m.getName(), arguments(m))) {
                    return false;
                }
            }
        }
        boolean alike = lookAtAll() && call("digest");
        Check.holds("at most 512 calls, not " + made, made <= 512);
        return alike;
    }

    private static Object invoke(Object target, String name, Object[] arguments) throws Exception {
        for (Method m : target.getClass().getDeclaredMethods()) {
            if (m.getName().equals(name) && Modifier.isPublic(m.getModifiers())) {
                m.setAccessible(true);
                try {
                    return ((Number) m.invoke(target, arguments)).longValue();
                } catch (InvocationTargetException e) {
                    return "throws." + e.getCause().getClass().getSimpleName();
                }
            }
        }
        throw new AssertionError("no method " + name);
    }

    private boolean call(String name, Object... arguments) throws Exception {
        made++;
        Object got = invoke(one, name, arguments);
        Object due = invoke(other, name, arguments);
        String line = name + java.util.Arrays.toString(arguments);
        told.append(line).append(" -> ").append(due).append('\n');
        if (!got.equals(due)) {
            System.out.println(told);
            Check.fail(line + " answered " + got + ", due is " + due);
            return false;
        }
        return true;
    }

    private boolean lookAtAll() throws Exception {
        boolean alike = true;
        int window = one.bench(4);
        int n = one.bench(0);
        made += 2;
        for (int joint = 0; joint <= n && alike; joint++) {
            for (int i = 0; i < 4 && alike; i++) {
                int time = random.nextInt(window + 1);
                alike = call("arrival", joint, time, true) && call("arrival", joint, time, false);
            }
        }
        for (int i = 0; i < 12 && alike; i++) {
            alike = call("echoTime", i) && call("echoByte", i * i);
        }
        for (int what = 0; what <= 3 && alike; what++) {
            alike = call("fault", what);
        }
        for (int what = 0; what <= 8 && alike; what++) {
            alike = call("total", what);
        }
        return alike;
    }

    private int pick(int low, int high) {
        if (random.nextInt(wild ? 8 : 40) == 0) {
            int[] edges = {low - 1, high + 1, Integer.MIN_VALUE, Integer.MAX_VALUE, -1, low, high};
            return edges[random.nextInt(edges.length)];
        }
        return low + random.nextInt(high - low + 1);
    }

    private int fraction() {
        int[] usual = {0, 1, 2, 100, 250, 333, 500, 500, 999, 1000};
        return random.nextBoolean() ? usual[random.nextInt(usual.length)] : pick(0, 1000);
    }

    private int length() {
        return random.nextInt(3) == 0 ? pick(1, 20) : pick(1, 4);
    }

    private int least() {
        int[] usual = {0, 1, 2, 5, 50, 500, 1000};
        return random.nextInt(3) != 0 ? usual[random.nextInt(usual.length)] : pick(0, 1000);
    }

    private int energy() {
        int[] usual = {1, 10, 99, 1000, 5000, 100000, 1000000};
        return random.nextBoolean() ? usual[random.nextInt(usual.length)] : pick(1, 1000000);
    }

    private long observedEnergy(int time) {
        if (time >= 0 && time <= 200 && random.nextInt(3) != 0) {
            made++;
            return one.observed(time) + random.nextInt(5) - 2;
        }
        if (random.nextInt(20) == 0) {
            long[] edges = {-1, 4000001, 4000000, Long.MAX_VALUE, Long.MIN_VALUE, 1L << 32};
            return edges[random.nextInt(edges.length)];
        }
        return random.nextBoolean() ? 0 : 100 * random.nextInt(1000);
    }

    private Object[] arguments(Method m) {
        int n = one.bench(0);
        int window = one.bench(4);
        made += 2;
        switch (m.getName()) {
            case "addPart":
                return new Object[] {length(), fraction()};
            case "setPart":
                return new Object[] {pick(0, Math.max(0, n - 1)), length(), fraction()};
            case "removePart":
                return new Object[] {random.nextInt(3) == 0 ? pick(0, Math.max(0, n - 1)) : n};
            case "splitPart":
                return new Object[] {pick(0, Math.max(0, n - 1)), pick(1, 4), fraction()};
            case "setBench":
                return new Object[] {random.nextInt(2) * pick(0, 999), least(),
                    random.nextBoolean() ? pick(100, 200) : pick(1, 200)};
            case "addPulse":
                return new Object[] {random.nextBoolean() ? pick(0, 8) : pick(0, 100), energy()};
            case "removePulse":
                return new Object[] {pick(0, 3)};
            case "part":
                return new Object[] {pick(0, Math.max(0, n - 1)), pick(0, 2)};
            case "bench":
                return new Object[] {pick(0, 5)};
            case "echo":
                return new Object[] {pick(0, window)};
            case "echoTime", "echoByte":
                return new Object[] {pick(0, 100)};
            case "total":
                return new Object[] {pick(0, 8)};
            case "arrival":
                return new Object[] {pick(0, n), pick(0, window), random.nextBoolean()};
            case "fault", "peel":
                return new Object[] {pick(0, 3)};
            case "setObserved":
                int time = random.nextBoolean() ? 2 * pick(0, 20) : pick(0, 200);
                return new Object[] {time, observedEnergy(time)};
            case "observed":
                return new Object[] {pick(0, 200)};
            case "found":
                return new Object[] {pick(0, 8), pick(0, 1)};
            case "type":
                return new Object[] {pick(0, 127)};
            default:
                return new Object[0];
        }
    }

    private String piece() {
        String[] words = {"part", "set", "cut", "split", "pulse", "sound", "look", "adopt"};
        int[] numbers = {2, 3, 1, 3, 2, 0, 0, 0};
        int w = random.nextInt(words.length);
        StringBuilder text = new StringBuilder(" ".repeat(random.nextInt(4) / 3)).append(words[w]);
        for (int i = 0; i < numbers[w]; i++) {
            text.append(" ".repeat(1 + random.nextInt(5) / 4));
            text.append("0".repeat(random.nextInt(6) / 5 * random.nextInt(6)));
            text.append(i == numbers[w] - 1 ? random.nextInt(1000) : random.nextInt(5));
        }
        return text.append(" ".repeat(random.nextInt(4) / 3)).append(';').toString();
    }

    private boolean typeScript() throws Exception {
        StringBuilder text = new StringBuilder();
        int pieces = random.nextInt(8);
        for (int i = 0; i < pieces; i++) {
            text.append(piece());
        }
        if (text.length() > 0 && random.nextInt(3) == 0) {
            String signs = " ;0a9zk~A";
            int at = random.nextInt(text.length());
            if (random.nextBoolean()) {
                text.setCharAt(at, signs.charAt(random.nextInt(signs.length())));
            } else {
                text.setLength(at);
            }
        }
        boolean alike = call("clearScript");
        for (int i = 0; i < text.length() && alike; i++) {
            alike = call("type", (int) text.charAt(i));
        }
        return alike && call("run");
    }
}
