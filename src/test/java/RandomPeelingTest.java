import java.util.Random;

/** Lists of random lines, some of them disturbed, peeled by LineEchoes and by PlainLineEchoes. */
public final class RandomPeelingTest {
    private static final int LINES = 300;

    public static void main(String[] args) {
        int[][] seen = new int[3][9];
        Random random = new Random(30);
        for (int i = 0; i < LINES; i++) {
            LineEchoes x = new LineEchoes();
            PlainLineEchoes y = new PlainLineEchoes();
            makeLine(random, x, y);
            setBench(random, x, y);
            Check.same("observe", x.observe(), y.observe());
            if (random.nextInt(3) == 0) {
                disturb(random, x, y);
            }
            compare("line " + i, x, y);
            seen[x.peel(0)][x.peel(2)]++;
        }
        for (int parts = 0; parts <= 8; parts++) {
            Check.holds("some lines of " + parts + " parts end COMPLETE", seen[0][parts] > 0);
            Check.holds("some lines of " + parts + " parts contradict", seen[1][parts] > 0);
        }
        Check.holds("some lists are too long for 8 parts", seen[2][8] > 0);
        Check.finish();
    }

    private static void makeLine(Random random, LineEchoes x, PlainLineEchoes y) {
        int[] energies = {1000000, 1000000, 100000, 5000, 300};
        int energy = energies[random.nextInt(energies.length)];
        x.addPulse(0, energy);
        y.addPulse(0, energy);
        x.removePulse(0);
        y.removePulse(0);
        int n = random.nextInt(9);
        int longest = random.nextBoolean() ? 3 : 12;
        for (int k = 0; k < n; k++) {
            int length = 1 + random.nextInt(longest);
            int fraction = random.nextInt(4) == 0 ? random.nextInt(1001) : 1 + random.nextInt(300);
            x.addPart(length, fraction);
            y.addPart(length, fraction);
        }
    }

    private static void setBench(Random random, LineEchoes x, PlainLineEchoes y) {
        int front = random.nextBoolean() ? 0 : random.nextInt(1000);
        int least = random.nextInt(3) == 0 ? random.nextInt(1001) : random.nextInt(20);
        int window = random.nextInt(3) == 0 ? 1 + random.nextInt(200) : 200;
        x.setBench(front, least, window);
        y.setBench(front, least, window);
    }

    private static void disturb(Random random, LineEchoes x, PlainLineEchoes y) {
        int time = random.nextInt(60);
        long energy = Math.max(0, x.observed(time) + random.nextInt(11) - 5);
        x.setObserved(time, energy);
        y.setObserved(time, energy);
    }

    private static void compare(String name, LineEchoes x, PlainLineEchoes y) {
        for (int what = 0; what <= 3; what++) {
            Check.same(name + ": peel(" + what + ")", x.peel(what), y.peel(what));
        }
        for (int part = 0; part <= 8; part++) {
            Check.same(name + ": found(" + part + ", 0)", x.found(part, 0), y.found(part, 0));
            Check.same(name + ": found(" + part + ", 1)", x.found(part, 1), y.found(part, 1));
        }
        Check.same(name + ": adopt", x.adopt(), y.adopt());
        Check.same(name + ": digest", x.digest(), y.digest());
    }
}
