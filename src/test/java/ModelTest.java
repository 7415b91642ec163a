import java.util.Random;

/** All promises: long runs of calls, drawn from fixed seeds, against a model of the document. */
public final class ModelTest {
    private static final int RUNS = 4000;
    private static final int CALLS = 512;
    private static final int[] ODD = {Integer.MIN_VALUE, -10000, -1, 1001, Integer.MAX_VALUE};

    private final Random random;
    private final SlottedMesh mesh;
    private final MeshModel model;
    private final int n;
    private final StringBuilder log = new StringBuilder();
    private int calls;
    private boolean wrong;

    private ModelTest(long seed) {
        random = new Random(seed);
        int nodes = 1 + random.nextInt(7);
        int slots = 7 + random.nextInt(19);
        int channels = random.nextInt(6);
        mesh = new SlottedMesh(nodes, slots, channels);
        model = new MeshModel(nodes, slots, channels);
        n = model.n;
        log.append("new(" + nodes + ", " + slots + ", " + channels + ")\n");
    }

    public static void main(String[] args) {
        int bad = 0;
        for (int seed = 1; seed <= RUNS && bad < 3; seed++) {
            ModelTest test = new ModelTest(seed);
            if (!test.passes()) {
                bad++;
                System.out.println("seed " + seed + ":\n" + test.log);
            }
        }
        System.out.println("ModelTest: " + RUNS + " runs of " + CALLS + " calls, " + bad + " wrong");
        if (bad != 0) {
            System.exit(1);
        }
    }

    private boolean passes() {
        if (random.nextInt(10) != 0) {
            begin();
        }
        while (calls < CALLS && !wrong) {
            if (random.nextInt(3) == 0) {
                change();
            } else {
                look();
            }
        }
        return !wrong;
    }

    private void due(String call, long got, long want) {
        calls++;
        wrong |= got != want;
        log.append(call + " answered " + got + (got == want ? "" : ", due is " + want) + "\n");
    }

    private void due(String call, boolean got, boolean want) {
        due(call, got ? 1L : 0L, want ? 1L : 0L);
    }

    private void begin() {
        for (int a = 1; a < n; a++) {
            pair(a, random.nextInt(a), true);
        }
        for (int k = random.nextInt(4); k > 0; k--) {
            pair(node(), node(), true);
        }
        due("plan()", mesh.plan(), model.plan());
        for (int a = 1; a < n; a++) {
            due("start(" + a + ")", mesh.start(a), model.start(a));
        }
        run(random.nextInt(64) + 1);
    }

    /** A number below a bound most of the time, and an odd one now and then. */
    private int below(int bound) {
        int dice = random.nextInt(60);
        if (dice == 0) {
            return ODD[random.nextInt(ODD.length)];
        }
        return dice == 1 ? bound : random.nextInt(bound);
    }

    private int node() {
        return below(n);
    }

    private void pair(int a, int b, boolean near) {
        due("pair(" + a + ", " + b + ", " + near + ")", mesh.pair(a, b, near), model.pair(a, b, near));
    }

    private void run(int count) {
        due("run(" + count + ")", mesh.run(count), model.run(count));
    }

    private long bits() {
        switch (random.nextInt(6)) {
            case 0:
                return random.nextLong();
            case 1:
                return random.nextLong() | random.nextLong() | random.nextLong();
            case 2:
                return random.nextInt(3) == 0 ? 0L : ~(1L << random.nextInt(64));
            default:
                return -1L;
        }
    }

    private void change() {
        int a = node();
        int dice = random.nextInt(100);
        if (dice < 40) {
            run(random.nextInt(40) == 0 ? below(70) : 1 + random.nextInt(random.nextBoolean() ? 6 : 30));
        } else if (dice < 70) {
            int value = random.nextInt(20) == 0 ? 1001 - 2002 * random.nextInt(2) : random.nextInt(2001) - 1000;
            due("sample(" + a + ", " + value + ")", mesh.sample(a, value), model.sample(a, value));
        } else if (dice < 76) {
            int c = below(model.channels);
            long f = bits();
            long k = bits();
            due("radio(" + c + ", " + f + ", " + k + ")", mesh.radio(c, f, k), model.radio(c, f, k));
        } else if (dice < 82) {
            int d = random.nextInt(3) == 0 ? random.nextInt(9) - 4 : random.nextInt(3) - 1;
            due("drift(" + a + ", " + d + ")", mesh.drift(a, d), model.drift(a, d));
        } else if (dice < 88) {
            int t = random.nextInt(2021) - 1010;
            int p = random.nextInt(19) - 1;
            int i = random.nextInt(19) - 1;
            due("control(" + a + ", " + t + ", " + p + ", " + i + ")",
                    mesh.control(a, t, p, i), model.control(a, t, p, i));
        } else if (dice < 91) {
            pair(a, node(), random.nextInt(3) != 0);
        } else if (dice < 93) {
            due("stop(" + a + ")", mesh.stop(a), model.stop(a));
        } else if (dice < 99) {
            due("start(" + a + ")", mesh.start(a), model.start(a));
        } else {
            due("plan()", mesh.plan(), model.plan());
        }
    }

    private void look() {
        int a = node();
        int k = below(4);
        switch (random.nextInt(10)) {
            case 0 -> due("rank(" + a + ")", mesh.rank(a), model.rank(a));
            case 1 -> due("parent(" + a + ", " + k + ")", mesh.parent(a, k), model.parent(a, k));
            case 2 -> {
                int s = below(model.slots);
                int c = below(model.channels);
                due("cell(" + s + ", " + c + ")", mesh.cell(s, c), model.cell(s, c));
            }
            case 3 -> due("current(" + a + ")", mesh.current(a), model.current(a));
            case 4 -> due("offset(" + a + ")", mesh.offset(a), model.offset(a));
            case 5 -> due("count(" + a + ", " + k + ")", mesh.count(a, k), model.count(a, k));
            case 6 -> due("cached(" + a + ", " + k + ")", mesh.cached(a, k), model.cached(a, k));
            case 7 -> due("latest(" + a + ")", mesh.latest(a), model.latest(a));
            case 8 -> due("actuator(" + a + ")", mesh.actuator(a), model.actuator(a));
            default -> due("sent()", mesh.sent(), model.sent());
        }
    }
}
