/**
 * The ranges that promises 2 to 20 name, on both sides of each end: which nodes, slots, channels, rows and
 * places there are, and which values, drifts, gains and lengths of a run are accepted.
 */
public final class RangeEdgesTest {
    private static final Check CHECK = new Check();
    private static final int NONE = SlottedMesh.NONE;
    private static final int MISSING = SlottedMesh.MISSING;
    private static final int MIN = Integer.MIN_VALUE;
    private static final int MAX = Integer.MAX_VALUE;

    public static void main(String[] args) {
        for (int nodes = 2; nodes <= 6; nodes++) {
            nodesOfAMesh(nodes);
            for (int no : new int[] {MIN, MIN + 1, -9999, -2, -1, nodes, nodes + 1, 9999, MAX - 1, MAX}) {
                changesOfNoNode(nodes, no);
                looksAtNoNode(nodes, no);
            }
        }
        for (int slots = 8; slots <= 24; slots++) {
            for (int channels = 1; channels <= 4; channels++) {
                cells(slots, channels);
            }
        }
        for (int channels = 1; channels <= 4; channels++) {
            radioChannels(channels);
        }
        drifts();
        sampleValues();
        sampleStates();
        controlValues();
        runLengths();
        parentPlaces();
        countRows();
        cachedPlaces();
        ofTheGateway();
        withoutAPlan();
        CHECK.end("RangeEdgesTest");
    }

    private static SlottedMesh star(int nodes) {
        SlottedMesh mesh = new SlottedMesh(nodes, 24, 1);
        for (int node = 1; node < nodes; node++) {
            mesh.pair(0, node, true);
        }
        mesh.plan();
        return mesh;
    }

    private static void nodesOfAMesh(int nodes) {
        SlottedMesh mesh = star(nodes);
        for (int node = 0; node < nodes; node++) {
            boolean field = node != 0;
            String name = node + " of " + nodes;
            CHECK.due("rank of " + name, mesh.rank(node), field ? 1 : 0);
            CHECK.due("parent of " + name, mesh.parent(node, 0), field ? 0 : NONE);
            CHECK.due("offset of " + name, mesh.offset(node), 0);
            CHECK.due("count of " + name, mesh.count(node, 0), 0);
            CHECK.due("latest of " + name, mesh.latest(node), 0);
            CHECK.due("actuator of " + name, mesh.actuator(node), field ? 0 : MISSING);
            CHECK.due("drift of " + name, mesh.drift(node, 0), field);
            CHECK.due("control of " + name, mesh.control(node, 1, 1, 1), field);
            CHECK.due("stop before start of " + name, mesh.stop(node), false);
            CHECK.due("start of " + name, mesh.start(node), field);
            CHECK.due("start again of " + name, mesh.start(node), false);
            CHECK.due("sample of " + name, mesh.sample(node, 5), field ? 1 : NONE);
            CHECK.due("current of " + name, mesh.current(node), !field);
        }
        mesh.run(24);
        for (int node = 0; node < nodes; node++) {
            CHECK.due("current then", mesh.current(node), true);
            CHECK.due("cached then", mesh.cached(node, 0), node != 0 ? 5 : MISSING);
            CHECK.due("latest then", mesh.latest(node), node != 0 ? 1 : 0);
            CHECK.due("stop then", mesh.stop(node), node != 0);
            CHECK.due("pair then", mesh.pair(node, (node + 1) % nodes, false),
                    node == 0 || node == nodes - 1 && nodes > 2);
        }
    }

    private static void changesOfNoNode(int nodes, int no) {
        SlottedMesh mesh = star(nodes);
        String name = no + " of " + nodes;
        CHECK.due("pair, a " + name, mesh.pair(no, 0, true), false);
        CHECK.due("pair, b " + name, mesh.pair(nodes - 1, no, true), false);
        CHECK.due("pair not near, a " + name, mesh.pair(no, 0, false), false);
        CHECK.due("pair not near, b " + name, mesh.pair(nodes - 1, no, false), false);
        CHECK.due("pair, both " + name, mesh.pair(no, no, true), false);
        CHECK.due("start " + name, mesh.start(no), false);
        CHECK.due("stop " + name, mesh.stop(no), false);
        CHECK.due("drift " + name, mesh.drift(no, 0), false);
        CHECK.due("sample " + name, mesh.sample(no, 0), NONE);
        CHECK.due("control " + name, mesh.control(no, 0, 0, 0), false);
    }

    private static void looksAtNoNode(int nodes, int no) {
        SlottedMesh mesh = star(nodes);
        Meshes.startAll(mesh, nodes - 1);
        mesh.run(24);
        String name = no + " of " + nodes;
        CHECK.due("rank " + name, mesh.rank(no), NONE);
        CHECK.due("first parent " + name, mesh.parent(no, 0), NONE);
        CHECK.due("second parent " + name, mesh.parent(no, 1), NONE);
        CHECK.due("current " + name, mesh.current(no), false);
        CHECK.due("offset " + name, mesh.offset(no), MISSING);
        for (int row = 0; row < 4; row++) {
            CHECK.due("count " + name, mesh.count(no, row), NONE);
        }
        for (int k = 0; k < 3; k++) {
            CHECK.due("cached " + name, mesh.cached(no, k), MISSING);
        }
        CHECK.due("latest " + name, mesh.latest(no), NONE);
        CHECK.due("actuator " + name, mesh.actuator(no), MISSING);
    }

    private static void cells(int slots, int channels) {
        SlottedMesh bare = new SlottedMesh(2, slots, channels);
        SlottedMesh planned = new SlottedMesh(2, slots, channels);
        planned.pair(0, 1, true);
        planned.plan();
        int[] some = {MIN, -9999, -2, -1, 0, 1, 2, 3, 4, 5, 7, 8, slots - 1, slots, slots + 1, 9999, MAX};
        for (int slot : some) {
            for (int channel : new int[] {MIN, -2, -1, 0, channels - 1, channels, channels + 1, 24, MAX}) {
                boolean there = slot >= 0 && slot < slots && channel >= 0 && channel < channels;
                String name = "cell(" + slot + ", " + channel + ") of " + slots + " and " + channels;
                CHECK.due(name + " without a plan", bare.cell(slot, channel), there ? 0 : NONE);
                CHECK.due(name, planned.cell(slot, channel), there ? codeOfTwo(slot, channel) : NONE);
            }
        }
    }

    private static int codeOfTwo(int slot, int channel) {
        if (slot < 2) {
            return 100 + 10 * slot;
        }
        if (channel != 0 || slot > 3) {
            return 0;
        }
        return slot == 2 ? 210 : 301;
    }

    private static void radioChannels(int channels) {
        SlottedMesh mesh = new SlottedMesh(2, 8, channels);
        for (int channel : new int[] {MIN, MIN + 1, -64, -2, -1, 0, 1, 2, 3, 4, 5, 64, MAX - 1, MAX}) {
            boolean there = channel >= 0 && channel < channels;
            CHECK.due("radio(" + channel + ") of " + channels, mesh.radio(channel, -1L, -1L), there);
            CHECK.due("the same again", mesh.radio(channel, -1L, -1L), there);
            CHECK.due("greatest bits", mesh.radio(channel, Long.MAX_VALUE, Long.MIN_VALUE), there);
        }
    }

    private static void drifts() {
        for (int drift : new int[] {MIN, MIN + 1, -1000, -5, -4, -3, -2, -1, 0, 1, 2, 3, 4, 5, 1000, MAX - 1, MAX}) {
            boolean due = drift >= -3 && drift <= 3;
            SlottedMesh mesh = new SlottedMesh(2, 8, 1);
            mesh.drift(1, 2);
            CHECK.due("drift of an OFF node: " + drift, mesh.drift(1, drift), due);
            mesh.start(1);
            mesh.run(1);
            CHECK.due("a slot later", mesh.offset(1), due ? drift : 2);
            CHECK.due("drift of a started node: " + drift, mesh.drift(1, drift), due);
            mesh.run(64);
            CHECK.due("65 slots later", mesh.offset(1), 65 * (due ? drift : 2));
            CHECK.due("drift of 0: " + drift, mesh.drift(0, drift), false);
            mesh.run(1);
            CHECK.due("0 has no offset", mesh.offset(0), 0);
        }
    }

    private static void sampleValues() {
        for (int value : new int[] {MIN, MIN + 1, -9999, -1002, -1001, -1000, -999, -1, 0, 1, 999, 1000, 1001, 1002,
            9999, MAX - 1, MAX}) {
            boolean due = value >= -1000 && value <= 1000;
            SlottedMesh mesh = Meshes.two();
            CHECK.due("sample " + value, mesh.sample(1, value), due ? 1 : NONE);
            CHECK.due("the row", mesh.count(1, 0), due ? 1 : 0);
            mesh.run(8);
            CHECK.due("cached", mesh.cached(1, 0), due ? value : MISSING);
            CHECK.due("the next number", mesh.sample(1, 0), due ? 2 : 1);
        }
    }

    private static void sampleStates() {
        SlottedMesh mesh = new SlottedMesh(2, 8, 1);
        mesh.pair(0, 1, true);
        mesh.plan();
        CHECK.due("OFF", mesh.sample(1, 0), NONE);
        mesh.start(1);
        CHECK.due("started, not current", mesh.sample(1, 0), 1);
        mesh.run(8);
        CHECK.due("current", mesh.sample(1, 0), 2);
        mesh.stop(1);
        CHECK.due("OFF again", mesh.sample(1, 0), NONE);
        mesh.start(1);
        CHECK.due("numbers go on when it was OFF", mesh.sample(1, 0), 3);
    }

    private static void controlValues() {
        SlottedMesh mesh = new SlottedMesh(2, 8, 1);
        for (int target : new int[] {MIN, MIN + 1, -9999, -1002, -1001, -1000, -999, 0, 999, 1000, 1001, 1002, MAX}) {
            CHECK.due("target " + target, mesh.control(1, target, 0, 0), target >= -1000 && target <= 1000);
        }
        for (int gain : new int[] {MIN, MIN + 1, -17, -2, -1, 0, 1, 8, 15, 16, 17, 18, 1000, MAX - 1, MAX}) {
            boolean due = gain >= 0 && gain <= 16;
            CHECK.due("P " + gain, mesh.control(1, 0, gain, 0), due);
            CHECK.due("I " + gain, mesh.control(1, 0, 0, gain), due);
            CHECK.due("P and I " + gain, mesh.control(1, 0, gain, gain), due);
        }
    }

    private static void runLengths() {
        SlottedMesh mesh = new SlottedMesh(2, 8, 1);
        SlottedMesh planned = Meshes.two();
        int time = 0;
        for (int n = -2; n <= 67; n++) {
            boolean due = n >= 1 && n <= 64;
            time += due ? n : 0;
            CHECK.due("run(" + n + ")", mesh.run(n), due ? time : NONE);
            CHECK.due("run(" + n + ") with a plan", planned.run(n), due ? time + 8 : NONE);
        }
        for (int n : new int[] {MIN, MIN + 1, MIN + 64, -65, -64, 128, 65536, MAX - 63, MAX}) {
            CHECK.due("run(" + n + ")", mesh.run(n), NONE);
        }
        CHECK.due("refused ones took no time", mesh.run(1), time + 1);
    }

    private static void parentPlaces() {
        SlottedMesh mesh = Meshes.diamond();
        int[][] parents = {{NONE, NONE}, {0, NONE}, {0, NONE}, {1, 2}};
        for (int node = 0; node < 4; node++) {
            CHECK.due("first of " + node, mesh.parent(node, 0), parents[node][0]);
            CHECK.due("second of " + node, mesh.parent(node, 1), parents[node][1]);
            for (int k : new int[] {MIN, MIN + 1, -2, -1, 2, 3, 4, MAX - 1, MAX}) {
                CHECK.due("parent(" + node + ", " + k + ")", mesh.parent(node, k), NONE);
            }
        }
    }

    private static void countRows() {
        SlottedMesh mesh = Meshes.busy();
        int[] due = {4, 1, 1, 1};
        for (int row : new int[] {MIN, MIN + 1, -4, -2, -1, 0, 1, 2, 3, 4, 5, 8, 100, MAX - 1, MAX}) {
            CHECK.due("count(1, " + row + ")", mesh.count(1, row), row >= 0 && row < 4 ? due[row] : NONE);
        }
    }

    private static void cachedPlaces() {
        SlottedMesh mesh = Meshes.two();
        for (int taken = 0; taken <= 5; taken++) {
            for (int k : new int[] {MIN, MIN + 1, -3, -2, -1, 0, 1, 2, 3, 4, 5, 100, MAX - 1, MAX}) {
                boolean there = k >= 0 && k < Math.min(3, taken);
                String name = "cached(1, " + k + ") of " + taken;
                CHECK.due(name, mesh.cached(1, k), there ? 10 * (taken - k) : MISSING);
                CHECK.due("cached(0, " + k + ")", mesh.cached(0, k), MISSING);
            }
            CHECK.due("latest", mesh.latest(1), taken);
            mesh.sample(1, 10 * (taken + 1));
            mesh.run(8);
        }
    }

    private static void ofTheGateway() {
        SlottedMesh mesh = Meshes.chain();
        mesh.sample(1, 5);
        mesh.sample(2, 6);
        mesh.run(20);
        CHECK.due("latest of 0", mesh.latest(0), 0);
        CHECK.due("cached of 0", mesh.cached(0, 0), MISSING);
        CHECK.due("actuator of 0", mesh.actuator(0), MISSING);
        CHECK.due("parent of 0", mesh.parent(0, 0), NONE);
        CHECK.due("rank of 0", mesh.rank(0), 0);
        CHECK.due("up frames of 0", mesh.count(0, 0), 0);
        CHECK.due("fails of 0", mesh.count(0, 2), 0);
    }

    private static void withoutAPlan() {
        SlottedMesh mesh = new SlottedMesh(6, 24, 4);
        for (int node = -1; node <= 6; node++) {
            CHECK.due("rank", mesh.rank(node), NONE);
            CHECK.due("first parent", mesh.parent(node, 0), NONE);
            CHECK.due("second parent", mesh.parent(node, 1), NONE);
        }
        Meshes.near(mesh, 0, 1, 1, 2, 2, 3, 3, 4);
        CHECK.due("5 is out of reach", mesh.plan(), NONE);
        for (int node = 0; node < 6; node++) {
            CHECK.due("rank after a refused plan", mesh.rank(node), NONE);
            CHECK.due("parent after a refused plan", mesh.parent(node, 0), NONE);
            CHECK.due("cell after a refused plan", mesh.cell(node, 0), 0);
        }
    }
}
