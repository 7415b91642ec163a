import java.util.function.ToLongFunction;

/**
 * "A call that is refused changes nothing": each way in which each call can be refused, just outside its
 * boundary and far outside it, and that calls that only look change nothing either.
 */
public final class RefusedTest {
    private static final Check CHECK = new Check();
    private static final Unchanged UNCHANGED = new Unchanged(CHECK);
    private static final int MIN = Integer.MIN_VALUE;
    private static final int MAX = Integer.MAX_VALUE;
    private static final int[] NO_NODES = {MIN, -2, -1, 5, 6, 10, MAX};
    private static final Recipe BUSY = new Recipe("busy", 5, 14, 2, Meshes::busy);
    private static final Recipe BARE = new Recipe("bare", 5, 14, 2, RefusedTest::bare);
    private static final Recipe CUT = new Recipe("cut", 5, 14, 2, RefusedTest::cut);
    private static final Recipe CROWDED = new Recipe("crowded", 4, 10, 1, RefusedTest::crowded);

    public static void main(String[] args) {
        theBusyMeshIsBusy();
        pairIsRefused();
        planIsRefused();
        startIsRefused();
        stopIsRefused();
        driftIsRefused();
        radioIsRefused();
        sampleIsRefused();
        controlIsRefused();
        runIsRefused();
        looksChangeNothing();
        wrongLooksChangeNothing();
        CHECK.end("RefusedTest");
    }

    /** No plan yet, but started nodes, frames, drifts and loops. */
    private static SlottedMesh bare() {
        SlottedMesh mesh = new SlottedMesh(5, 14, 2);
        Meshes.near(mesh, 0, 1, 1, 2, 3, 4);
        Meshes.startAll(mesh, 3);
        mesh.drift(1, 3);
        mesh.drift(2, -2);
        mesh.control(1, 100, 3, 5);
        mesh.sample(1, 5);
        mesh.sample(2, 6);
        mesh.run(9);
        return mesh;
    }

    /** Busy, with a plan, but 0 is out of reach now. */
    private static SlottedMesh cut() {
        SlottedMesh mesh = Meshes.busy();
        mesh.pair(0, 1, false);
        mesh.pair(0, 2, false);
        mesh.pair(0, 4, false);
        return mesh;
    }

    /** A plan of ten cells that fill ten slots; the pairs ask for an eleventh now. */
    private static SlottedMesh crowded() {
        SlottedMesh mesh = new SlottedMesh(4, 10, 1);
        Meshes.near(mesh, 0, 1, 0, 2, 1, 3);
        mesh.plan();
        Meshes.startAll(mesh, 3);
        mesh.run(10);
        mesh.drift(3, 1);
        mesh.sample(3, 5);
        mesh.sample(1, 6);
        mesh.radio(0, Meshes.allBut(15, 18), -1L);
        mesh.run(9);
        mesh.pair(2, 3, true);
        return mesh;
    }

    private static void refused(String name, ToLongFunction<SlottedMesh> call, long due) {
        UNCHANGED.due(BUSY, name, call, due);
    }

    private static long one(boolean answer) {
        return answer ? 1L : 0L;
    }

    private static void theBusyMeshIsBusy() {
        SlottedMesh mesh = Meshes.busy();
        int[][] counts = {{0, 1, 0, 1}, {4, 1, 1, 1}, {2, 0, 0, 0}, {0, 0, 0, 0}, {0, 0, 0, 0}};
        for (int node = 0; node < 5; node++) {
            for (int row = 0; row < 4; row++) {
                CHECK.due("count(" + node + ", " + row + ")", mesh.count(node, row), counts[node][row]);
            }
            CHECK.due("current " + node, mesh.current(node), node == 0 || node == 1 || node == 3);
        }
        CHECK.due("cached of 3", mesh.cached(3, 1), 40);
        CHECK.due("latest of 2", mesh.latest(2), 2);
        CHECK.due("an actuator", mesh.actuator(3) != 0, true);
        CHECK.due("an offset", mesh.offset(3) != 0, true);
        CHECK.due("4 is OFF", mesh.start(4), true);
        CHECK.due("time", mesh.run(1), 67);
        SlottedMesh crowded = crowded();
        CHECK.due("crowded: a command waits", crowded.count(0, 1) + crowded.count(1, 1), 1);
        CHECK.due("crowded: 3 is current", crowded.current(3), true);
    }

    private static void pairIsRefused() {
        for (int no : NO_NODES) {
            for (int k = 0; k < 5; k++) {
                int node = k;
                refused("pair(" + no + ", " + node + ", true)", m -> one(m.pair(no, node, true)), 0);
                refused("pair(" + node + ", " + no + ", true)", m -> one(m.pair(node, no, true)), 0);
                refused("pair(" + node + ", " + no + ", false)", m -> one(m.pair(node, no, false)), 0);
            }
            refused("pair(" + no + ", same, true)", m -> one(m.pair(no, no, true)), 0);
            refused("pair(" + no + ", same, false)", m -> one(m.pair(no, no, false)), 0);
        }
        for (int k = 0; k < 5; k++) {
            int node = k;
            refused("a node near itself", m -> one(m.pair(node, node, true)), 0);
            refused("a node not near itself", m -> one(m.pair(node, node, false)), 0);
        }
        int[][] near = {{0, 1}, {0, 2}, {1, 3}, {2, 3}, {3, 4}, {0, 4}};
        for (int[] pair : near) {
            refused("near already", m -> one(m.pair(pair[0], pair[1], true)), 0);
            refused("near already, turned", m -> one(m.pair(pair[1], pair[0], true)), 0);
        }
        int[][] apart = {{0, 3}, {1, 2}, {1, 4}, {2, 4}};
        for (int[] pair : apart) {
            refused("not near already", m -> one(m.pair(pair[0], pair[1], false)), 0);
            refused("not near already, turned", m -> one(m.pair(pair[1], pair[0], false)), 0);
        }
    }

    private static void planIsRefused() {
        UNCHANGED.due(BARE, "plan, 3 and 4 out of reach", SlottedMesh::plan, SlottedMesh.NONE);
        UNCHANGED.due(CUT, "plan, all out of reach", SlottedMesh::plan, SlottedMesh.NONE);
        UNCHANGED.due(CROWDED, "plan without places", SlottedMesh::plan, SlottedMesh.NONE);
    }

    private static void startIsRefused() {
        for (int no : NO_NODES) {
            refused("start(" + no + ")", m -> one(m.start(no)), 0);
        }
        refused("start of 0", m -> one(m.start(0)), 0);
        refused("start of a current node", m -> one(m.start(1)), 0);
        refused("start of a started node", m -> one(m.start(2)), 0);
    }

    private static void stopIsRefused() {
        for (int no : NO_NODES) {
            refused("stop(" + no + ")", m -> one(m.stop(no)), 0);
        }
        refused("stop of 0", m -> one(m.stop(0)), 0);
        refused("stop of an OFF node", m -> one(m.stop(4)), 0);
    }

    private static void driftIsRefused() {
        for (int no : NO_NODES) {
            refused("drift(" + no + ", 2)", m -> one(m.drift(no, 2)), 0);
        }
        for (int d = -3; d <= 3; d++) {
            int drift = d;
            refused("drift(0, " + drift + ")", m -> one(m.drift(0, drift)), 0);
        }
        for (int drift : new int[] {MIN, -100, -5, -4, 4, 5, 100, MAX}) {
            for (int k = 0; k < 5; k++) {
                int node = k;
                refused("drift(" + node + ", " + drift + ")", m -> one(m.drift(node, drift)), 0);
            }
        }
    }

    private static void radioIsRefused() {
        for (int channel : new int[] {MIN, -3, -2, -1, 2, 3, 4, MAX}) {
            refused("radio(" + channel + ", 0, 0)", m -> one(m.radio(channel, 0L, 0L)), 0);
            refused("radio(" + channel + ", all)", m -> one(m.radio(channel, -1L, -1L)), 0);
        }
    }

    private static void sampleIsRefused() {
        for (int no : NO_NODES) {
            refused("sample(" + no + ", 0)", m -> m.sample(no, 0), SlottedMesh.NONE);
        }
        refused("sample of 0", m -> m.sample(0, 0), SlottedMesh.NONE);
        refused("sample of an OFF node", m -> m.sample(4, 0), SlottedMesh.NONE);
        refused("sample with four up frames", m -> m.sample(1, 0), SlottedMesh.NONE);
        for (int value : new int[] {MIN, -9999, -1002, -1001, 1001, 1002, 9999, MAX}) {
            for (int k = 0; k < 5; k++) {
                int node = k;
                refused("sample(" + node + ", " + value + ")", m -> m.sample(node, value), SlottedMesh.NONE);
            }
        }
    }

    private static void controlIsRefused() {
        for (int no : NO_NODES) {
            refused("control(" + no + ")", m -> one(m.control(no, 7, 8, 9)), 0);
        }
        refused("control of 0", m -> one(m.control(0, 7, 8, 9)), 0);
        for (int target : new int[] {MIN, -2000, -1002, -1001, 1001, 1002, 2000, MAX}) {
            refused("target " + target, m -> one(m.control(2, target, 8, 9)), 0);
            refused("target " + target + " of an OFF node", m -> one(m.control(4, target, 8, 9)), 0);
        }
        for (int gain : new int[] {MIN, -16, -2, -1, 17, 18, 32, MAX}) {
            refused("P " + gain, m -> one(m.control(2, 7, gain, 9)), 0);
            refused("I " + gain, m -> one(m.control(2, 7, 8, gain)), 0);
            refused("P and I " + gain, m -> one(m.control(3, 7, gain, gain)), 0);
        }
    }

    private static void runIsRefused() {
        for (int n : new int[] {MIN, -64, -2, -1, 0, 65, 66, 128, MAX}) {
            refused("run(" + n + ")", m -> m.run(n), SlottedMesh.NONE);
            UNCHANGED.due(BARE, "run(" + n + ")", m -> m.run(n), SlottedMesh.NONE);
        }
    }

    private static void looksChangeNothing() {
        refused("rank", m -> m.rank(3), 2);
        refused("first parent", m -> m.parent(3, 0), 1);
        refused("second parent", m -> m.parent(3, 1), 2);
        refused("cell", m -> m.cell(5, 0), 210);
        refused("current", m -> one(m.current(1)), 1);
        refused("offset", m -> m.offset(0), 0);
        refused("count", m -> m.count(1, 0), 4);
        refused("cached", m -> m.cached(3, 1), 40);
        refused("latest", m -> m.latest(2), 2);
        refused("actuator", m -> m.actuator(4), 0);
        UNCHANGED.due(BARE, "sent", SlottedMesh::sent, 0);
    }

    private static void wrongLooksChangeNothing() {
        for (int no : NO_NODES) {
            refused("rank(" + no + ")", m -> m.rank(no), SlottedMesh.NONE);
            refused("parent(" + no + ", 0)", m -> m.parent(no, 0), SlottedMesh.NONE);
            refused("parent(3, " + no + ")", m -> m.parent(3, no), SlottedMesh.NONE);
            refused("cell(0, " + no + ")", m -> m.cell(0, no), SlottedMesh.NONE);
            refused("current(" + no + ")", m -> one(m.current(no)), 0);
            refused("offset(" + no + ")", m -> m.offset(no), SlottedMesh.MISSING);
            refused("count(" + no + ", 0)", m -> m.count(no, 0), SlottedMesh.NONE);
            refused("count(1, " + no + ")", m -> m.count(1, no), SlottedMesh.NONE);
            refused("cached(" + no + ", 0)", m -> m.cached(no, 0), SlottedMesh.MISSING);
            refused("cached(3, " + no + ")", m -> m.cached(3, no), SlottedMesh.MISSING);
            refused("latest(" + no + ")", m -> m.latest(no), SlottedMesh.NONE);
            refused("actuator(" + no + ")", m -> m.actuator(no), SlottedMesh.MISSING);
        }
        refused("cell(14, 0)", m -> m.cell(14, 0), SlottedMesh.NONE);
        refused("cell(-1, 0)", m -> m.cell(-1, 0), SlottedMesh.NONE);
    }
}
