/** "Offsets differ by at most 10": 10 and 11, either way, and far apart, for each kind of cell. */
public final class ClockEdgesTest {
    private static final Check CHECK = new Check();
    private static final int[] OFFSETS = {-60, -21, -12, -11, -10, -9, -1, 0, 1, 9, 10, 11, 12, 21, 60};
    /** Offsets of 1 and of 2 in a chain. */
    private static final int[][] PAIRS = {{5, -5}, {5, -6}, {-5, 5}, {-6, 5}, {20, 30}, {20, 31}, {30, 20}, {31, 20},
        {-20, -30}, {-20, -31}, {-30, -20}, {-31, -20}, {40, 40}, {40, -40}, {-3, 7}, {-3, 8}};

    public static void main(String[] args) {
        for (int offset : OFFSETS) {
            advertOfTheGateway(offset);
            upToTheGateway(offset);
            downFromTheGateway(offset);
        }
        for (int[] pair : PAIRS) {
            advertOfAFieldNode(pair[0], pair[1]);
            upToAFieldNode(pair[0], pair[1]);
            downFromAFieldNode(pair[0], pair[1]);
        }
        upToASecondParent(10, true);
        upToASecondParent(11, false);
        joiningFromFarApart();
        theDriftComesBeforeTheCells();
        theGatewayKeepsItsTime();
        offNodesKeepTheirTime();
        CHECK.end("ClockEdgesTest");
    }

    private static boolean close(int a, int b) {
        return Math.abs(a - b) <= 10;
    }

    /** Two nodes, slots 0 and 1 adverts, 2 up, 3 down; 1 is joined, at time 4. */
    private static SlottedMesh two(long frames) {
        SlottedMesh mesh = new SlottedMesh(2, 24, 1);
        mesh.pair(0, 1, true);
        mesh.plan();
        mesh.start(1);
        mesh.radio(0, frames, -1L);
        return mesh;
    }

    /** Brings nodes 1 .. to offsets within a number of slots, and ends their drift. */
    private static void drive(SlottedMesh mesh, int slots, int... offsets) {
        for (int k = 0; k < slots; k++) {
            for (int node = 1; node <= offsets.length; node++) {
                int way = offsets[node - 1] - mesh.offset(node);
                mesh.drift(node, Math.max(-3, Math.min(3, way)));
            }
            mesh.run(1);
        }
        for (int node = 1; node <= offsets.length; node++) {
            mesh.drift(node, 0);
            CHECK.due("driven", mesh.offset(node), offsets[node - 1]);
        }
    }

    private static void advertOfTheGateway(int offset) {
        SlottedMesh mesh = two(-1L);
        mesh.run(4);
        drive(mesh, 20, offset);
        mesh.run(1);
        CHECK.due("behind the advert at " + offset, mesh.offset(1), close(offset, 0) ? 0 : offset);
        CHECK.due("current", mesh.current(1), true);
        mesh.run(1);
        CHECK.due("its own advert is nothing to 0", mesh.offset(0), 0);
    }

    private static void upToTheGateway(int offset) {
        SlottedMesh mesh = two(Meshes.allBut(24));
        mesh.run(4);
        drive(mesh, 20, offset);
        mesh.run(2);
        mesh.sample(1, 5);
        mesh.run(1);
        boolean heard = close(offset, 0);
        CHECK.due("sent at " + offset, mesh.sent(), 1);
        CHECK.due("taken at " + offset, mesh.latest(1), heard ? 1 : 0);
        CHECK.due("confirmed at " + offset, mesh.count(1, 0), heard ? 0 : 1);
        CHECK.due("fails at " + offset, mesh.count(1, 2), heard ? 0 : 1);
        CHECK.due("the clock then", mesh.offset(1), heard ? 0 : offset);
    }

    private static void downFromTheGateway(int offset) {
        SlottedMesh mesh = two(Meshes.allBut(3, 24));
        mesh.control(1, 16, 16, 0);
        mesh.sample(1, 0);
        mesh.run(4);
        CHECK.due("the command waits", mesh.count(0, 3), 1);
        drive(mesh, 20, offset);
        mesh.run(3);
        CHECK.due("the clock before", mesh.offset(1), offset);
        mesh.run(1);
        boolean heard = close(offset, 0);
        CHECK.due("sent at " + offset, mesh.sent(), 3);
        CHECK.due("taken at " + offset, mesh.actuator(1), heard ? 16 : 0);
        CHECK.due("confirmed at " + offset, mesh.count(0, 1), heard ? 0 : 1);
        CHECK.due("tries at " + offset, mesh.count(0, 3), heard ? 0 : 2);
        CHECK.due("the clock then", mesh.offset(1), heard ? 0 : offset);
    }

    /** Slots: 0 to 2 adverts, 3 up 1 to 0, 4 down 0 to 1, 5 up 2 to 1, 6 down 1 to 2. */
    private static SlottedMesh chain(long frames) {
        SlottedMesh mesh = new SlottedMesh(3, 24, 1);
        Meshes.near(mesh, 0, 1, 1, 2);
        mesh.plan();
        Meshes.startAll(mesh, 2);
        mesh.radio(0, frames, -1L);
        return mesh;
    }

    private static void advertOfAFieldNode(int first, int second) {
        SlottedMesh mesh = chain(Meshes.allBut(24));
        mesh.run(4);
        drive(mesh, 20, first, second);
        mesh.run(2);
        String where = " at " + first + " and " + second;
        CHECK.due("2 behind the advert of 1" + where, mesh.offset(2), close(first, second) ? first : second);
        mesh.run(1);
        CHECK.due("1 behind the advert of 2" + where, mesh.offset(1), first);
        CHECK.due("current", mesh.current(2), true);
    }

    private static void upToAFieldNode(int first, int second) {
        SlottedMesh mesh = chain(Meshes.allBut(24, 25));
        mesh.run(4);
        drive(mesh, 20, first, second);
        mesh.run(5);
        mesh.sample(2, 5);
        mesh.run(1);
        boolean heard = close(first, second);
        String where = " at " + first + " and " + second;
        CHECK.due("taken" + where, mesh.count(1, 0), heard ? 1 : 0);
        CHECK.due("confirmed" + where, mesh.count(2, 0), heard ? 0 : 1);
        CHECK.due("the clock of 2" + where, mesh.offset(2), heard ? first : second);
        CHECK.due("the clock of 1" + where, mesh.offset(1), first);
    }

    private static void downFromAFieldNode(int first, int second) {
        SlottedMesh mesh = chain(Meshes.allBut(30, 48, 49));
        mesh.control(2, 16, 16, 0);
        mesh.sample(2, 0);
        mesh.run(31);
        CHECK.due("the command waits at 1", mesh.count(1, 3), 1);
        drive(mesh, 17, first, second);
        mesh.run(6);
        CHECK.due("the clock before", mesh.offset(2), second);
        mesh.run(1);
        boolean heard = close(first, second);
        String where = " at " + first + " and " + second;
        CHECK.due("taken" + where, mesh.actuator(2), heard ? 16 : 0);
        CHECK.due("confirmed" + where, mesh.count(1, 1), heard ? 0 : 1);
        CHECK.due("the clock of 2" + where, mesh.offset(2), heard ? first : second);
        CHECK.due("the clock of 1" + where, mesh.offset(1), first);
    }

    /** Slots: 0 to 3 adverts, .. 8 up 3 to 1, 9 up 3 to 2: the clock of 3 is apart from that of 2. */
    private static void upToASecondParent(int apart, boolean heard) {
        for (int sign = -1; sign <= 1; sign += 2) {
            SlottedMesh mesh = new SlottedMesh(4, 24, 1);
            Meshes.near(mesh, 0, 1, 0, 2, 1, 3, 2, 3);
            mesh.plan();
            Meshes.startAll(mesh, 3);
            mesh.radio(0, Meshes.allBut(24, 25), -1L);
            mesh.run(10);
            drive(mesh, 14, 0, 0, sign * apart);
            mesh.run(9);
            mesh.sample(3, 5);
            mesh.run(1);
            CHECK.due("heard by the second parent", mesh.count(2, 0), heard ? 1 : 0);
            CHECK.due("confirmed by it", mesh.count(3, 0), heard ? 0 : 1);
            CHECK.due("it sets no clock", mesh.offset(3), sign * apart);
        }
    }

    private static void joiningFromFarApart() {
        for (int drift : new int[] {-3, -1, 1, 3}) {
            SlottedMesh mesh = chain(0L);
            mesh.drift(1, drift);
            mesh.drift(2, -drift);
            mesh.run(64);
            mesh.run(64);
            mesh.run(16);
            CHECK.due("time 144: far apart", mesh.offset(1), 144 * drift);
            mesh.radio(0, -1L, -1L);
            mesh.drift(1, 0);
            mesh.drift(2, 0);
            mesh.run(1);
            CHECK.due("1 joins", mesh.current(1), true);
            CHECK.due("with 0's time", mesh.offset(1), 0);
            CHECK.due("2 is not near 0", mesh.offset(2), -144 * drift);
            mesh.drift(1, drift);
            mesh.run(1);
            CHECK.due("2 joins", mesh.current(2), true);
            CHECK.due("with 1's time", mesh.offset(2), drift);
        }
    }

    private static void theDriftComesBeforeTheCells() {
        int[][] rows = {{10, 1, 11}, {11, -1, 0}, {-10, -1, -11}, {-11, 1, 0}, {13, -3, 0}, {13, -2, 11}, {0, 3, 0},
            {8, 3, 11}, {7, 3, 0}};
        for (int[] row : rows) {
            SlottedMesh mesh = two(-1L);
            mesh.run(4);
            drive(mesh, 20, row[0]);
            mesh.drift(1, row[1]);
            mesh.run(1);
            CHECK.due("advert at " + row[0] + " and drift " + row[1], mesh.offset(1), row[2]);
        }
    }

    private static void theGatewayKeepsItsTime() {
        SlottedMesh mesh = Meshes.chain();
        mesh.drift(1, 3);
        mesh.drift(2, -3);
        for (int k = 0; k < 60; k++) {
            mesh.sample(1 + k % 2, k);
            mesh.run(7);
            CHECK.due("0's offset", mesh.offset(0), 0);
        }
    }

    private static void offNodesKeepTheirTime() {
        SlottedMesh mesh = Meshes.chain();
        for (int node = 1; node <= 2; node++) {
            mesh.drift(node, 3);
            mesh.run(5);
            mesh.stop(node);
            CHECK.due("stopped", mesh.offset(node), 0);
            mesh.run(64);
            CHECK.due("OFF", mesh.offset(node), 0);
        }
    }
}
