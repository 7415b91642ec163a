/** Promise 1: a new object. */
public final class NewObjectTest {
    private static final Check CHECK = new Check();

    public static void main(String[] args) {
        sizesAreTheNearest();
        nothingIsThereAtFirst();
        controlsAreZeroAtFirst();
        allBitsAreOneAtFirst();
        CHECK.end("NewObjectTest");
    }

    private static void sizesAreTheNearest() {
        size(2, 8, 1, 2, 8, 1);
        size(6, 24, 4, 6, 24, 4);
        size(4, 11, 3, 4, 11, 3);
        size(1, 7, 0, 2, 8, 1);
        size(7, 25, 5, 6, 24, 4);
        size(Integer.MIN_VALUE, Integer.MIN_VALUE, Integer.MIN_VALUE, 2, 8, 1);
        size(Integer.MAX_VALUE, Integer.MAX_VALUE, Integer.MAX_VALUE, 6, 24, 4);
    }

    private static void size(int nodes, int slots, int channels, int n, int s, int c) {
        SlottedMesh mesh = new SlottedMesh(nodes, slots, channels);
        String name = "new(" + nodes + ", " + slots + ", " + channels + ")";
        CHECK.due(name + " last node", mesh.offset(n - 1), 0);
        CHECK.due(name + " node too many", mesh.offset(n), SlottedMesh.MISSING);
        CHECK.due(name + " last cell", mesh.cell(s - 1, c - 1), 0);
        CHECK.due(name + " slot too many", mesh.cell(s, c - 1), SlottedMesh.NONE);
        CHECK.due(name + " channel too many", mesh.cell(s - 1, c), SlottedMesh.NONE);
        CHECK.due(name + " radio of the last", mesh.radio(c - 1, 0L, 0L), true);
        CHECK.due(name + " radio too many", mesh.radio(c, 0L, 0L), false);
    }

    private static void nothingIsThereAtFirst() {
        SlottedMesh mesh = new SlottedMesh(6, 24, 4);
        CHECK.due("plan of none near", mesh.plan(), SlottedMesh.NONE);
        for (int node = 0; node < 6; node++) {
            CHECK.due("current at first", mesh.current(node), node == 0);
            CHECK.due("rank at first", mesh.rank(node), SlottedMesh.NONE);
            CHECK.due("parent at first", mesh.parent(node, 0), SlottedMesh.NONE);
            CHECK.due("offset at first", mesh.offset(node), 0);
            CHECK.due("latest at first", mesh.latest(node), 0);
            CHECK.due("actuator at first", mesh.actuator(node), node == 0 ? SlottedMesh.MISSING : 0);
            CHECK.due("cached at first", mesh.cached(node, 0), SlottedMesh.MISSING);
            for (int row = 0; row < 4; row++) {
                CHECK.due("count at first", mesh.count(node, row), 0);
            }
            for (int other = 0; other < 6; other++) {
                CHECK.due("none near at first", mesh.pair(node, other, false), false);
            }
        }
        CHECK.due("sent at first", mesh.sent(), 0);
        CHECK.due("time at first", mesh.run(1), 1);
        CHECK.due("0 is started", mesh.start(0), false);
        for (int node = 1; node < 6; node++) {
            CHECK.due("the others are off", mesh.start(node), true);
        }
        mesh.run(5);
        CHECK.due("drift at first", mesh.offset(1), 0);
    }

    private static void controlsAreZeroAtFirst() {
        SlottedMesh mesh = Meshes.two();
        mesh.sample(1, 160);
        mesh.run(8);
        CHECK.due("the first command is 0", mesh.actuator(1), 0);
        CHECK.due("it is sent all the same", mesh.sent(), 2);
        mesh.control(1, 0, 0, 1);
        mesh.sample(1, 0);
        mesh.run(8);
        CHECK.due("target was 0: SUM is -160", mesh.actuator(1), -10);
    }

    private static void allBitsAreOneAtFirst() {
        for (int channels = 1; channels <= 4; channels++) {
            SlottedMesh mesh = new SlottedMesh(2, 9, channels);
            mesh.pair(0, 1, true);
            mesh.plan();
            mesh.start(1);
            mesh.run(9);
            // Nine slots and 64 bits: the up cell comes to each bit once.
            for (int k = 1; k <= 64; k++) {
                mesh.sample(1, k);
                mesh.run(9);
                CHECK.due("frame and confirmation heard", mesh.count(1, 0) + mesh.count(1, 2), 0);
                CHECK.due("command confirmed", mesh.count(0, 1) + mesh.count(0, 3), 0);
                CHECK.due("taken", mesh.latest(1), k);
            }
        }
    }
}
