/** Promise 1's boundaries: "n nodes (2 .. 6), S slots (8 .. 24), C channels (1 .. 4): the nearest of these". */
public final class SizeEdgesTest {
    private static final Check CHECK = new Check();
    private static final int MIN = Integer.MIN_VALUE;
    private static final int MAX = Integer.MAX_VALUE;

    public static void main(String[] args) {
        nodesAreTheNearest();
        slotsAreTheNearest();
        channelsAreTheNearest();
        allAtOnce();
        CHECK.end("SizeEdgesTest");
    }

    private static void nodesAreTheNearest() {
        for (int nodes : new int[] {MIN, MIN + 1, -6, -1, 0, 1, 2, 3, 4, 5, 6, 7, 8, 600, MAX - 1, MAX}) {
            int due = Math.max(2, Math.min(6, nodes));
            SlottedMesh mesh = new SlottedMesh(nodes, 24, 2);
            String name = "new(" + nodes + ", 24, 2)";
            CHECK.due(name + ": a pair with the last", mesh.pair(0, due - 1, true), true);
            CHECK.due(name + ": a pair with one more", mesh.pair(0, due, true), false);
            CHECK.due(name + ": start of the last", mesh.start(due - 1), true);
            CHECK.due(name + ": start of one more", mesh.start(due), false);
            for (int node = 1; node < due - 1; node++) {
                CHECK.due(name + ": no plan without " + node, mesh.plan(), SlottedMesh.NONE);
                mesh.pair(0, node, true);
            }
            CHECK.due(name + ": a plan of all", mesh.plan(), due + 2 * (due - 1));
        }
    }

    private static void slotsAreTheNearest() {
        for (int slots : new int[] {MIN, MIN + 1, -8, -1, 0, 1, 7, 8, 9, 16, 23, 24, 25, 26, 2400, MAX - 1, MAX}) {
            int due = Math.max(8, Math.min(24, slots));
            SlottedMesh mesh = new SlottedMesh(2, slots, 1);
            String name = "new(2, " + slots + ", 1)";
            CHECK.due(name + ": the last slot", mesh.cell(due - 1, 0), 0);
            CHECK.due(name + ": one more", mesh.cell(due, 0), SlottedMesh.NONE);
            mesh.pair(0, 1, true);
            mesh.plan();
            mesh.run(1);
            mesh.start(1);
            mesh.run(due - 1);
            CHECK.due(name + ": before the advert comes again", mesh.current(1), false);
            mesh.run(1);
            CHECK.due(name + ": the advert comes again", mesh.current(1), true);
        }
    }

    private static void channelsAreTheNearest() {
        for (int channels : new int[] {MIN, MIN + 1, -4, -1, 0, 1, 2, 3, 4, 5, 6, 400, MAX - 1, MAX}) {
            int due = Math.max(1, Math.min(4, channels));
            String name = "new(2, 9, " + channels + ")";
            for (int shut = 0; shut < due; shut++) {
                SlottedMesh mesh = new SlottedMesh(2, 9, channels);
                CHECK.due(name + ": the last channel", mesh.cell(0, due - 1), 0);
                CHECK.due(name + ": one more", mesh.cell(0, due), SlottedMesh.NONE);
                CHECK.due(name + ": radio of one more", mesh.radio(due, 0L, 0L), false);
                CHECK.due(name + ": radio of a channel", mesh.radio(shut, 0L, 0L), true);
                mesh.pair(0, 1, true);
                mesh.plan();
                for (int k = 0; k < 5; k++) {
                    mesh.start(1);
                    int time = mesh.run(1) - 1;
                    CHECK.due(name + ": the advert at " + time, mesh.current(1), time % due != shut);
                    mesh.stop(1);
                    mesh.run(8);
                }
            }
        }
    }

    private static void allAtOnce() {
        int[][] rows = {{1, 7, 0, 2, 8, 1}, {7, 25, 5, 6, 24, 4}, {MIN, MAX, MIN, 2, 24, 1},
            {MAX, MIN, MAX, 6, 8, 4}, {24, 4, 6, 6, 8, 4}, {4, 6, 24, 4, 8, 4}};
        for (int[] row : rows) {
            SlottedMesh mesh = new SlottedMesh(row[0], row[1], row[2]);
            String name = "new(" + row[0] + ", " + row[1] + ", " + row[2] + ")";
            CHECK.due(name + ": last node", mesh.offset(row[3] - 1), 0);
            CHECK.due(name + ": one more", mesh.offset(row[3]), SlottedMesh.MISSING);
            CHECK.due(name + ": last cell", mesh.cell(row[4] - 1, row[5] - 1), 0);
            CHECK.due(name + ": one more slot", mesh.cell(row[4], row[5] - 1), SlottedMesh.NONE);
            CHECK.due(name + ": one more channel", mesh.cell(row[4] - 1, row[5]), SlottedMesh.NONE);
        }
    }
}
