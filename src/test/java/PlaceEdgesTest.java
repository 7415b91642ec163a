import java.util.Arrays;

/**
 * The boundaries of a plan: the first slot and the least channel for a cell, slots and channels that are full,
 * the last place there is, and when there is no plan. All places were worked out by hand from the document.
 */
public final class PlaceEdgesTest {
    private static final Check CHECK = new Check();
    private static final int NONE = SlottedMesh.NONE;
    private static final int[] CHAIN = {0, 1, 1, 2, 2, 3, 3, 4, 4, 5};
    private static final int[] STAR = {0, 1, 0, 2, 0, 3, 0, 4, 0, 5};
    private static final int[] DIAMOND = {0, 1, 0, 2, 1, 3, 2, 3};
    /** 1 and 2 near 0, and 3, 4 and 5 near both: nineteen cells, the most there are. */
    private static final int[] FULL = {0, 1, 0, 2, 1, 3, 2, 3, 1, 4, 2, 4, 1, 5, 2, 5};

    public static void main(String[] args) {
        theLastPlaceThereIs();
        eachKindOfCellMayBeTheOneWithoutAPlace();
        adverts();
        chainsShareSlots();
        aChainWithItsNumbersTurned();
        aFullPlanOfOneChannel();
        aFullPlanOfTwoChannels();
        advertsFillAllChannelsAndCountOnce();
        oneNodeOutOfReach();
        anIslandOutOfReach();
        ranksAreTheLeastNumberOfSteps();
        parentsAreTheTwoLeast();
        aNewPlanLeavesNothingOfTheOld();
        CHECK.end("PlaceEdgesTest");
    }

    private static SlottedMesh mesh(int nodes, int slots, int channels, int[] pairs) {
        SlottedMesh mesh = new SlottedMesh(nodes, slots, channels);
        Meshes.near(mesh, pairs);
        return mesh;
    }

    private static void fits(String name, int nodes, int[] pairs, int cells, int[] leastSlots) {
        for (int channels = 1; channels <= 4; channels++) {
            for (int slots = 8; slots <= 24; slots++) {
                SlottedMesh mesh = mesh(nodes, slots, channels, pairs);
                boolean due = slots >= leastSlots[channels - 1];
                String where = name + " in " + slots + " slots of " + channels;
                CHECK.due(where, mesh.plan(), due ? cells : NONE);
                CHECK.due(where + ": a rank", mesh.rank(1), due ? 1 : NONE);
                CHECK.due(where + ": a cell", mesh.cell(0, 0), due ? 100 : 0);
                CHECK.due(where + ": a parent", mesh.parent(1, 0), due ? 0 : NONE);
            }
        }
    }

    private static void theLastPlaceThereIs() {
        fits("a chain of six", 6, CHAIN, 16, new int[] {16, 12, 10, 10});
        fits("a star of six", 6, STAR, 16, new int[] {16, 16, 16, 16});
        fits("a diamond", 4, DIAMOND, 11, new int[] {11, 8, 8, 8});
        fits("the fullest", 6, FULL, 19, new int[] {19, 14, 14, 14});
        fits("two nodes", 2, new int[] {0, 1}, 4, new int[] {8, 8, 8, 8});
    }

    private static void eachKindOfCellMayBeTheOneWithoutAPlace() {
        int[] due = {NONE, NONE, NONE, 11};
        String[] missing = {"UP to the first parent", "UP to the second parent", "DOWN", "none"};
        for (int k = 0; k < 4; k++) {
            CHECK.due("without a place: " + missing[k], mesh(4, 8 + k, 1, DIAMOND).plan(), due[k]);
        }
    }

    private static void adverts() {
        for (int nodes = 2; nodes <= 6; nodes++) {
            SlottedMesh mesh = new SlottedMesh(nodes, 24, 2);
            for (int node = 1; node < nodes; node++) {
                mesh.pair(0, node, true);
            }
            CHECK.due("a star of " + nodes, mesh.plan(), 3 * nodes - 2);
            for (int node = 0; node < nodes; node++) {
                CHECK.due("advert of " + node, mesh.cell(node, 0), 100 + 10 * node);
                CHECK.due("advert of " + node, mesh.cell(node, 1), 100 + 10 * node);
            }
            CHECK.due("the first slot behind them", mesh.cell(nodes, 0), 210);
            CHECK.due("its other channel", mesh.cell(nodes, 1), 0);
            CHECK.due("the last cell", mesh.cell(3 * nodes - 3, 0), 300 + nodes - 1);
            CHECK.due("the slot behind the last", mesh.cell(3 * nodes - 2, 0), 0);
        }
    }

    /** Compares all slots from one on with rows of cells; what stands in no row is empty. */
    private static void cells(String name, SlottedMesh mesh, int from, int slots, int channels, int[][] rows) {
        for (int slot = from; slot < slots; slot++) {
            int[] row = slot - from < rows.length ? rows[slot - from] : new int[0];
            int[] due = Arrays.copyOf(row, channels);
            for (int channel = 0; channel < channels; channel++) {
                String where = name + ": cell(" + slot + ", " + channel + ")";
                CHECK.due(where, mesh.cell(slot, channel), due[channel]);
            }
        }
    }

    private static void chainsShareSlots() {
        int[][][] rows = {
            {{210}, {301}, {221}, {312}, {232}, {323}, {243}, {334}, {254}, {345}},
            {{210, 232}, {301, 323}, {221, 243}, {312, 334}, {254}, {345}},
            {{210, 232, 254}, {301, 323, 345}, {221, 243}, {312, 334}},
            {{210, 232, 254}, {301, 323, 345}, {221, 243}, {312, 334}}};
        for (int channels = 1; channels <= 4; channels++) {
            SlottedMesh mesh = mesh(6, 24, channels, CHAIN);
            CHECK.due("a chain on " + channels, mesh.plan(), 16);
            cells("a chain on " + channels, mesh, 6, 24, channels, rows[channels - 1]);
        }
    }

    private static void aChainWithItsNumbersTurned() {
        SlottedMesh mesh = mesh(6, 10, 3, new int[] {1, 2, 2, 3, 3, 4, 4, 5, 5, 0});
        CHECK.due("turned", mesh.plan(), 16);
        int[] order = {0, 5, 4, 3, 2, 1};
        for (int slot = 0; slot < 6; slot++) {
            CHECK.due("adverts go by rank", mesh.cell(slot, 2), 100 + 10 * order[slot]);
            CHECK.due("rank", mesh.rank(order[slot]), slot);
        }
        cells("turned", mesh, 6, 10, 3, new int[][] {{250, 234, 212}, {305, 343, 321}, {245, 223}, {354, 332}});
    }

    private static void aFullPlanOfOneChannel() {
        SlottedMesh mesh = mesh(6, 19, 1, FULL);
        CHECK.due("nineteen", mesh.plan(), 19);
        int[] due = {100, 110, 120, 130, 140, 150, 210, 301, 220, 302, 231, 232, 313, 241, 242, 314, 251, 252, 315};
        for (int slot = 0; slot < 19; slot++) {
            CHECK.due("cell(" + slot + ", 0)", mesh.cell(slot, 0), due[slot]);
        }
        CHECK.due("no more slots", mesh.cell(19, 0), NONE);
    }

    private static void aFullPlanOfTwoChannels() {
        SlottedMesh mesh = mesh(6, 14, 2, FULL);
        CHECK.due("nineteen", mesh.plan(), 19);
        cells("the fullest", mesh, 6, 14, 2, new int[][] {{210, 232}, {301, 242}, {220, 231}, {302, 313},
            {241, 252}, {314}, {251}, {315}});
    }

    private static void advertsFillAllChannelsAndCountOnce() {
        for (int channels = 1; channels <= 4; channels++) {
            SlottedMesh mesh = mesh(2, 8, channels, new int[] {0, 1});
            CHECK.due("four cells on " + channels, mesh.plan(), 4);
            for (int channel = 0; channel < channels; channel++) {
                CHECK.due("advert of 0", mesh.cell(0, channel), 100);
                CHECK.due("advert of 1", mesh.cell(1, channel), 110);
                CHECK.due("up", mesh.cell(2, channel), channel == 0 ? 210 : 0);
                CHECK.due("down", mesh.cell(3, channel), channel == 0 ? 301 : 0);
                CHECK.due("nothing", mesh.cell(4, channel), 0);
            }
        }
    }

    private static void oneNodeOutOfReach() {
        for (int node = 1; node < 6; node++) {
            SlottedMesh mesh = mesh(6, 24, 4, STAR);
            mesh.pair(0, node, false);
            CHECK.due("without " + node, mesh.plan(), NONE);
            CHECK.due("no rank without " + node, mesh.rank(node), NONE);
            mesh.pair(node, node == 5 ? 1 : 5, true);
            CHECK.due("by another one", mesh.plan(), 16);
            CHECK.due("its rank", mesh.rank(node), 2);
        }
    }

    private static void anIslandOutOfReach() {
        SlottedMesh mesh = mesh(6, 24, 4, new int[] {0, 1, 0, 2, 3, 4, 4, 5, 3, 5});
        CHECK.due("three out of reach", mesh.plan(), NONE);
        mesh.pair(2, 5, true);
        CHECK.due("all within reach", mesh.plan(), 16);
        int[] ranks = {0, 1, 1, 3, 3, 2};
        for (int node = 0; node < 6; node++) {
            CHECK.due("rank of " + node, mesh.rank(node), ranks[node]);
        }
    }

    private static void ranksAreTheLeastNumberOfSteps() {
        SlottedMesh ring = mesh(6, 24, 1, new int[] {0, 1, 1, 2, 2, 3, 3, 4, 4, 5, 5, 0});
        CHECK.due("a ring", ring.plan(), 17);
        int[] ranks = {0, 1, 2, 3, 2, 1};
        int[] firsts = {NONE, 0, 1, 2, 5, 0};
        for (int node = 0; node < 6; node++) {
            CHECK.due("rank of " + node, ring.rank(node), ranks[node]);
            CHECK.due("first of " + node, ring.parent(node, 0), firsts[node]);
            CHECK.due("second of " + node, ring.parent(node, 1), node == 3 ? 4 : NONE);
        }
        SlottedMesh all = new SlottedMesh(6, 16, 4);
        for (int a = 0; a < 6; a++) {
            for (int b = a + 1; b < 6; b++) {
                all.pair(a, b, true);
            }
        }
        CHECK.due("all near each other", all.plan(), 16);
        for (int node = 1; node < 6; node++) {
            CHECK.due("one step", all.rank(node), 1);
            CHECK.due("0 is the first", all.parent(node, 0), 0);
            CHECK.due("those of one rank are no parents", all.parent(node, 1), NONE);
        }
    }

    private static void parentsAreTheTwoLeast() {
        SlottedMesh mesh = new SlottedMesh(6, 24, 1);
        for (int node = 4; node >= 1; node--) {
            mesh.pair(5, node, true);
            mesh.pair(0, node, true);
        }
        int[] cells = {17, 17, 17, 16};
        for (int gone = 0; gone < 4; gone++) {
            CHECK.due("cells with " + (4 - gone) + " parents", mesh.plan(), cells[gone]);
            CHECK.due("the first is the least", mesh.parent(5, 0), gone + 1);
            CHECK.due("the second is the next", mesh.parent(5, 1), gone < 3 ? gone + 2 : NONE);
            CHECK.due("there is no third", mesh.parent(5, 2), NONE);
            CHECK.due("up to the first", mesh.cell(14, 0), 250 + gone + 1);
            CHECK.due("up to the second", mesh.cell(15, 0), gone < 3 ? 250 + gone + 2 : 345);
            mesh.pair(5, gone + 1, false);
        }
        CHECK.due("no parent is left", mesh.plan(), NONE);
        CHECK.due("and the old plan stays", mesh.parent(5, 0), 4);
    }

    private static void aNewPlanLeavesNothingOfTheOld() {
        SlottedMesh mesh = mesh(6, 19, 1, FULL);
        mesh.plan();
        for (int node = 3; node <= 5; node++) {
            mesh.pair(2, node, false);
        }
        CHECK.due("sixteen are left", mesh.plan(), 16);
        int[] due = {210, 301, 220, 302, 231, 313, 241, 314, 251, 315, 0, 0, 0};
        for (int k = 0; k < due.length; k++) {
            CHECK.due("cell(" + (k + 6) + ", 0)", mesh.cell(k + 6, 0), due[k]);
        }
        CHECK.due("no second parent", mesh.parent(3, 1), NONE);
        mesh.pair(0, 5, true);
        CHECK.due("a third plan", mesh.plan(), 16);
        CHECK.due("its rank of 5", mesh.rank(5), 1);
        CHECK.due("its cell", mesh.cell(10, 0), 250);
    }
}
