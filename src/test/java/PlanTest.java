/** Promises 2 pair, 3 plan, 11 rank, 12 parent and 13 cell. */
public final class PlanTest {
    private static final Check CHECK = new Check();

    public static void main(String[] args) {
        pairs();
        pairsGoBothWays();
        cellsOfADiamond();
        nodesGoByRankBeforeNumber();
        aThirdParentIsNone();
        aSlotWithoutAChannelIsPassedOver();
        placesRunOut();
        aNodeOutOfReach();
        aRefusedPlanChangesNothing();
        aPlanClears();
        aPlanStaysWhenPairsChange();
        wrongInputs();
        CHECK.end("PlanTest");
    }

    private static void pairs() {
        SlottedMesh mesh = new SlottedMesh(3, 8, 1);
        CHECK.due("not near already", mesh.pair(0, 1, false), false);
        CHECK.due("near", mesh.pair(0, 1, true), true);
        CHECK.due("near already", mesh.pair(0, 1, true), false);
        CHECK.due("near already, turned", mesh.pair(1, 0, true), false);
        CHECK.due("not near again", mesh.pair(1, 0, false), true);
        CHECK.due("not near already", mesh.pair(0, 1, false), false);
        CHECK.due("both the same", mesh.pair(2, 2, true), false);
        CHECK.due("the last node", mesh.pair(2, 1, true), true);
        CHECK.due("no such node", mesh.pair(3, 1, true), false);
        for (int strange : Meshes.STRANGE) {
            CHECK.due("a is no node", mesh.pair(strange, 0, true), false);
            CHECK.due("b is no node", mesh.pair(0, strange, true), false);
        }
    }

    private static void pairsGoBothWays() {
        SlottedMesh mesh = new SlottedMesh(3, 8, 1);
        mesh.pair(1, 0, true);
        mesh.pair(2, 1, true);
        CHECK.due("plan over turned pairs", mesh.plan(), 7);
        CHECK.due("rank over turned pairs", mesh.rank(2), 2);
    }

    private static void cells(SlottedMesh mesh, int[][] rows) {
        for (int slot = 0; slot < rows.length; slot++) {
            for (int channel = 0; channel < rows[slot].length; channel++) {
                CHECK.due("cell(" + slot + ", " + channel + ")", mesh.cell(slot, channel), rows[slot][channel]);
            }
        }
    }

    private static void cellsOfADiamond() {
        SlottedMesh mesh = Meshes.diamond();
        cells(mesh, new int[][] {{100}, {110}, {120}, {130}, {210}, {301}, {220}, {302}, {231}, {232}, {313}, {0}});
        CHECK.due("first parent", mesh.parent(3, 0), 1);
        CHECK.due("second parent", mesh.parent(3, 1), 2);
        CHECK.due("no third", mesh.parent(3, 2), SlottedMesh.NONE);
        CHECK.due("no parent before the first", mesh.parent(3, -1), SlottedMesh.NONE);
        CHECK.due("no second", mesh.parent(1, 1), SlottedMesh.NONE);
        CHECK.due("0 has none", mesh.parent(0, 0), SlottedMesh.NONE);
        CHECK.due("0 has no second", mesh.parent(0, 1), SlottedMesh.NONE);
        for (int node = 0; node < 4; node++) {
            CHECK.due("rank", mesh.rank(node), new int[] {0, 1, 1, 2}[node]);
        }
        CHECK.due("same again", mesh.plan(), 11);
    }

    private static void nodesGoByRankBeforeNumber() {
        // 0 - 4 - 1 - 3 and 0 - 2: ranks 0 2 1 3 1.
        SlottedMesh mesh = new SlottedMesh(5, 14, 2);
        mesh.pair(0, 4, true);
        mesh.pair(4, 1, true);
        mesh.pair(1, 3, true);
        mesh.pair(0, 2, true);
        CHECK.due("cells", mesh.plan(), 13);
        for (int node = 0; node < 5; node++) {
            CHECK.due("rank", mesh.rank(node), new int[] {0, 2, 1, 3, 1}[node]);
            CHECK.due("parent", mesh.parent(node, 0), new int[] {-1, 4, 0, 1, 0}[node]);
        }
        cells(mesh, new int[][] {{100, 100}, {120, 120}, {140, 140}, {110, 110}, {130, 130},
            {220, 214}, {302, 341}, {240, 231}, {304, 313}, {0, 0}, {0, 0}, {0, 0}, {0, 0}, {0, 0}});
    }

    private static void aThirdParentIsNone() {
        SlottedMesh mesh = new SlottedMesh(5, 24, 1);
        for (int node = 1; node < 4; node++) {
            mesh.pair(0, node, true);
            mesh.pair(node, 4, true);
        }
        CHECK.due("two up cells alone", mesh.plan(), 14);
        CHECK.due("first of three", mesh.parent(4, 0), 1);
        CHECK.due("second of three", mesh.parent(4, 1), 2);
        CHECK.due("the third is none", mesh.parent(4, 2), SlottedMesh.NONE);
        mesh.pair(0, 4, true);
        CHECK.due("near 0 now", mesh.plan(), 13);
        CHECK.due("rank near 0", mesh.rank(4), 1);
        CHECK.due("of the same rank is no parent", mesh.parent(4, 1), SlottedMesh.NONE);
    }

    private static void aSlotWithoutAChannelIsPassedOver() {
        // Two chains of three: what can share a slot does so, as far as there are channels.
        SlottedMesh mesh = new SlottedMesh(6, 24, 2);
        mesh.pair(0, 1, true);
        mesh.pair(1, 2, true);
        mesh.pair(2, 3, true);
        mesh.pair(3, 4, true);
        mesh.pair(4, 5, true);
        CHECK.due("cells", mesh.plan(), 16);
        cells(mesh, new int[][] {{100, 100}, {110, 110}, {120, 120}, {130, 130}, {140, 140}, {150, 150},
            {210, 232}, {301, 323}, {221, 243}, {312, 334}, {254, 0}, {345, 0}, {0, 0}});
    }

    private static void placesRunOut() {
        for (int slots = 8; slots <= 12; slots++) {
            SlottedMesh mesh = new SlottedMesh(4, slots, 4);
            mesh.pair(0, 1, true);
            mesh.pair(0, 2, true);
            mesh.pair(0, 3, true);
            CHECK.due("a star of four in " + slots, mesh.plan(), slots < 10 ? SlottedMesh.NONE : 10);
            CHECK.due("its last cell", mesh.cell(9, 0), slots < 10 ? SlottedMesh.NONE : 303);
        }
        SlottedMesh narrow = new SlottedMesh(6, 15, 1);
        SlottedMesh wide = new SlottedMesh(6, 16, 1);
        for (int node = 1; node < 6; node++) {
            narrow.pair(0, node, true);
            wide.pair(0, node, true);
        }
        CHECK.due("sixteen cells in fifteen slots", narrow.plan(), SlottedMesh.NONE);
        CHECK.due("sixteen cells in sixteen slots", wide.plan(), 16);
    }

    private static void aNodeOutOfReach() {
        SlottedMesh mesh = new SlottedMesh(4, 24, 4);
        mesh.pair(0, 1, true);
        mesh.pair(2, 3, true);
        CHECK.due("two parts", mesh.plan(), SlottedMesh.NONE);
        CHECK.due("no plan", mesh.rank(0), SlottedMesh.NONE);
        CHECK.due("no plan", mesh.cell(0, 0), 0);
        mesh.pair(1, 2, true);
        CHECK.due("one part", mesh.plan(), 10);
        CHECK.due("rank of the end", mesh.rank(3), 3);
    }

    private static void aRefusedPlanChangesNothing() {
        SlottedMesh mesh = Meshes.chain();
        mesh.sample(1, 1);
        mesh.radio(0, Meshes.allBut(23, 14, 24), -1L);
        mesh.run(10);
        mesh.sample(1, 2);
        mesh.run(5);
        mesh.pair(0, 1, false);
        int[] before = {mesh.count(1, 0), mesh.count(0, 1), mesh.count(1, 2), mesh.count(0, 3)};
        CHECK.due("up frames before", before[0], 1);
        CHECK.due("down frames before", before[1], 1);
        CHECK.due("fails before", before[2], 1);
        CHECK.due("tries before", before[3], 2);
        CHECK.due("out of reach now", mesh.plan(), SlottedMesh.NONE);
        CHECK.due("up frames stay", mesh.count(1, 0), 1);
        CHECK.due("down frames stay", mesh.count(0, 1), 1);
        CHECK.due("fails stay", mesh.count(1, 2), 1);
        CHECK.due("tries stay", mesh.count(0, 3), 2);
        CHECK.due("1 stays current", mesh.current(1), true);
        CHECK.due("ranks stay", mesh.rank(2), 2);
        CHECK.due("parents stay", mesh.parent(2, 0), 1);
        cells(mesh, new int[][] {{100}, {110}, {120}, {210}, {301}, {221}, {312}, {0}});
        mesh.pair(0, 1, true);
        CHECK.due("within reach again", mesh.plan(), 7);
        CHECK.due("up frames stay", mesh.count(1, 0), 1);
        CHECK.due("down frames are gone", mesh.count(0, 1), 0);
        CHECK.due("fails are 0", mesh.count(1, 2), 0);
        CHECK.due("tries are 0", mesh.count(0, 3), 0);
    }

    private static void aPlanClears() {
        SlottedMesh mesh = Meshes.chain();
        mesh.drift(1, 1);
        mesh.drift(2, -1);
        mesh.sample(2, 7);
        mesh.radio(0, -1L, Meshes.allBut(15));
        mesh.run(8);
        int first = mesh.offset(1);
        int second = mesh.offset(2);
        CHECK.due("1 took it", mesh.count(1, 0), 1);
        CHECK.due("2 keeps it", mesh.count(2, 0), 1);
        CHECK.due("plan", mesh.plan(), 7);
        CHECK.due("0 is current", mesh.current(0), true);
        CHECK.due("1 is not", mesh.current(1), false);
        CHECK.due("2 is not", mesh.current(2), false);
        CHECK.due("1 stays started", mesh.start(1), false);
        CHECK.due("offset of 1 stays", mesh.offset(1), first);
        CHECK.due("offset of 2 stays", mesh.offset(2), second);
        CHECK.due("up frames of 1 stay", mesh.count(1, 0), 1);
        CHECK.due("up frames of 2 stay", mesh.count(2, 0), 1);
        CHECK.due("time stays", mesh.run(8), 26);
        CHECK.due("1 sent what it had", mesh.latest(2), 1);
        CHECK.due("the frame of 2 is still known to 1", mesh.count(1, 0), 0);
        CHECK.due("it left 2", mesh.count(2, 0), 0);
    }

    private static void aPlanStaysWhenPairsChange() {
        SlottedMesh mesh = Meshes.diamond();
        mesh.pair(1, 3, false);
        mesh.pair(0, 3, true);
        CHECK.due("rank stays", mesh.rank(3), 2);
        CHECK.due("parent stays", mesh.parent(3, 0), 1);
        CHECK.due("cell stays", mesh.cell(8, 0), 231);
        CHECK.due("new plan", mesh.plan(), 10);
        CHECK.due("new rank", mesh.rank(3), 1);
        CHECK.due("new parent", mesh.parent(3, 0), 0);
        CHECK.due("no second any more", mesh.parent(3, 1), SlottedMesh.NONE);
        CHECK.due("new cell", mesh.cell(8, 0), 230);
        CHECK.due("old cell gone", mesh.cell(10, 0), 0);
    }

    private static void wrongInputs() {
        SlottedMesh planned = Meshes.two();
        SlottedMesh bare = new SlottedMesh(2, 8, 1);
        for (int strange : Meshes.STRANGE) {
            CHECK.due("rank of no node", planned.rank(strange), SlottedMesh.NONE);
            CHECK.due("parent of no node", planned.parent(strange, 0), SlottedMesh.NONE);
            CHECK.due("parent of no place", planned.parent(1, strange), SlottedMesh.NONE);
            CHECK.due("cell of no channel", planned.cell(0, strange), SlottedMesh.NONE);
            CHECK.due("cell of no channel, no plan", bare.cell(0, strange), SlottedMesh.NONE);
        }
        CHECK.due("slot -1", planned.cell(-1, 0), SlottedMesh.NONE);
        CHECK.due("slot 8", planned.cell(8, 0), SlottedMesh.NONE);
        CHECK.due("slot 8, no plan", bare.cell(8, 0), SlottedMesh.NONE);
        CHECK.due("slot 7, no plan", bare.cell(7, 0), 0);
        CHECK.due("no parent without a plan", bare.parent(1, 0), SlottedMesh.NONE);
    }
}
