/** "Each node has a row of up frames and one of down frames, at most four in each", with three, four and a fifth. */
public final class RowEdgesTest {
    private static final Check CHECK = new Check();
    private static final int NONE = SlottedMesh.NONE;
    private static final int MISSING = SlottedMesh.MISSING;

    public static void main(String[] args) {
        aSampleWithFourUpFrames();
        aSampleWithFourFramesOfOthers();
        anUpFrameToARowOfEachLength();
        theGatewayTakesUpFramesWithoutEnd();
        theGatewayTakesWithFourDownFrames();
        aDownFrameToARowOfEachLength();
        aKnownDownFrameToAFullRow();
        aTargetWithAFullRow();
        aCommandToAGatewayRowOfEachLength();
        aCommandAfterOneLeftAFullRow();
        threeSamplesAreKept();
        threeOfEachSourceAreKept();
        CHECK.end("RowEdgesTest");
    }

    private static void aSampleWithFourUpFrames() {
        SlottedMesh mesh = Meshes.two();
        for (int k = 1; k <= 4; k++) {
            CHECK.due("up frames before", mesh.count(1, 0), k - 1);
            CHECK.due("sample " + k, mesh.sample(1, k), k);
        }
        for (int k = 0; k < 3; k++) {
            CHECK.due("a fifth", mesh.sample(1, 9), NONE);
            CHECK.due("four up frames", mesh.count(1, 0), 4);
        }
        mesh.run(3);
        CHECK.due("one left", mesh.count(1, 0), 3);
        CHECK.due("one has a place", mesh.sample(1, 5), 5);
        CHECK.due("the next one has none", mesh.sample(1, 9), NONE);
        mesh.run(40);
        CHECK.due("all are taken", mesh.latest(1), 5);
        for (int k = 0; k < 3; k++) {
            CHECK.due("none that was refused came", mesh.cached(1, k), 5 - k);
        }
    }

    /**
     * 2 and 3 below 1. Slots: 0 to 3 adverts, 4 up 1 to 0, 5 down 0 to 1, 6 up 2 to 1, 7 down 1 to 2,
     * 8 up 3 to 1, 9 down 1 to 3. Time 12.
     */
    private static SlottedMesh fork() {
        SlottedMesh mesh = new SlottedMesh(4, 12, 1);
        Meshes.near(mesh, 0, 1, 1, 2, 1, 3);
        mesh.plan();
        Meshes.startAll(mesh, 3);
        mesh.run(12);
        return mesh;
    }

    private static void aSampleWithFourFramesOfOthers() {
        SlottedMesh mesh = fork();
        mesh.radio(0, Meshes.allBut(16, 28), -1L);
        for (int k = 0; k < 2; k++) {
            mesh.sample(2, 20 + k);
            mesh.sample(3, 30 + k);
        }
        mesh.run(20);
        CHECK.due("three of others", mesh.count(1, 0), 3);
        mesh.run(1);
        CHECK.due("four of others", mesh.count(1, 0), 4);
        CHECK.due("no place for one of its own", mesh.sample(1, 1), NONE);
        mesh.run(8);
        CHECK.due("one left", mesh.count(1, 0), 3);
        CHECK.due("a place for one of its own", mesh.sample(1, 1), 1);
        CHECK.due("and no other", mesh.sample(1, 2), NONE);
    }

    private static void anUpFrameToARowOfEachLength() {
        for (int length = 0; length <= 4; length++) {
            SlottedMesh mesh = Meshes.chain();
            mesh.radio(0, Meshes.allBut(13), -1L);
            for (int k = 0; k < length; k++) {
                mesh.sample(1, k);
            }
            mesh.sample(2, 5);
            mesh.run(6);
            boolean taken = length < 4;
            CHECK.due("row of " + length, mesh.count(1, 0), taken ? length + 1 : 4);
            CHECK.due("the frame of 2", mesh.count(2, 0), taken ? 0 : 1);
            CHECK.due("fails of 2", mesh.count(2, 2), taken ? 0 : 1);
            CHECK.due("sent", mesh.sent(), length == 0 ? 1 : 2);
            mesh.run(60);
            CHECK.due("it comes at last", mesh.cached(2, 0), 5);
            CHECK.due("and once", mesh.cached(2, 1), MISSING);
        }
    }

    private static void theGatewayTakesUpFramesWithoutEnd() {
        SlottedMesh mesh = Meshes.two();
        for (int k = 1; k <= 20; k++) {
            mesh.sample(1, k);
            mesh.run(8);
            CHECK.due("taken", mesh.latest(1), k);
            CHECK.due("no up frames at 0", mesh.count(0, 0), 0);
            CHECK.due("none left at 1", mesh.count(1, 0), 0);
        }
    }

    private static void theGatewayTakesWithFourDownFrames() {
        SlottedMesh mesh = Meshes.two();
        mesh.radio(0, Meshes.allBut(11, 19, 27, 35, 43), -1L);
        for (int k = 1; k <= 5; k++) {
            mesh.sample(1, k);
            mesh.run(3);
            CHECK.due("taken and confirmed", mesh.count(1, 0), 0);
            CHECK.due("no fail", mesh.count(1, 2), 0);
            CHECK.due("cached", mesh.cached(1, 0), k);
            mesh.run(5);
        }
    }

    /** A chain in which 2 hears no command until 70 and has five samples on their way. */
    private static SlottedMesh deafEnd(long confirmations) {
        SlottedMesh mesh = Meshes.chain();
        mesh.control(2, 0, 16, 0);
        mesh.radio(0, Meshes.allBut(26, 36, 46, 56, 66), confirmations);
        for (int k = 1; k <= 4; k++) {
            mesh.sample(2, -k);
        }
        mesh.run(10);
        mesh.sample(2, -5);
        return mesh;
    }

    private static void aDownFrameToARowOfEachLength() {
        SlottedMesh mesh = deafEnd(-1L);
        mesh.run(4);
        for (int length = 0; length <= 4; length++) {
            CHECK.due("before, row of " + length, mesh.count(1, 1), length);
            CHECK.due("before, one waits at 0", mesh.count(0, 1), 1);
            mesh.run(1);
            boolean taken = length < 4;
            CHECK.due("then", mesh.count(1, 1), taken ? length + 1 : 4);
            CHECK.due("at 0", mesh.count(0, 1), taken ? 0 : 1);
            CHECK.due("tries of 0", mesh.count(0, 3), taken ? 0 : 1);
            mesh.run(9);
        }
        mesh.run(1);
        CHECK.due("time 75: full yet", mesh.count(0, 3), 2);
        mesh.run(10);
        CHECK.due("time 85: one left, one came", mesh.count(1, 1), 4);
        CHECK.due("none at 0", mesh.count(0, 1), 0);
        for (int k = 1; k <= 5; k++) {
            CHECK.due("they come in their order", mesh.actuator(2), k);
            mesh.run(10);
        }
        CHECK.due("none at 1", mesh.count(1, 1), 0);
    }

    private static void aKnownDownFrameToAFullRow() {
        SlottedMesh mesh = deafEnd(Meshes.allBut(54));
        mesh.run(35);
        CHECK.due("time 55: the fourth was taken", mesh.count(1, 1), 4);
        CHECK.due("but not confirmed", mesh.count(0, 1), 1);
        CHECK.due("a try", mesh.count(0, 3), 1);
        mesh.run(9);
        CHECK.due("time 64: the fifth waits too", mesh.count(0, 1), 2);
        mesh.run(1);
        CHECK.due("time 65: known, though the row is full", mesh.count(0, 1), 1);
        CHECK.due("no try", mesh.count(0, 3), 0);
        CHECK.due("and not taken again", mesh.count(1, 1), 4);
        mesh.run(10);
        CHECK.due("time 75: the fifth is not taken", mesh.count(0, 3), 1);
    }

    private static void aTargetWithAFullRow() {
        SlottedMesh mesh = deafEnd(-1L);
        mesh.control(1, 160, 1, 0);
        mesh.run(31);
        mesh.sample(1, 0);
        mesh.run(13);
        CHECK.due("time 64: 1 has four down frames", mesh.count(1, 1), 4);
        CHECK.due("one for 1 waits", mesh.count(0, 1), 1);
        CHECK.due("no command for 1 yet", mesh.actuator(1), 0);
        mesh.run(1);
        CHECK.due("time 65: its own needs no place", mesh.actuator(1), 10);
        CHECK.due("1 has four", mesh.count(1, 1), 4);
        CHECK.due("none at 0", mesh.count(0, 1), 0);
        CHECK.due("no tries of 0", mesh.count(0, 3), 0);
    }

    private static void aCommandToAGatewayRowOfEachLength() {
        for (int length = 0; length <= 4; length++) {
            SlottedMesh mesh = fullGateway(length);
            CHECK.due("down frames before", mesh.count(0, 1), length);
            mesh.sample(1, -9);
            mesh.run(3);
            CHECK.due("down frames then", mesh.count(0, 1), Math.min(4, length + 1));
            mesh.radio(0, -1L, -1L);
            mesh.run(45);
            CHECK.due("all are delivered", mesh.count(0, 1), 0);
            CHECK.due("the last one delivered", mesh.actuator(1), length < 4 ? 9 : 4);
            CHECK.due("the sample is there, lost command or not", mesh.cached(1, 0), -9);
        }
    }

    /** Two nodes, and commands 1, 2 .. that wait at the gateway for 1, as 1 hears none. */
    private static SlottedMesh fullGateway(int length) {
        SlottedMesh mesh = Meshes.two();
        mesh.control(1, 0, 16, 0);
        mesh.radio(0, Meshes.allBut(11, 19, 27, 35, 43), -1L);
        for (int k = 1; k <= length; k++) {
            mesh.sample(1, -k);
            mesh.run(8);
        }
        return mesh;
    }

    private static void aCommandAfterOneLeftAFullRow() {
        SlottedMesh mesh = fullGateway(4);
        CHECK.due("four wait", mesh.count(0, 1), 4);
        mesh.radio(0, -1L, -1L);
        mesh.run(4);
        CHECK.due("one left", mesh.count(0, 1), 3);
        mesh.sample(1, -8);
        mesh.sample(1, -9);
        mesh.radio(0, Meshes.allBut(51, 59), -1L);
        mesh.run(8);
        CHECK.due("one has its place", mesh.count(0, 1), 4);
        mesh.run(8);
        CHECK.due("another has none", mesh.count(0, 1), 4);
        CHECK.due("both samples were taken", mesh.latest(1), 6);
        mesh.run(32);
        CHECK.due("all are delivered", mesh.count(0, 1), 0);
        CHECK.due("the lost one never came", mesh.actuator(1), 8);
    }

    private static void threeSamplesAreKept() {
        SlottedMesh mesh = Meshes.two();
        int[] values = {-1000, 1000, 0, -1, 1, -1000};
        for (int taken = 0; taken <= values.length; taken++) {
            for (int k = 0; k <= 3; k++) {
                boolean there = k < taken && k < 3;
                CHECK.due("cached " + k + " of " + taken, mesh.cached(1, k), there ? values[taken - 1 - k] : MISSING);
            }
            if (taken < values.length) {
                mesh.sample(1, values[taken]);
                mesh.run(8);
            }
        }
    }

    private static void threeOfEachSourceAreKept() {
        SlottedMesh mesh = Meshes.chain();
        for (int k = 1; k <= 4; k++) {
            mesh.sample(1, k);
            mesh.run(10);
            CHECK.due("none of 2", mesh.cached(2, 0), MISSING);
        }
        for (int k = 1; k <= 2; k++) {
            mesh.sample(2, 10 * k);
            mesh.run(20);
        }
        CHECK.due("newest of 2", mesh.cached(2, 0), 20);
        CHECK.due("before it", mesh.cached(2, 1), 10);
        CHECK.due("no third of 2", mesh.cached(2, 2), MISSING);
        for (int k = 0; k < 3; k++) {
            CHECK.due("three of 1", mesh.cached(1, k), 4 - k);
        }
    }
}
