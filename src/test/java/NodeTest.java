/** Promises 4 start, 5 stop, 6 drift, 14 current and 15 offset, and what an ADVERT does. */
public final class NodeTest {
    private static final Check CHECK = new Check();

    public static void main(String[] args) {
        startAndStop();
        stopClears();
        stopForgetsWhatWasTaken();
        numbersAndDriftOutliveStop();
        drifts();
        adverts();
        advertsOfAParentSetTheClock();
        advertsOfOthersDoNot();
        anOffNodeDoesNotJoin();
        wrongInputs();
        CHECK.end("NodeTest");
    }

    private static void startAndStop() {
        SlottedMesh mesh = new SlottedMesh(2, 8, 1);
        CHECK.due("stop of an OFF node", mesh.stop(1), false);
        CHECK.due("start", mesh.start(1), true);
        CHECK.due("started already", mesh.start(1), false);
        CHECK.due("not current yet", mesh.current(1), false);
        CHECK.due("stop", mesh.stop(1), true);
        CHECK.due("stopped already", mesh.stop(1), false);
        CHECK.due("start again", mesh.start(1), true);
        CHECK.due("0 is never OFF", mesh.stop(0), false);
        CHECK.due("0 stays started", mesh.start(0), false);
        CHECK.due("0 stays current", mesh.current(0), true);
    }

    private static void stopClears() {
        SlottedMesh mesh = Meshes.chain();
        mesh.drift(1, 1);
        mesh.sample(2, 5);
        mesh.run(10);
        mesh.radio(0, Meshes.allBut(26), -1L);
        mesh.run(7);
        mesh.sample(1, 6);
        mesh.radio(0, Meshes.allBut(26, 33, 36), -1L);
        mesh.run(10);
        CHECK.due("up frames before", mesh.count(1, 0), 1);
        CHECK.due("down frames before", mesh.count(1, 1), 1);
        CHECK.due("fails before", mesh.count(1, 2), 1);
        CHECK.due("tries before", mesh.count(1, 3), 2);
        CHECK.due("current before", mesh.current(1), true);
        CHECK.due("offset before", mesh.offset(1), 6);
        CHECK.due("stop", mesh.stop(1), true);
        for (int row = 0; row < 4; row++) {
            CHECK.due("row " + row + " after", mesh.count(1, row), 0);
        }
        CHECK.due("not current", mesh.current(1), false);
        CHECK.due("offset 0", mesh.offset(1), 0);
        mesh.run(3);
        CHECK.due("an OFF clock stands", mesh.offset(1), 0);
        mesh.start(1);
        mesh.run(2);
        CHECK.due("the drift is still there", mesh.offset(1), 1);
    }

    private static void stopForgetsWhatWasTaken() {
        SlottedMesh mesh = Meshes.chain();
        mesh.radio(0, -1L, Meshes.allBut(15));
        mesh.sample(2, 5);
        mesh.run(6);
        CHECK.due("1 took it", mesh.count(1, 0), 1);
        CHECK.due("2 doesn't know", mesh.count(2, 0), 1);
        mesh.stop(1);
        mesh.start(1);
        mesh.run(10);
        CHECK.due("1 took it again", mesh.count(1, 0), 1);
        CHECK.due("2 is confirmed", mesh.count(2, 0), 0);

        mesh = Meshes.chain();
        mesh.sample(2, 5);
        mesh.radio(0, -1L, Meshes.allBut(24));
        mesh.run(15);
        CHECK.due("1 took the command", mesh.count(1, 1), 1);
        CHECK.due("0 doesn't know", mesh.count(0, 1), 1);
        mesh.stop(1);
        mesh.start(1);
        mesh.run(10);
        CHECK.due("1 took the command again", mesh.count(1, 1), 1);
        CHECK.due("0 is confirmed", mesh.count(0, 1), 0);
    }

    private static void numbersAndDriftOutliveStop() {
        SlottedMesh mesh = Meshes.two();
        mesh.control(1, 160, 1, 0);
        CHECK.due("first number", mesh.sample(1, 0), 1);
        mesh.run(8);
        CHECK.due("actuator", mesh.actuator(1), 10);
        mesh.stop(1);
        CHECK.due("the actuator stays", mesh.actuator(1), 10);
        CHECK.due("no sample when OFF", mesh.sample(1, 0), SlottedMesh.NONE);
        CHECK.due("drift of an OFF node", mesh.drift(1, 2), true);
        mesh.run(3);
        CHECK.due("an OFF clock stands", mesh.offset(1), 0);
        mesh.start(1);
        CHECK.due("numbers go on", mesh.sample(1, 0), 2);
        mesh.run(1);
        CHECK.due("it drifts", mesh.offset(1), 2);
        mesh.stop(1);
        CHECK.due("offset 0", mesh.offset(1), 0);
        mesh.start(1);
        CHECK.due("not current until it joins", mesh.current(1), false);
        mesh.run(2);
        CHECK.due("stop leaves the drift", mesh.offset(1), 4);
        CHECK.due("the lost frame had a number", mesh.sample(1, 0), 3);
    }

    private static void drifts() {
        SlottedMesh mesh = new SlottedMesh(3, 8, 1);
        mesh.start(1);
        for (int drift = -3; drift <= 3; drift++) {
            CHECK.due("drift(1, " + drift + ")", mesh.drift(1, drift), true);
            int before = mesh.offset(1);
            mesh.run(5);
            CHECK.due("five slots later", mesh.offset(1), before + 5 * drift);
        }
        CHECK.due("too much", mesh.drift(1, 4), false);
        CHECK.due("too little", mesh.drift(1, -4), false);
        CHECK.due("0 keeps time", mesh.drift(0, 1), false);
        mesh.run(2);
        CHECK.due("a refused drift changes nothing", mesh.offset(1), 6);
        CHECK.due("0 has no offset", mesh.offset(0), 0);
        CHECK.due("an OFF node does not drift", mesh.offset(2), 0);
    }

    private static void adverts() {
        SlottedMesh mesh = new SlottedMesh(3, 10, 1);
        mesh.pair(0, 1, true);
        mesh.pair(1, 2, true);
        mesh.plan();
        mesh.start(1);
        mesh.start(2);
        mesh.drift(1, 3);
        mesh.drift(2, 2);
        mesh.radio(0, Meshes.allBut(0), -1L);
        mesh.run(10);
        CHECK.due("the advert was not heard", mesh.current(1), false);
        CHECK.due("nor is there one of 1", mesh.current(2), false);
        CHECK.due("it drifts alone", mesh.offset(1), 30);
        mesh.run(1);
        CHECK.due("1 joined", mesh.current(1), true);
        CHECK.due("1 has 0's time, however far it was", mesh.offset(1), 0);
        CHECK.due("2 is not near 0", mesh.current(2), false);
        mesh.run(1);
        CHECK.due("2 joined by 1", mesh.current(2), true);
        CHECK.due("1 drifted", mesh.offset(1), 3);
        CHECK.due("2 has 1's time", mesh.offset(2), 3);
        mesh.run(1);
        CHECK.due("an advert of 2 is nothing to 1", mesh.offset(1), 6);
    }

    private static void advertsOfAParentSetTheClock() {
        int[][] rows = {{10, 0}, {-10, 0}, {11, 11}, {-11, -11}, {1, 0}};
        for (int[] row : rows) {
            SlottedMesh mesh = Meshes.two();
            mesh.run(1);
            bring(mesh, row[0]);
            mesh.run(16 - mesh.run(1));
            CHECK.due("before the advert", mesh.offset(1), row[0]);
            mesh.run(1);
            CHECK.due("behind the advert", mesh.offset(1), row[1]);
            CHECK.due("it stays current", mesh.current(1), true);
        }
    }

    /** Brings the clock of node 1 to an offset within five slots, and stops its drift. */
    private static void bring(SlottedMesh mesh, int offset) {
        int step = offset < 0 ? -1 : 1;
        for (int k = 0; k < 5; k++) {
            int left = Math.abs(offset - mesh.offset(1));
            mesh.drift(1, step * Math.min(3, left));
            mesh.run(1);
        }
        mesh.drift(1, 0);
    }

    private static void advertsOfOthersDoNot() {
        SlottedMesh mesh = Meshes.diamond();
        mesh.drift(3, 1);
        mesh.run(2);
        CHECK.due("1 is the first parent", mesh.offset(3), 0);
        mesh.run(1);
        CHECK.due("2 is the second", mesh.offset(3), 1);
        mesh.stop(1);
        mesh.stop(3);
        mesh.start(3);
        mesh.run(11);
        CHECK.due("1 is OFF", mesh.current(3), false);
        mesh.run(1);
        CHECK.due("a node joins by any near it", mesh.current(3), true);
        CHECK.due("and has its time", mesh.offset(3), 0);
        mesh.start(1);
        mesh.pair(0, 1, false);
        mesh.pair(1, 3, false);
        mesh.pair(1, 2, true);
        mesh.run(11);
        CHECK.due("not near 0 and 3: not yet", mesh.current(1), false);
        mesh.run(1);
        CHECK.due("near 2, that is no parent", mesh.current(1), true);
    }

    private static void anOffNodeDoesNotJoin() {
        SlottedMesh mesh = new SlottedMesh(2, 8, 1);
        mesh.pair(0, 1, true);
        mesh.plan();
        mesh.run(64);
        CHECK.due("OFF", mesh.current(1), false);
        mesh.start(1);
        mesh.pair(0, 1, false);
        mesh.run(64);
        CHECK.due("not near", mesh.current(1), false);
        mesh.pair(0, 1, true);
        mesh.run(1);
        CHECK.due("near again", mesh.current(1), true);
    }

    private static void wrongInputs() {
        SlottedMesh mesh = Meshes.two();
        for (int strange : Meshes.STRANGE) {
            CHECK.due("start of no node", mesh.start(strange), false);
            CHECK.due("stop of no node", mesh.stop(strange), false);
            CHECK.due("drift of no node", mesh.drift(strange, 1), false);
            CHECK.due("current of no node", mesh.current(strange), false);
            CHECK.due("offset of no node", mesh.offset(strange), SlottedMesh.MISSING);
        }
        CHECK.due("drift far out", mesh.drift(1, Integer.MIN_VALUE), false);
        CHECK.due("drift far out", mesh.drift(1, Integer.MAX_VALUE), false);
    }
}
