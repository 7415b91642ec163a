/** Promises 8 sample, 10 run, 16 count, 17 cached, 18 latest and 20 sent, and what an UP cell does. */
public final class UpTest {
    private static final Check CHECK = new Check();

    public static void main(String[] args) {
        samples();
        runs();
        runsWithoutAPlan();
        framesGoInTheirOrder();
        threeAreKept();
        clocksApartAreDeaf();
        confirmationSetsTheClock();
        aSecondParentSetsNoClock();
        aKnownFrameIsNotTakenTwice();
        anOlderNumberIsKnown();
        aFullRowTakesNothing();
        aFullRowKnowsWhatItKnows();
        fourFailsEndCurrent();
        onlyCurrentNodesSend();
        aReceiverMustBeNearAndCurrent();
        aFrameMayComeBackToItsSource();
        wrongInputs();
        CHECK.end("UpTest");
    }

    private static void samples() {
        SlottedMesh mesh = new SlottedMesh(3, 8, 1);
        CHECK.due("OFF", mesh.sample(1, 0), SlottedMesh.NONE);
        mesh.start(1);
        CHECK.due("too great", mesh.sample(1, 1001), SlottedMesh.NONE);
        CHECK.due("too small", mesh.sample(1, -1001), SlottedMesh.NONE);
        CHECK.due("a refused one takes no place", mesh.count(1, 0), 0);
        CHECK.due("greatest, and current or not", mesh.sample(1, 1000), 1);
        CHECK.due("least", mesh.sample(1, -1000), 2);
        CHECK.due("third", mesh.sample(1, 0), 3);
        CHECK.due("three are there", mesh.count(1, 0), 3);
        CHECK.due("fourth", mesh.sample(1, 0), 4);
        CHECK.due("a fifth has no place", mesh.sample(1, 0), SlottedMesh.NONE);
        CHECK.due("four are there", mesh.count(1, 0), 4);
        CHECK.due("0 takes none", mesh.sample(0, 0), SlottedMesh.NONE);
        mesh.start(2);
        CHECK.due("each node has its numbers", mesh.sample(2, 0), 1);
        mesh.stop(1);
        mesh.start(1);
        CHECK.due("refused ones had no number", mesh.sample(1, 0), 5);
    }

    private static void runs() {
        SlottedMesh mesh = new SlottedMesh(2, 8, 1);
        CHECK.due("run(1)", mesh.run(1), 1);
        CHECK.due("run(64)", mesh.run(64), 65);
        CHECK.due("run(0)", mesh.run(0), SlottedMesh.NONE);
        CHECK.due("run(-1)", mesh.run(-1), SlottedMesh.NONE);
        CHECK.due("run(65)", mesh.run(65), SlottedMesh.NONE);
        CHECK.due("run(MIN)", mesh.run(Integer.MIN_VALUE), SlottedMesh.NONE);
        CHECK.due("run(MAX)", mesh.run(Integer.MAX_VALUE), SlottedMesh.NONE);
        CHECK.due("refused ones took no time", mesh.run(2), 67);
        SlottedMesh one = Meshes.two();
        SlottedMesh many = Meshes.two();
        one.sample(1, 3);
        many.sample(1, 3);
        one.run(20);
        for (int k = 0; k < 20; k++) {
            many.run(1);
        }
        CHECK.due("slots go one by one", one.sent(), many.sent());
    }

    private static void runsWithoutAPlan() {
        SlottedMesh mesh = new SlottedMesh(2, 8, 1);
        mesh.pair(0, 1, true);
        mesh.start(1);
        mesh.sample(1, 3);
        mesh.drift(1, -2);
        CHECK.due("time goes on", mesh.run(64), 64);
        CHECK.due("offsets drift", mesh.offset(1), -128);
        CHECK.due("none joins", mesh.current(1), false);
        CHECK.due("none sends", mesh.sent(), 0);
        mesh.plan();
        mesh.run(1);
        CHECK.due("time 64 is slot 0", mesh.current(1), true);
    }

    private static void framesGoInTheirOrder() {
        SlottedMesh mesh = Meshes.chain();
        mesh.sample(2, 21);
        mesh.run(6);
        CHECK.due("time 15: up from 2", mesh.count(2, 0), 0);
        CHECK.due("1 has it", mesh.count(1, 0), 1);
        CHECK.due("sent once", mesh.sent(), 1);
        mesh.sample(1, 11);
        mesh.sample(2, 22);
        mesh.run(8);
        CHECK.due("time 23: up from 1, the first is 2's", mesh.latest(2), 1);
        CHECK.due("its own comes later", mesh.latest(1), 0);
        CHECK.due("value", mesh.cached(2, 0), 21);
        CHECK.due("none of 1", mesh.cached(1, 0), SlottedMesh.MISSING);
        mesh.run(2);
        CHECK.due("up from 2 and the command to 1", mesh.sent(), 4);
        CHECK.due("1 has two", mesh.count(1, 0), 2);
        mesh.run(10);
        CHECK.due("then 1's own", mesh.latest(1), 1);
        CHECK.due("value", mesh.cached(1, 0), 11);
        mesh.run(10);
        CHECK.due("then 2's second", mesh.latest(2), 2);
        CHECK.due("all have left", mesh.count(1, 0) + mesh.count(2, 0), 0);
        CHECK.due("0 keeps no up frames", mesh.count(0, 0), 0);
    }

    private static void threeAreKept() {
        SlottedMesh mesh = Meshes.two();
        for (int k = 1; k <= 5; k++) {
            mesh.sample(1, 10 * k - 30);
            mesh.run(8);
            CHECK.due("latest", mesh.latest(1), k);
            for (int back = 0; back < 4; back++) {
                int due = back < 3 && back < k ? 10 * (k - back) - 30 : SlottedMesh.MISSING;
                CHECK.due("after " + k + " cached " + back, mesh.cached(1, back), due);
            }
        }
        CHECK.due("cached -1", mesh.cached(1, -1), SlottedMesh.MISSING);
        mesh.plan();
        mesh.stop(1);
        CHECK.due("the gateway keeps them", mesh.cached(1, 0), 20);
        CHECK.due("and the number", mesh.latest(1), 5);
    }

    /** The two nodes, with no advert heard at 16, the clock of 1 brought to an offset, at time 18. */
    private static SlottedMesh apart(int offset) {
        SlottedMesh mesh = Meshes.two();
        mesh.radio(0, Meshes.allBut(16), -1L);
        mesh.run(1);
        int step = offset < 0 ? -1 : 1;
        for (int k = 0; k < 5; k++) {
            mesh.drift(1, step * Math.min(3, Math.abs(offset - mesh.offset(1))));
            mesh.run(1);
        }
        mesh.drift(1, 0);
        mesh.run(4);
        CHECK.due("the clock is apart", mesh.offset(1), offset);
        return mesh;
    }

    private static void clocksApartAreDeaf() {
        for (int offset : new int[] {10, -10, 11, -11}) {
            SlottedMesh mesh = apart(offset);
            mesh.sample(1, 1);
            mesh.run(1);
            boolean close = offset == 10 || offset == -10;
            CHECK.due("sent anyhow", mesh.sent(), 1);
            CHECK.due("heard at " + offset, mesh.latest(1), close ? 1 : 0);
            CHECK.due("fails at " + offset, mesh.count(1, 2), close ? 0 : 1);
            CHECK.due("offset then", mesh.offset(1), close ? 0 : offset);
        }
    }

    private static void confirmationSetsTheClock() {
        SlottedMesh mesh = apart(7);
        mesh.radio(0, -1L, Meshes.allBut(18));
        mesh.sample(1, 1);
        mesh.run(1);
        CHECK.due("taken", mesh.latest(1), 1);
        CHECK.due("no confirmation, no time", mesh.offset(1), 7);
        mesh = apart(7);
        mesh.run(1);
        CHECK.due("no frame, no time", mesh.offset(1), 7);
        mesh = apart(7);
        mesh.sample(1, 1);
        mesh.run(1);
        CHECK.due("confirmed", mesh.offset(1), 0);
    }

    private static void aSecondParentSetsNoClock() {
        SlottedMesh mesh = Meshes.diamond();
        mesh.run(8);
        mesh.drift(3, 1);
        mesh.sample(3, 1);
        mesh.run(1);
        CHECK.due("first parent: taken", mesh.count(1, 0), 1);
        CHECK.due("first parent: its time", mesh.offset(3), 0);
        mesh.sample(3, 2);
        mesh.run(1);
        CHECK.due("second parent: taken", mesh.count(2, 0), 1);
        CHECK.due("second parent: left", mesh.count(3, 0), 0);
        CHECK.due("second parent: own time", mesh.offset(3), 1);
    }

    private static void aKnownFrameIsNotTakenTwice() {
        SlottedMesh mesh = Meshes.two();
        mesh.radio(0, -1L, Meshes.allBut(10, 18));
        mesh.sample(1, 5);
        mesh.run(3);
        CHECK.due("taken", mesh.cached(1, 0), 5);
        CHECK.due("a fail all the same", mesh.count(1, 2), 1);
        mesh.run(8);
        CHECK.due("known, unheard again", mesh.count(1, 2), 2);
        mesh.run(8);
        CHECK.due("known and confirmed", mesh.count(1, 0), 0);
        CHECK.due("fails are 0", mesh.count(1, 2), 0);
        CHECK.due("cached once", mesh.cached(1, 1), SlottedMesh.MISSING);
        CHECK.due("three up and one down", mesh.sent(), 4);
    }

    private static void anOlderNumberIsKnown() {
        SlottedMesh mesh = Meshes.diamond();
        // 1 does not get through to 0 at 28, 2 does at 30.
        mesh.radio(0, Meshes.allBut(28), -1L);
        mesh.sample(3, 31);
        mesh.sample(3, 32);
        mesh.run(12);
        CHECK.due("one at 1", mesh.count(1, 0), 1);
        CHECK.due("one at 2", mesh.count(2, 0), 1);
        mesh.run(12);
        CHECK.due("the second came first", mesh.latest(3), 2);
        CHECK.due("its value", mesh.cached(3, 0), 32);
        CHECK.due("the first is at 1 yet", mesh.count(1, 0), 1);
        CHECK.due("a fail of 1", mesh.count(1, 2), 1);
        mesh.run(12);
        CHECK.due("the first is known then", mesh.count(1, 0), 0);
        CHECK.due("latest stays", mesh.latest(3), 2);
        CHECK.due("and is not cached", mesh.cached(3, 1), SlottedMesh.MISSING);
    }

    private static void aFullRowTakesNothing() {
        SlottedMesh mesh = Meshes.chain();
        mesh.radio(0, Meshes.allBut(13), -1L);
        for (int k = 1; k <= 4; k++) {
            mesh.sample(1, k);
        }
        mesh.sample(2, 5);
        mesh.run(6);
        CHECK.due("1 has four", mesh.count(1, 0), 4);
        CHECK.due("2 keeps its own", mesh.count(2, 0), 1);
        CHECK.due("a fail of 2", mesh.count(2, 2), 1);
        mesh.run(10);
        CHECK.due("one left, one came", mesh.count(1, 0), 4);
        CHECK.due("2 is confirmed", mesh.count(2, 0), 0);
        CHECK.due("fails of 2 are 0", mesh.count(2, 2), 0);
        mesh.run(40);
        CHECK.due("it came through", mesh.latest(2), 1);
    }

    private static void aFullRowKnowsWhatItKnows() {
        SlottedMesh mesh = Meshes.chain();
        mesh.radio(0, Meshes.allBut(23), Meshes.allBut(15));
        mesh.sample(2, 5);
        mesh.run(6);
        for (int k = 1; k <= 3; k++) {
            mesh.sample(1, k);
        }
        CHECK.due("1 has four", mesh.count(1, 0), 4);
        mesh.run(10);
        CHECK.due("1 has four yet", mesh.count(1, 0), 4);
        CHECK.due("known and confirmed", mesh.count(2, 0), 0);
    }

    private static void fourFailsEndCurrent() {
        SlottedMesh mesh = Meshes.two();
        mesh.pair(0, 1, false);
        mesh.sample(1, 5);
        for (int k = 1; k <= 3; k++) {
            mesh.run(8);
            CHECK.due("fails", mesh.count(1, 2), k);
            CHECK.due("current", mesh.current(1), true);
        }
        mesh.run(2);
        CHECK.due("not yet", mesh.current(1), true);
        mesh.run(1);
        CHECK.due("the fourth", mesh.current(1), false);
        CHECK.due("fails begin anew", mesh.count(1, 2), 0);
        CHECK.due("the frame stays", mesh.count(1, 0), 1);
        CHECK.due("sent four times", mesh.sent(), 4);
        mesh.run(64);
        CHECK.due("not sent any more", mesh.sent(), 4);
        mesh.pair(0, 1, true);
        mesh.run(8);
        CHECK.due("joined and sent", mesh.latest(1), 1);
        // Both up cells of a node count.
        mesh = Meshes.diamond();
        mesh.pair(1, 3, false);
        mesh.pair(2, 3, false);
        mesh.sample(3, 5);
        mesh.run(12);
        CHECK.due("two fails a superframe", mesh.count(3, 2), 2);
        mesh.run(12);
        CHECK.due("four of both", mesh.current(3), false);
    }

    private static void onlyCurrentNodesSend() {
        SlottedMesh mesh = new SlottedMesh(2, 8, 1);
        mesh.pair(0, 1, true);
        mesh.plan();
        mesh.start(1);
        mesh.radio(0, Meshes.allBut(0), -1L);
        mesh.sample(1, 5);
        mesh.run(8);
        CHECK.due("not joined", mesh.sent(), 0);
        CHECK.due("no fail", mesh.count(1, 2), 0);
        mesh.run(8);
        CHECK.due("up and down", mesh.sent(), 2);
        mesh.run(64);
        CHECK.due("no frame, nothing sent", mesh.sent(), 2);
    }

    private static void aReceiverMustBeNearAndCurrent() {
        SlottedMesh mesh = Meshes.chain();
        mesh.stop(1);
        mesh.sample(2, 5);
        mesh.run(10);
        CHECK.due("1 is OFF", mesh.count(2, 2), 1);
        mesh.start(1);
        mesh.radio(0, Meshes.allBut(20), -1L);
        mesh.run(10);
        CHECK.due("1 is not near 0's advert, but joins by 2", mesh.current(1), true);
        mesh = Meshes.chain();
        mesh.stop(1);
        mesh.sample(2, 5);
        mesh.run(5);
        mesh.start(1);
        mesh.run(1);
        CHECK.due("1 is started, not current", mesh.count(2, 2), 1);
        CHECK.due("1 took nothing", mesh.count(1, 0), 0);
        mesh = Meshes.chain();
        mesh.pair(1, 2, false);
        mesh.sample(2, 5);
        mesh.run(6);
        CHECK.due("not near", mesh.count(2, 2), 1);
    }

    private static void aFrameMayComeBackToItsSource() {
        // sample() is no taking of a frame: what comes back over a new plan is taken once.
        SlottedMesh mesh = Meshes.chain();
        mesh.sample(2, 5);
        mesh.run(6);
        CHECK.due("1 has it", mesh.count(1, 0), 1);
        mesh.pair(0, 1, false);
        mesh.pair(0, 2, true);
        CHECK.due("plan", mesh.plan(), 7);
        CHECK.due("2 is above 1 now", mesh.parent(1, 0), 2);
        mesh.run(10);
        CHECK.due("it came back", mesh.count(2, 0), 1);
        mesh.run(10);
        CHECK.due("and went up", mesh.latest(2), 1);
    }

    private static void wrongInputs() {
        SlottedMesh mesh = Meshes.two();
        for (int strange : Meshes.STRANGE) {
            CHECK.due("sample of no node", mesh.sample(strange, 0), SlottedMesh.NONE);
            CHECK.due("count of no node", mesh.count(strange, 0), SlottedMesh.NONE);
            CHECK.due("count of no row", mesh.count(1, strange), SlottedMesh.NONE);
            CHECK.due("cached of no node", mesh.cached(strange, 0), SlottedMesh.MISSING);
            CHECK.due("cached of no place", mesh.cached(1, strange), SlottedMesh.MISSING);
            CHECK.due("latest of no node", mesh.latest(strange), SlottedMesh.NONE);
        }
        CHECK.due("count of row 4", mesh.count(1, 4), SlottedMesh.NONE);
        CHECK.due("latest of node 2 of 2", mesh.latest(2), SlottedMesh.NONE);
        CHECK.due("latest of 0", mesh.latest(0), 0);
        CHECK.due("cached of 0", mesh.cached(0, 0), SlottedMesh.MISSING);
        CHECK.due("value far out", mesh.sample(1, Integer.MIN_VALUE), SlottedMesh.NONE);
        CHECK.due("value far out", mesh.sample(1, Integer.MAX_VALUE), SlottedMesh.NONE);
    }
}
