/**
 * "If its number is not above the greatest that b took of that source, it is known to b": one less, the same and
 * one more, for the gateway and for a relay, of each source and for each target apart; and the numbers of samples.
 */
public final class NumberEdgesTest {
    private static final Check CHECK = new Check();
    private static final int NONE = SlottedMesh.NONE;
    private static final int MISSING = SlottedMesh.MISSING;

    public static void main(String[] args) {
        numbersBeginAtOneAndGoOn();
        numbersOfRefusedSamplesAreNotUsed();
        theSameNumberIsKnownToTheGateway();
        aLesserNumberIsKnownToTheGateway();
        theSameNumberIsKnownToARelay();
        aLesserNumberIsKnownToARelay();
        aLesserNumberIsTakenAfterStop();
        sourcesAreApart();
        targetsAreApart();
        theSameCommandIsKnown();
        aSourceTakesItsOwnFrameOnce();
        aSourceTakesAGreaterNumberOfItsOwn();
        joiningForgetsNoCommand();
        CHECK.end("NumberEdgesTest");
    }

    private static void numbersBeginAtOneAndGoOn() {
        SlottedMesh mesh = Meshes.two();
        for (int number = 1; number <= 100; number++) {
            CHECK.due("number", mesh.sample(1, 0), number);
            mesh.run(8);
            CHECK.due("latest", mesh.latest(1), number);
        }
        mesh.stop(1);
        mesh.start(1);
        CHECK.due("they go on when it was OFF", mesh.sample(1, 0), 101);
        mesh.plan();
        CHECK.due("they go on over a plan", mesh.sample(1, 0), 102);
    }

    private static void numbersOfRefusedSamplesAreNotUsed() {
        SlottedMesh mesh = Meshes.two();
        CHECK.due("too great", mesh.sample(1, 1001), NONE);
        CHECK.due("the first", mesh.sample(1, 1), 1);
        for (int number = 2; number <= 4; number++) {
            CHECK.due("number", mesh.sample(1, 1), number);
        }
        CHECK.due("full", mesh.sample(1, 1), NONE);
        CHECK.due("full", mesh.sample(1, 1), NONE);
        mesh.stop(1);
        CHECK.due("OFF", mesh.sample(1, 1), NONE);
        mesh.start(1);
        CHECK.due("the fifth", mesh.sample(1, 1), 5);
        mesh.run(8);
        CHECK.due("numbers between are no matter", mesh.latest(1), 5);
        CHECK.due("it is the first one cached", mesh.cached(1, 1), MISSING);
    }

    private static void theSameNumberIsKnownToTheGateway() {
        SlottedMesh mesh = Meshes.two();
        mesh.radio(0, -1L, Meshes.allBut(10));
        mesh.sample(1, 5);
        mesh.sample(1, 6);
        mesh.run(3);
        CHECK.due("taken", mesh.latest(1), 1);
        mesh.run(8);
        CHECK.due("known: it leaves", mesh.count(1, 0), 1);
        CHECK.due("and is not cached again", mesh.cached(1, 1), MISSING);
        mesh.run(8);
        CHECK.due("one more is taken", mesh.latest(1), 2);
        CHECK.due("and cached", mesh.cached(1, 1), 5);
        CHECK.due("three up and one down", mesh.sent(), 4);
    }

    private static void aLesserNumberIsKnownToTheGateway() {
        SlottedMesh mesh = Meshes.diamond();
        mesh.control(3, 0, 16, 0);
        mesh.radio(0, Meshes.allBut(28), -1L);
        mesh.sample(3, -31);
        mesh.sample(3, -32);
        mesh.run(24);
        CHECK.due("time 36: the second came first", mesh.latest(3), 2);
        mesh.run(5);
        CHECK.due("time 41: the first is known", mesh.count(1, 0), 0);
        CHECK.due("latest stays", mesh.latest(3), 2);
        CHECK.due("cached stays", mesh.cached(3, 0), -32);
        CHECK.due("one is cached", mesh.cached(3, 1), MISSING);
        mesh.run(30);
        CHECK.due("one command", mesh.actuator(3), 32);
    }

    private static void theSameNumberIsKnownToARelay() {
        SlottedMesh mesh = Meshes.chain();
        mesh.radio(0, Meshes.allBut(23), Meshes.allBut(15));
        mesh.sample(2, 5);
        mesh.sample(2, 6);
        mesh.run(6);
        CHECK.due("taken", mesh.count(1, 0), 1);
        CHECK.due("not confirmed", mesh.count(2, 0), 2);
        mesh.run(10);
        CHECK.due("known: not taken again", mesh.count(1, 0), 1);
        CHECK.due("it leaves", mesh.count(2, 0), 1);
        mesh.run(10);
        CHECK.due("one left 1, one more came", mesh.count(1, 0), 1);
        CHECK.due("none at 2", mesh.count(2, 0), 0);
        CHECK.due("the first came to 0", mesh.cached(2, 0), 5);
        mesh.run(10);
        CHECK.due("and the second", mesh.cached(2, 0), 6);
    }

    /**
     * 4 below 2 and 3, both below 1. Slots: 0 to 4 adverts, 5 up 1 to 0, 6 down 0 to 1, 7 up 2 to 1, 8 down 1 to 2,
     * 9 up 3 to 1, 10 down 1 to 3, 11 up 4 to 2, 12 up 4 to 3, 13 down 2 to 4. The second sample of 4 came to 1 and 0
     * at 49 and 65, the first one is at 2 yet. Time 66.
     */
    private static SlottedMesh overtaken() {
        SlottedMesh mesh = new SlottedMesh(5, 20, 1);
        Meshes.near(mesh, 0, 1, 1, 2, 1, 3, 2, 4, 3, 4);
        CHECK.due("cells", mesh.plan(), 14);
        Meshes.startAll(mesh, 4);
        mesh.run(20);
        mesh.radio(0, Meshes.allBut(47), -1L);
        mesh.sample(4, 41);
        mesh.sample(4, 42);
        mesh.run(46);
        CHECK.due("the second came to 0", mesh.latest(4), 2);
        CHECK.due("none is at 1", mesh.count(1, 0), 0);
        CHECK.due("the first is at 2", mesh.count(2, 0), 1);
        return mesh;
    }

    private static void aLesserNumberIsKnownToARelay() {
        SlottedMesh mesh = overtaken();
        mesh.run(2);
        CHECK.due("known to 1: it leaves 2", mesh.count(2, 0), 0);
        CHECK.due("and 1 does not take it", mesh.count(1, 0), 0);
        mesh.run(40);
        CHECK.due("one is cached", mesh.cached(4, 1), MISSING);
    }

    private static void aLesserNumberIsTakenAfterStop() {
        SlottedMesh mesh = overtaken();
        mesh.stop(1);
        mesh.start(1);
        mesh.run(22);
        CHECK.due("time 88: 1 takes it, its greatest number was 0 again", mesh.count(1, 0), 1);
        CHECK.due("it leaves 2", mesh.count(2, 0), 0);
        mesh.run(18);
        CHECK.due("time 106: known to 0", mesh.count(1, 0), 0);
        CHECK.due("latest stays", mesh.latest(4), 2);
        CHECK.due("one is cached", mesh.cached(4, 1), MISSING);
    }

    private static void sourcesAreApart() {
        SlottedMesh mesh = Meshes.chain();
        for (int k = 1; k <= 3; k++) {
            mesh.sample(1, k);
            mesh.run(10);
        }
        CHECK.due("three of 1", mesh.latest(1), 3);
        CHECK.due("none of 2", mesh.latest(2), 0);
        CHECK.due("the first of 2", mesh.sample(2, 7), 1);
        mesh.run(20);
        CHECK.due("one of 2 is not known by those of 1", mesh.latest(2), 1);
        CHECK.due("its value", mesh.cached(2, 0), 7);
        CHECK.due("three of 1 yet", mesh.latest(1), 3);
    }

    private static void targetsAreApart() {
        SlottedMesh mesh = Meshes.chain();
        mesh.control(1, 16, 16, 0);
        mesh.control(2, 32, 16, 0);
        for (int k = 1; k <= 3; k++) {
            mesh.sample(1, 0);
            mesh.run(10);
        }
        CHECK.due("1 took three commands", mesh.actuator(1), 16);
        mesh.sample(2, 0);
        mesh.run(20);
        CHECK.due("the first for 2 is not known by those for 1", mesh.actuator(2), 32);
        CHECK.due("nor taken for one of 1", mesh.actuator(1), 16);
    }

    private static void theSameCommandIsKnown() {
        SlottedMesh mesh = Meshes.chain();
        mesh.control(2, 0, 16, 0);
        mesh.radio(0, -1L, Meshes.allBut(26));
        mesh.sample(2, -5);
        mesh.sample(2, -6);
        mesh.run(17);
        CHECK.due("time 27: taken", mesh.actuator(2), 5);
        CHECK.due("not confirmed", mesh.count(1, 1), 1);
        mesh.run(8);
        CHECK.due("time 35: the next one came to 1", mesh.count(1, 1), 2);
        mesh.run(2);
        CHECK.due("time 37: known, it leaves", mesh.count(1, 1), 1);
        CHECK.due("the actuator stays", mesh.actuator(2), 5);
        mesh.run(10);
        CHECK.due("time 47: one more is taken", mesh.actuator(2), 6);
        CHECK.due("none left", mesh.count(1, 1), 0);
    }

    /**
     * Two samples of 2 at 1, then a plan in which 2 lies between 0 and 1. Slots: 0 advert of 0, 1 of 2, 2 of 1,
     * 3 up 2 to 0, 4 down 0 to 2, 5 up 1 to 2, 6 down 2 to 1. Time 26.
     */
    private static SlottedMesh turned() {
        SlottedMesh mesh = Meshes.chain();
        mesh.pair(0, 1, false);
        mesh.sample(2, 5);
        mesh.sample(2, 6);
        mesh.run(16);
        CHECK.due("both are at 1", mesh.count(1, 0), 2);
        mesh.pair(0, 2, true);
        CHECK.due("plan", mesh.plan(), 7);
        CHECK.due("2 is above 1 now", mesh.parent(1, 0), 2);
        return mesh;
    }

    /** The rule is that of every b: sample() is no taking, and what the source took it knows. */
    private static void aSourceTakesItsOwnFrameOnce() {
        SlottedMesh mesh = turned();
        mesh.radio(0, -1L, Meshes.allBut(35));
        mesh.run(10);
        CHECK.due("time 36: taken by its source", mesh.count(2, 0), 1);
        CHECK.due("not confirmed", mesh.count(1, 0), 2);
        CHECK.due("a fail", mesh.count(1, 2), 1);
        mesh.run(8);
        CHECK.due("time 44: it came to 0", mesh.latest(2), 1);
        CHECK.due("2 has none", mesh.count(2, 0), 0);
        mesh.run(2);
        CHECK.due("time 46: known to its source", mesh.count(2, 0), 0);
        CHECK.due("it leaves 1", mesh.count(1, 0), 1);
        CHECK.due("fails are 0", mesh.count(1, 2), 0);
    }

    private static void aSourceTakesAGreaterNumberOfItsOwn() {
        SlottedMesh mesh = turned();
        mesh.run(18);
        CHECK.due("time 44: the first", mesh.cached(2, 0), 5);
        mesh.run(2);
        CHECK.due("time 46: the second is taken by its source", mesh.count(2, 0), 1);
        CHECK.due("1 has none", mesh.count(1, 0), 0);
        mesh.run(8);
        CHECK.due("time 54: and came to 0", mesh.cached(2, 0), 6);
        CHECK.due("numbers go on", mesh.sample(2, 7), 3);
    }

    private static void joiningForgetsNoCommand() {
        SlottedMesh mesh = Meshes.chain();
        mesh.radio(0, Meshes.allBut(33, 34, 43, 44, 53, 54, 63), Meshes.allBut(24));
        mesh.sample(2, 0);
        mesh.run(15);
        CHECK.due("time 25: 1 took the command", mesh.count(1, 1), 1);
        CHECK.due("0 has it yet", mesh.count(0, 1), 1);
        mesh.sample(1, 0);
        mesh.run(39);
        CHECK.due("time 64: 1 is not current", mesh.current(1), false);
        mesh.run(10);
        CHECK.due("time 74: it joined and sent its sample", mesh.latest(1), 1);
        CHECK.due("five tries", mesh.count(0, 3), 5);
        CHECK.due("two commands", mesh.count(0, 1), 2);
        mesh.run(1);
        CHECK.due("time 75: known to 1", mesh.count(1, 1), 0);
        CHECK.due("it leaves 0", mesh.count(0, 1), 1);
        CHECK.due("tries are 0", mesh.count(0, 3), 0);
    }
}
