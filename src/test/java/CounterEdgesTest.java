/** FAILS "when it is 4" and TRIES "when they are 6": one less, just so many, and each way to come there. */
public final class CounterEdgesTest {
    private static final Check CHECK = new Check();

    public static void main(String[] args) {
        failsOfUnheardFrames();
        failsOfUnheardConfirmations();
        failsOfNodesThatAreNotNear();
        failsOfClocksApart();
        failsOfReceiversThatAreNotCurrent();
        failsOfFullRows();
        failsOfBothUpCells();
        theSecondUpCellEndsFailsToo();
        noSecondUpCellAfterTheFourthFail();
        failsBeginAnewAfterJoining();
        noFailsWithoutFrames();
        triesOfUnheardFrames();
        triesOfUnheardConfirmations();
        triesOfNodesThatAreNotNear();
        triesOfClocksApart();
        triesOfReceiversThatAreNotCurrent();
        triesOfAFullRow();
        triesOfARelay();
        triesBeginAnewWithTheNextFrame();
        CHECK.end("CounterEdgesTest");
    }

    /** The times, from a first one on, at which a cell is unheard. */
    private static long mute(int first, int step, int times) {
        long bits = -1L;
        for (int k = 0; k < times; k++) {
            bits &= Meshes.allBut(first + step * k);
        }
        return bits;
    }

    /** After so many fails in a row: what node a shows. */
    private static void afterFails(String name, SlottedMesh mesh, int a, int fails) {
        CHECK.due(name + ": fails after " + fails, mesh.count(a, 2), fails == 4 ? 0 : fails);
        CHECK.due(name + ": current after " + fails, mesh.current(a), fails < 4);
        CHECK.due(name + ": the frame stays after " + fails, mesh.count(a, 0), 1);
    }

    private static void afterSuccess(String name, SlottedMesh mesh, int a) {
        CHECK.due(name + ": no fails after it was confirmed", mesh.count(a, 2), 0);
        CHECK.due(name + ": current yet", mesh.current(a), true);
        CHECK.due(name + ": the frame left", mesh.count(a, 0), 0);
    }

    private static void failsOfUnheardFrames() {
        for (int fails = 0; fails <= 4; fails++) {
            SlottedMesh mesh = Meshes.two();
            mesh.radio(0, mute(10, 8, fails), -1L);
            mesh.sample(1, 5);
            mesh.run(3);
            for (int k = 1; k <= fails; k++) {
                afterFails("unheard", mesh, 1, k);
                CHECK.due("nothing is taken", mesh.latest(1), 0);
                mesh.run(k == 4 ? 1 : 8);
            }
            if (fails < 4) {
                afterSuccess("unheard", mesh, 1);
                CHECK.due("it is taken", mesh.latest(1), 1);
                CHECK.due("sent", mesh.sent(), fails + 1);
            }
        }
    }

    private static void failsOfUnheardConfirmations() {
        for (int fails = 1; fails <= 4; fails++) {
            SlottedMesh mesh = Meshes.two();
            mesh.radio(0, -1L, mute(10, 8, fails));
            mesh.sample(1, 5);
            mesh.run(3);
            for (int k = 1; k <= fails; k++) {
                afterFails("unconfirmed", mesh, 1, k);
                CHECK.due("it is taken", mesh.latest(1), 1);
                mesh.run(k == 4 ? 1 : 8);
            }
            if (fails < 4) {
                afterSuccess("unconfirmed", mesh, 1);
            }
            CHECK.due("taken once", mesh.cached(1, 1), SlottedMesh.MISSING);
        }
    }

    private static void failsOfNodesThatAreNotNear() {
        for (int fails = 1; fails <= 4; fails++) {
            SlottedMesh mesh = Meshes.two();
            mesh.pair(0, 1, false);
            mesh.sample(1, 5);
            mesh.run(3);
            for (int k = 1; k <= fails; k++) {
                afterFails("not near", mesh, 1, k);
                if (k == fails) {
                    mesh.pair(0, 1, true);
                }
                mesh.run(k == 4 ? 1 : 8);
            }
            if (fails < 4) {
                afterSuccess("not near", mesh, 1);
            }
        }
    }

    private static void failsOfClocksApart() {
        for (int fails = 1; fails <= 4; fails++) {
            SlottedMesh mesh = Meshes.two();
            mesh.run(1);
            mesh.drift(1, 3);
            mesh.run(3);
            mesh.drift(1, 2);
            mesh.run(1);
            mesh.drift(1, 0);
            mesh.run(4);
            mesh.sample(1, 5);
            CHECK.due("time 18 next", mesh.run(2), 19);
            for (int k = 1; k <= fails; k++) {
                afterFails("11 apart", mesh, 1, k);
                CHECK.due("the clock stays", mesh.offset(1), 11);
                if (k == fails && k < 4) {
                    mesh.drift(1, -1);
                    mesh.run(1);
                    mesh.drift(1, 0);
                    mesh.radio(0, Meshes.allBut(24, 32, 40), -1L);
                    mesh.run(7);
                } else {
                    mesh.run(k == 4 ? 1 : 8);
                }
            }
            if (fails < 4) {
                afterSuccess("10 apart", mesh, 1);
                CHECK.due("the clock is set", mesh.offset(1), 0);
            }
        }
    }

    private static void failsOfReceiversThatAreNotCurrent() {
        for (int fails = 1; fails <= 4; fails++) {
            SlottedMesh mesh = Meshes.chain();
            mesh.stop(1);
            mesh.sample(2, 5);
            mesh.run(6);
            for (int k = 1; k <= fails; k++) {
                afterFails("1 is OFF", mesh, 2, k);
                if (k == fails) {
                    mesh.start(1);
                }
                mesh.run(k == 4 ? 1 : 10);
            }
            if (fails < 4) {
                afterSuccess("1 is current again", mesh, 2);
            }
        }
    }

    private static void failsOfFullRows() {
        for (int fails = 1; fails <= 4; fails++) {
            SlottedMesh mesh = Meshes.chain();
            for (int k = 1; k <= 4; k++) {
                mesh.sample(1, k);
            }
            mesh.sample(2, 5);
            mesh.run(4);
            for (int k = 1; k <= fails; k++) {
                CHECK.due("a place is filled at once", mesh.sample(1, 4 + k), 4 + k);
                mesh.run(2);
                afterFails("full", mesh, 2, k);
                CHECK.due("four", mesh.count(1, 0), 4);
                mesh.run(8);
            }
            if (fails < 4) {
                mesh.run(2);
                afterSuccess("a place again", mesh, 2);
            }
        }
    }

    private static void failsOfBothUpCells() {
        SlottedMesh mesh = Meshes.diamond();
        mesh.radio(0, Meshes.allBut(20, 21, 32, 33), -1L);
        mesh.sample(3, 5);
        mesh.run(9);
        afterFails("to 1", mesh, 3, 1);
        mesh.run(1);
        afterFails("to 2", mesh, 3, 2);
        mesh.run(11);
        afterFails("to 1 again", mesh, 3, 3);
        mesh.run(1);
        afterFails("to 2 again", mesh, 3, 4);
        CHECK.due("four sent", mesh.sent(), 4);
    }

    private static void theSecondUpCellEndsFailsToo() {
        SlottedMesh mesh = Meshes.diamond();
        mesh.radio(0, Meshes.allBut(20, 21, 32), -1L);
        mesh.sample(3, 5);
        mesh.run(21);
        afterFails("to 1 again", mesh, 3, 3);
        mesh.run(1);
        afterSuccess("to 2", mesh, 3);
        CHECK.due("2 has it", mesh.count(2, 0), 1);
    }

    private static void noSecondUpCellAfterTheFourthFail() {
        SlottedMesh mesh = Meshes.diamond();
        mesh.radio(0, Meshes.allBut(21, 32, 33, 44), -1L);
        mesh.run(9);
        mesh.sample(3, 5);
        mesh.run(24);
        CHECK.due("time 45, four sent", mesh.sent(), 4);
        afterFails("to 1", mesh, 3, 4);
        mesh.run(1);
        CHECK.due("none sent to 2", mesh.sent(), 4);
        mesh.run(4);
        CHECK.due("joined by the advert of 1", mesh.current(3), true);
    }

    private static void failsBeginAnewAfterJoining() {
        SlottedMesh mesh = Meshes.two();
        mesh.radio(0, mute(10, 8, 7), -1L);
        mesh.sample(1, 5);
        mesh.run(27);
        CHECK.due("time 35: not current", mesh.current(1), false);
        mesh.run(6);
        CHECK.due("time 41: joined", mesh.current(1), true);
        CHECK.due("no fails", mesh.count(1, 2), 0);
        for (int k = 1; k <= 3; k++) {
            mesh.run(k == 1 ? 2 : 8);
            afterFails("joined", mesh, 1, k);
        }
        mesh.run(8);
        afterSuccess("joined", mesh, 1);
        CHECK.due("seven that failed and one", mesh.sent(), 8);
    }

    private static void noFailsWithoutFrames() {
        SlottedMesh mesh = Meshes.two();
        mesh.radio(0, 0L, 0L);
        mesh.run(64);
        CHECK.due("no fails", mesh.count(1, 2), 0);
        CHECK.due("no tries", mesh.count(0, 3), 0);
        CHECK.due("current", mesh.current(1), true);
        CHECK.due("none sent", mesh.sent(), 0);
    }

    /** Two nodes at time 11: the command 16 waits at the gateway, its down cell comes next. */
    private static SlottedMesh command() {
        SlottedMesh mesh = Meshes.two();
        mesh.control(1, 16, 16, 0);
        mesh.sample(1, 0);
        mesh.run(3);
        return mesh;
    }

    private static void afterTries(String name, SlottedMesh mesh, int a, int tries) {
        CHECK.due(name + ": tries after " + tries, mesh.count(a, 3), tries == 6 ? 0 : tries);
        CHECK.due(name + ": frames after " + tries, mesh.count(a, 1), tries == 6 ? 0 : 1);
        CHECK.due(name + ": current after " + tries, mesh.current(a), true);
    }

    private static void afterDelivery(String name, SlottedMesh mesh, int a, int target) {
        CHECK.due(name + ": no tries after it was confirmed", mesh.count(a, 3), 0);
        CHECK.due(name + ": the frame left", mesh.count(a, 1), 0);
        CHECK.due(name + ": the actuator is set", mesh.actuator(target), 16);
    }

    private static void triesOfUnheardFrames() {
        for (int tries = 0; tries <= 6; tries++) {
            SlottedMesh mesh = command();
            mesh.radio(0, mute(11, 8, tries), -1L);
            mesh.run(1);
            for (int k = 1; k <= tries; k++) {
                afterTries("unheard", mesh, 0, k);
                CHECK.due("nothing came", mesh.actuator(1), 0);
                mesh.run(8);
            }
            if (tries < 6) {
                afterDelivery("unheard", mesh, 0, 1);
            } else {
                CHECK.due("it never comes", mesh.actuator(1), 0);
            }
            CHECK.due("one up, and tries", mesh.sent(), 1 + Math.min(6, tries + 1));
        }
    }

    private static void triesOfUnheardConfirmations() {
        for (int tries = 1; tries <= 6; tries++) {
            SlottedMesh mesh = command();
            mesh.radio(0, -1L, mute(11, 8, tries));
            mesh.run(1);
            for (int k = 1; k <= tries; k++) {
                afterTries("unconfirmed", mesh, 0, k);
                CHECK.due("it came", mesh.actuator(1), 16);
                mesh.run(8);
            }
            afterDelivery("unconfirmed", mesh, 0, 1);
            CHECK.due("one up, and tries", mesh.sent(), 1 + Math.min(6, tries + 1));
        }
    }

    private static void triesOfNodesThatAreNotNear() {
        for (int tries = 1; tries <= 6; tries++) {
            SlottedMesh mesh = command();
            mesh.pair(0, 1, false);
            mesh.run(1);
            for (int k = 1; k <= tries; k++) {
                afterTries("not near", mesh, 0, k);
                if (k == tries) {
                    mesh.pair(0, 1, true);
                }
                mesh.run(8);
            }
            if (tries < 6) {
                afterDelivery("not near", mesh, 0, 1);
            }
        }
    }

    private static void triesOfClocksApart() {
        for (int tries = 2; tries <= 6; tries++) {
            SlottedMesh mesh = command();
            mesh.radio(0, Meshes.allBut(11, 16, 24, 32, 40, 48), -1L);
            mesh.run(1);
            mesh.drift(1, 3);
            mesh.run(3);
            mesh.drift(1, 2);
            mesh.run(1);
            mesh.drift(1, 0);
            mesh.run(4);
            for (int k = 2; k <= tries; k++) {
                afterTries("11 apart", mesh, 0, k);
                CHECK.due("the clock stays", mesh.offset(1), 11);
                mesh.drift(1, k == tries ? -1 : 0);
                mesh.run(1);
                mesh.drift(1, 0);
                mesh.run(7);
            }
            if (tries < 6) {
                afterDelivery("10 apart", mesh, 0, 1);
                CHECK.due("the clock is set", mesh.offset(1), 0);
            }
        }
    }

    private static void triesOfReceiversThatAreNotCurrent() {
        for (int tries = 1; tries <= 6; tries++) {
            SlottedMesh mesh = command();
            mesh.stop(1);
            mesh.run(1);
            for (int k = 1; k <= tries; k++) {
                afterTries("1 is OFF", mesh, 0, k);
                if (k == tries) {
                    mesh.start(1);
                }
                mesh.run(8);
            }
            if (tries < 6) {
                afterDelivery("1 is current again", mesh, 0, 1);
            } else {
                CHECK.due("it never comes", mesh.actuator(1), 0);
            }
        }
        // Started, but 1 hears no advert of 0: not current either.
        SlottedMesh mesh = command();
        mesh.stop(1);
        mesh.start(1);
        mesh.run(1);
        afterTries("1 is not current", mesh, 0, 1);
    }

    /** Ten slots of a chain, in which 2 does not hear what 1 sends down in slot 6. */
    private static void superframeWithADeafEnd(SlottedMesh mesh) {
        mesh.run(6);
        mesh.radio(0, 0L, -1L);
        mesh.run(1);
        mesh.radio(0, -1L, -1L);
        mesh.run(3);
    }

    private static void triesOfAFullRow() {
        SlottedMesh mesh = Meshes.chain();
        mesh.control(2, 0, 16, 0);
        for (int k = 1; k <= 4; k++) {
            mesh.sample(2, -k);
        }
        for (int k = 0; k < 7; k++) {
            superframeWithADeafEnd(mesh);
            // The fifth and the sixth sample come as soon as there is a place for them.
            if (k < 2) {
                mesh.sample(2, -5 - k);
            }
        }
        CHECK.due("time 80: the sixth try of 1 made a place", mesh.count(1, 1), 3);
        CHECK.due("two tries of 0 before", mesh.count(0, 3), 2);
        superframeWithADeafEnd(mesh);
        CHECK.due("time 90: 1 is full again", mesh.count(1, 1), 4);
        for (int k = 1; k <= 5; k++) {
            CHECK.due("full: tries of 0", mesh.count(0, 3), k - 1);
            superframeWithADeafEnd(mesh);
        }
        CHECK.due("full: five tries of 0", mesh.count(0, 3), 5);
        CHECK.due("1 has a place", mesh.count(1, 1), 3);
        mesh.run(5);
        CHECK.due("it is filled", mesh.count(1, 1), 4);
        CHECK.due("no tries of 0", mesh.count(0, 3), 0);
    }

    private static void triesOfARelay() {
        for (int tries = 0; tries <= 6; tries++) {
            SlottedMesh mesh = Meshes.chain();
            mesh.control(2, 16, 16, 0);
            mesh.sample(2, 0);
            mesh.radio(0, mute(26, 10, tries), -1L);
            mesh.run(16);
            CHECK.due("1 has it", mesh.count(1, 1), 1);
            mesh.run(1);
            for (int k = 1; k <= tries; k++) {
                afterTries("relay", mesh, 1, k);
                mesh.run(10);
            }
            if (tries < 6) {
                afterDelivery("relay", mesh, 1, 2);
            } else {
                CHECK.due("it never comes", mesh.actuator(2), 0);
            }
            CHECK.due("the tries of 0 are its own", mesh.count(0, 3), 0);
        }
    }

    private static void triesBeginAnewWithTheNextFrame() {
        SlottedMesh mesh = command();
        mesh.radio(0, mute(11, 8, 7), -1L);
        mesh.sample(1, 1);
        mesh.run(41);
        CHECK.due("time 52: the first is gone", mesh.count(0, 1), 1);
        CHECK.due("no tries of the next", mesh.count(0, 3), 0);
        mesh.run(8);
        CHECK.due("time 60: a try of the next", mesh.count(0, 3), 1);
        mesh.run(8);
        CHECK.due("time 68: it came", mesh.actuator(1), 15);
        CHECK.due("no tries", mesh.count(0, 3), 0);
    }
}
