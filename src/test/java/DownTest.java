/** Promises 9 control and 19 actuator, rows 1 and 3 of 16 count, and what a DOWN cell does. */
public final class DownTest {
    private static final Check CHECK = new Check();

    public static void main(String[] args) {
        controls();
        commands();
        sumHasBounds();
        sumOutlivesControl();
        sourcesHaveLoopsOfTheirOwn();
        aFifthCommandIsLost();
        commandsGoDownAChain();
        commandsFindTheirBranch();
        sixTriesEndAFrame();
        hearingSetsTheClock();
        aFullRowTakesNothing();
        aTargetTakesWithAFullRow();
        aKnownCommandIsNotTakenTwice();
        onlyCurrentNodesSendAndHear();
        CHECK.end("DownTest");
    }

    private static void controls() {
        SlottedMesh mesh = new SlottedMesh(3, 8, 1);
        CHECK.due("least", mesh.control(1, -1000, 0, 0), true);
        CHECK.due("greatest", mesh.control(2, 1000, 16, 16), true);
        CHECK.due("the same again", mesh.control(2, 1000, 16, 16), true);
        CHECK.due("target too great", mesh.control(1, 1001, 1, 1), false);
        CHECK.due("target too small", mesh.control(1, -1001, 1, 1), false);
        CHECK.due("P too great", mesh.control(1, 0, 17, 1), false);
        CHECK.due("P too small", mesh.control(1, 0, -1, 1), false);
        CHECK.due("I too great", mesh.control(1, 0, 1, 17), false);
        CHECK.due("I too small", mesh.control(1, 0, 1, -1), false);
        CHECK.due("0 has no loop", mesh.control(0, 0, 1, 1), false);
        CHECK.due("node 3 of 3", mesh.control(3, 0, 1, 1), false);
        CHECK.due("node 3 of 3", mesh.actuator(3), SlottedMesh.MISSING);
        CHECK.due("0 has none", mesh.actuator(0), SlottedMesh.MISSING);
        CHECK.due("at first", mesh.actuator(1), 0);
        for (int strange : Meshes.STRANGE) {
            CHECK.due("no such node", mesh.control(strange, 0, 1, 1), false);
            CHECK.due("no such node", mesh.actuator(strange), SlottedMesh.MISSING);
        }
        SlottedMesh two = Meshes.two();
        two.control(1, 160, 1, 0);
        two.control(1, 1001, 2, 0);
        two.control(1, 320, 17, 0);
        two.control(1, 320, 2, 17);
        CHECK.due("refused ones change nothing", command(two, 0), 10);
    }

    /** The command that comes back for a sample of node 1 in a mesh of two. */
    private static int command(SlottedMesh mesh, int value) {
        mesh.sample(1, value);
        mesh.run(8);
        return mesh.actuator(1);
    }

    private static int first(int target, int p, int i, int value) {
        SlottedMesh mesh = Meshes.two();
        mesh.control(1, target, p, i);
        return command(mesh, value);
    }

    private static void commands() {
        CHECK.due("45", first(100, 8, 4, 40), 45);
        CHECK.due("1 / 16 rounded down", first(1, 1, 0, 0), 0);
        CHECK.due("-1 / 16 rounded down", first(0, 1, 0, 1), -1);
        CHECK.due("-16 / 16", first(0, 1, 0, 16), -1);
        CHECK.due("-17 / 16 rounded down", first(0, 1, 0, 17), -2);
        CHECK.due("31 / 16 rounded down", first(31, 1, 0, 0), 1);
        CHECK.due("500", first(500, 16, 0, 0), 500);
        CHECK.due("not more than 500", first(501, 16, 0, 0), 500);
        CHECK.due("499", first(499, 16, 0, 0), 499);
        CHECK.due("-500", first(-500, 16, 0, 0), -500);
        CHECK.due("not less than -500", first(-501, 16, 0, 0), -500);
        CHECK.due("far out", first(1000, 16, 16, -1000), 500);
        CHECK.due("far out", first(-1000, 16, 16, 1000), -500);
        CHECK.due("I alone", first(48, 0, 5, 0), 15);
        CHECK.due("P alone", first(48, 5, 0, 0), 15);
    }

    private static void sumHasBounds() {
        for (int sign = -1; sign <= 1; sign += 2) {
            SlottedMesh mesh = Meshes.two();
            mesh.control(1, sign * 1000, 0, 1);
            CHECK.due("SUM 2000", command(mesh, -sign * 1000), sign * 125);
            CHECK.due("SUM no farther", command(mesh, -sign * 1000), sign * 125);
            mesh.control(1, 0, 0, 1);
            CHECK.due("SUM 1200", command(mesh, sign * 800), sign * 75);
            CHECK.due("SUM 400", command(mesh, sign * 800), sign * 25);
        }
    }

    private static void sumOutlivesControl() {
        SlottedMesh mesh = Meshes.two();
        mesh.control(1, 100, 0, 0);
        CHECK.due("SUM 100 unused", command(mesh, 0), 0);
        mesh.control(1, 100, 0, 16);
        CHECK.due("SUM 200", command(mesh, 0), 200);
        mesh.stop(1);
        mesh.start(1);
        CHECK.due("time", mesh.run(8), 32);
        CHECK.due("SUM 300", command(mesh, 0), 300);
        mesh.plan();
        mesh.run(8);
        CHECK.due("SUM 400", command(mesh, 0), 400);
    }

    private static void sourcesHaveLoopsOfTheirOwn() {
        SlottedMesh mesh = Meshes.chain();
        mesh.control(1, 16, 16, 0);
        mesh.control(2, 32, 0, 16);
        mesh.sample(1, 0);
        mesh.sample(2, 0);
        mesh.run(30);
        CHECK.due("loop of 1", mesh.actuator(1), 16);
        CHECK.due("loop of 2", mesh.actuator(2), 32);
        mesh.sample(1, 0);
        mesh.sample(2, 0);
        mesh.run(30);
        CHECK.due("no SUM of 2 in 1", mesh.actuator(1), 16);
        CHECK.due("SUM of 2", mesh.actuator(2), 64);
    }

    private static void aFifthCommandIsLost() {
        SlottedMesh mesh = Meshes.two();
        mesh.control(1, 0, 16, 16);
        mesh.radio(0, Meshes.allBut(11, 19, 27, 35, 43), -1L);
        for (int k = 1; k <= 5; k++) {
            mesh.sample(1, -k);
            mesh.run(8);
            CHECK.due("commands that wait", mesh.count(0, 1), Math.min(4, k));
            CHECK.due("tries", mesh.count(0, 3), k);
        }
        CHECK.due("the fifth sample was taken", mesh.cached(1, 0), -5);
        mesh.radio(0, -1L, -1L);
        int[] due = {2, 5, 9, 14};
        for (int k = 0; k < 4; k++) {
            mesh.run(8);
            CHECK.due("command " + k, mesh.actuator(1), due[k]);
            CHECK.due("commands that wait", mesh.count(0, 1), 3 - k);
            CHECK.due("tries are 0", mesh.count(0, 3), 0);
        }
        mesh.run(8);
        CHECK.due("no fifth command", mesh.actuator(1), 14);
        CHECK.due("but its SUM counts", command(mesh, 0), 15);
    }

    private static void commandsGoDownAChain() {
        SlottedMesh mesh = Meshes.chain();
        mesh.control(2, 160, 1, 0);
        mesh.sample(2, 0);
        mesh.run(14);
        CHECK.due("the gateway has a command", mesh.count(0, 1), 1);
        CHECK.due("two frames", mesh.sent(), 2);
        mesh.run(1);
        CHECK.due("it left 0", mesh.count(0, 1), 0);
        CHECK.due("1 has it", mesh.count(1, 1), 1);
        CHECK.due("it is not for 1", mesh.actuator(1), 0);
        mesh.run(2);
        CHECK.due("it left 1", mesh.count(1, 1), 0);
        CHECK.due("2 keeps no frame", mesh.count(2, 1), 0);
        CHECK.due("2 has it", mesh.actuator(2), 10);
        CHECK.due("four frames", mesh.sent(), 4);
    }

    private static void commandsFindTheirBranch() {
        SlottedMesh mesh = Meshes.diamond();
        mesh.control(2, 16, 16, 0);
        mesh.control(3, 32, 16, 0);
        mesh.sample(2, 0);
        mesh.run(8);
        CHECK.due("down to 2 alone", mesh.actuator(2), 16);
        CHECK.due("up and down", mesh.sent(), 2);
        CHECK.due("nothing to 1", mesh.count(1, 1), 0);
        // By the second parent up, by the first one down.
        mesh.pair(1, 3, false);
        mesh.sample(3, 0);
        mesh.run(4);
        mesh.pair(1, 3, true);
        CHECK.due("at 2", mesh.count(2, 0), 1);
        mesh.run(8);
        CHECK.due("the command waits", mesh.count(0, 1), 1);
        CHECK.due("not sent to 2", mesh.count(2, 1), 0);
        mesh.run(10);
        CHECK.due("sent to 1", mesh.count(1, 1), 1);
        mesh.run(6);
        CHECK.due("and to 3", mesh.actuator(3), 32);
    }

    private static void sixTriesEndAFrame() {
        SlottedMesh mesh = Meshes.two();
        mesh.control(1, 16, 16, 0);
        mesh.sample(1, 0);
        mesh.sample(1, 1);
        mesh.run(3);
        mesh.radio(0, Meshes.allBut(11, 19, 27, 35, 43, 51), -1L);
        for (int k = 1; k <= 5; k++) {
            mesh.run(8);
            CHECK.due("tries", mesh.count(0, 3), k);
            CHECK.due("both wait", mesh.count(0, 1), 2);
        }
        CHECK.due("sent", mesh.sent(), 7);
        mesh.run(1);
        CHECK.due("the sixth", mesh.count(0, 3), 0);
        CHECK.due("one left the row", mesh.count(0, 1), 1);
        CHECK.due("0 stays current", mesh.current(0), true);
        mesh.run(8);
        CHECK.due("the other one came", mesh.actuator(1), 15);
        CHECK.due("the first never did", mesh.count(0, 1), 0);
    }

    private static void hearingSetsTheClock() {
        for (int offset : new int[] {9, -9, 12, -12}) {
            SlottedMesh mesh = Meshes.two();
            mesh.control(1, 16, 16, 0);
            mesh.sample(1, 0);
            mesh.radio(0, Meshes.allBut(11, 16), Meshes.allBut(19));
            mesh.run(4);
            CHECK.due("time 12", mesh.count(0, 1), 1);
            mesh.drift(1, offset / 3);
            for (int k = 0; k < 3; k++) {
                mesh.drift(1, Math.max(-3, Math.min(3, offset - mesh.offset(1))));
                mesh.run(1);
            }
            mesh.drift(1, offset - mesh.offset(1));
            mesh.run(1);
            mesh.drift(1, 0);
            mesh.run(3);
            CHECK.due("apart", mesh.offset(1), offset);
            mesh.run(1);
            boolean close = offset == 9 || offset == -9;
            CHECK.due("heard at " + offset, mesh.actuator(1), close ? 16 : 0);
            CHECK.due("its time, confirmed or not", mesh.offset(1), close ? 0 : offset);
            CHECK.due("not confirmed", mesh.count(0, 3), 2);
        }
    }

    private static void aFullRowTakesNothing() {
        SlottedMesh mesh = Meshes.chain();
        mesh.control(2, 16, 16, 0);
        // 2 hears nothing at 6 mod 10 while five commands come down to 1.
        mesh.radio(0, Meshes.allBut(26, 36, 46, 56, 66), -1L);
        for (int k = 1; k <= 4; k++) {
            mesh.sample(2, k);
        }
        mesh.run(10);
        mesh.sample(2, 5);
        mesh.run(30);
        CHECK.due("time 50: 1 has three", mesh.count(1, 1), 3);
        CHECK.due("three tries", mesh.count(1, 3), 3);
        mesh.run(10);
        CHECK.due("time 60: 1 has four", mesh.count(1, 1), 4);
        mesh.drift(1, 1);
        mesh.run(5);
        CHECK.due("the fifth stays at 0", mesh.count(0, 1), 1);
        CHECK.due("a try of 0", mesh.count(0, 3), 1);
        CHECK.due("heard, so its time is set", mesh.offset(1), 0);
        CHECK.due("1 has four", mesh.count(1, 1), 4);
        mesh.drift(1, 0);
        mesh.run(10);
        CHECK.due("time 75: 1 has four yet", mesh.count(1, 1), 4);
        CHECK.due("two tries of 0", mesh.count(0, 3), 2);
        mesh.run(10);
        CHECK.due("time 85: one left, one came", mesh.count(1, 1), 4);
        CHECK.due("0 has none", mesh.count(0, 1), 0);
        CHECK.due("the first command", mesh.actuator(2), 15);
        mesh.run(40);
        CHECK.due("the last command", mesh.actuator(2), 11);
    }

    private static void aTargetTakesWithAFullRow() {
        SlottedMesh mesh = Meshes.chain();
        mesh.control(1, 160, 1, 0);
        mesh.radio(0, Meshes.allBut(26, 36, 46, 56, 66), -1L);
        for (int k = 1; k <= 4; k++) {
            mesh.sample(2, k);
        }
        mesh.run(48);
        mesh.sample(1, 0);
        mesh.run(5);
        CHECK.due("time 63: 1 has four", mesh.count(1, 1), 4);
        CHECK.due("its own sample waits", mesh.latest(1), 0);
        mesh.run(2);
        CHECK.due("its own sample came", mesh.latest(1), 1);
        CHECK.due("1 has four yet", mesh.count(1, 1), 4);
        CHECK.due("its own command needs no place", mesh.actuator(1), 10);
        CHECK.due("0 has none", mesh.count(0, 1), 0);
    }

    private static void aKnownCommandIsNotTakenTwice() {
        SlottedMesh mesh = Meshes.chain();
        mesh.control(2, 160, 1, 0);
        mesh.sample(2, 0);
        mesh.radio(0, -1L, Meshes.allBut(24, 34));
        mesh.run(15);
        CHECK.due("1 took it", mesh.count(1, 1), 1);
        CHECK.due("0 keeps it", mesh.count(0, 1), 1);
        mesh.run(2);
        CHECK.due("2 took it", mesh.actuator(2), 10);
        mesh.run(8);
        CHECK.due("known to 1", mesh.count(1, 1), 0);
        CHECK.due("two tries of 0", mesh.count(0, 3), 2);
        mesh.run(10);
        CHECK.due("known and confirmed", mesh.count(0, 1), 0);
        CHECK.due("tries are 0", mesh.count(0, 3), 0);
        CHECK.due("never taken again", mesh.count(1, 1), 0);
        CHECK.due("two up, three and one down", mesh.sent(), 6);
    }

    private static void onlyCurrentNodesSendAndHear() {
        SlottedMesh mesh = Meshes.chain();
        mesh.control(2, 160, 1, 0);
        mesh.sample(2, 0);
        mesh.run(14);
        mesh.stop(1);
        mesh.run(1);
        CHECK.due("1 is OFF: a try", mesh.count(0, 3), 1);
        mesh.start(1);
        mesh.run(10);
        CHECK.due("1 has joined and took it", mesh.count(1, 1), 1);
        mesh.pair(1, 2, false);
        mesh.run(2);
        CHECK.due("2 is not near: a try", mesh.count(1, 3), 1);
        int sent = mesh.sent();
        mesh.pair(0, 1, false);
        mesh.sample(1, 0);
        mesh.run(40);
        CHECK.due("1 is not current after four fails", mesh.current(1), false);
        CHECK.due("its command waits", mesh.count(1, 1), 1);
        CHECK.due("four more tries", mesh.count(1, 3), 4);
        CHECK.due("seven more frames", mesh.sent(), sent + 7);
        mesh.run(64);
        CHECK.due("it sends no more", mesh.sent(), sent + 7);
        mesh.pair(0, 1, true);
        mesh.pair(1, 2, true);
        mesh.run(20);
        CHECK.due("it joins and sends it", mesh.actuator(2), 10);
    }
}
