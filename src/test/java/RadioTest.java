/** Promise 7 radio: bits of frames and of confirmations, and which channel a cell uses at which time. */
public final class RadioTest {
    private static final Check CHECK = new Check();

    public static void main(String[] args) {
        wrongChannels();
        theLowestBitIsZero();
        bitsComeAgainAfterSixtyFour();
        channelsHop();
        confirmationsUseTheSameChannel();
        commandsUseTheRadioToo();
        CHECK.end("RadioTest");
    }

    private static void wrongChannels() {
        SlottedMesh mesh = new SlottedMesh(2, 8, 3);
        for (int channel = 0; channel < 3; channel++) {
            CHECK.due("radio(" + channel + ")", mesh.radio(channel, -1L, -1L), true);
            CHECK.due("the same again", mesh.radio(channel, -1L, -1L), true);
        }
        CHECK.due("channel 3 of 3", mesh.radio(3, 0L, 0L), false);
        for (int strange : Meshes.STRANGE) {
            CHECK.due("no such channel", mesh.radio(strange, 0L, 0L), false);
        }
        mesh.pair(0, 1, true);
        mesh.plan();
        mesh.start(1);
        mesh.run(1);
        CHECK.due("a refused radio changes nothing", mesh.current(1), true);
    }

    private static void theLowestBitIsZero() {
        for (int bit = 0; bit < 64; bit++) {
            SlottedMesh mesh = new SlottedMesh(2, 9, 1);
            mesh.pair(0, 1, true);
            mesh.plan();
            mesh.start(1);
            mesh.radio(0, 1L << bit, 0L);
            // The advert of 0 stands at the multiples of nine; one of them is at each bit.
            int due = 0;
            while (due % 64 != bit) {
                CHECK.due("the advert at " + due + " is unheard", mesh.run(9), due + 9);
                due += 9;
            }
            CHECK.due("not joined before bit " + bit, mesh.current(1), false);
            mesh.run(1);
            CHECK.due("joined at bit " + bit, mesh.current(1), true);
        }
    }

    private static void bitsComeAgainAfterSixtyFour() {
        SlottedMesh mesh = Meshes.two();
        mesh.radio(0, Meshes.allBut(10), -1L);
        mesh.sample(1, 1);
        mesh.run(3);
        CHECK.due("not heard at 10", mesh.count(1, 2), 1);
        mesh.run(8);
        CHECK.due("heard at 18", mesh.latest(1), 1);
        mesh.run(53);
        mesh.sample(1, 2);
        CHECK.due("time", mesh.run(3), 75);
        CHECK.due("not heard at 74", mesh.count(1, 2), 1);
        mesh.run(8);
        CHECK.due("heard at 82", mesh.latest(1), 2);
    }

    private static void channelsHop() {
        // Slots: 0 to 2 adverts, 3 up 1 to 0 on 0, 4 down 0 to 1 on 0 ..: channel (0 + t) mod 3.
        for (int open = 0; open < 3; open++) {
            SlottedMesh mesh = new SlottedMesh(2, 10, 3);
            mesh.pair(0, 1, true);
            mesh.plan();
            mesh.start(1);
            for (int channel = 0; channel < 3; channel++) {
                mesh.radio(channel, channel == open ? -1L : 0L, -1L);
            }
            mesh.run(10 * open);
            CHECK.due("the adverts before are unheard", mesh.current(1), false);
            int time = mesh.run(1);
            CHECK.due("the advert at " + (time - 1), mesh.current(1), (time - 1) % 3 == open);
        }
        // Slot 6 has an up cell of 3 to 1 on channel 1, see the first shared run.
        SlottedMesh mesh = new SlottedMesh(4, 13, 2);
        mesh.pair(0, 1, true);
        mesh.pair(0, 2, true);
        mesh.pair(1, 3, true);
        mesh.pair(2, 3, true);
        mesh.plan();
        CHECK.due("its cell", mesh.cell(6, 1), 231);
        mesh.start(1);
        mesh.start(2);
        mesh.start(3);
        mesh.run(5);
        mesh.sample(3, 1);
        mesh.radio(0, 0L, -1L);
        mesh.run(2);
        CHECK.due("channel 1 at time 6 is 1", mesh.count(3, 0), 0);
        mesh.radio(0, -1L, -1L);
        mesh.run(11);
        mesh.radio(0, 0L, -1L);
        mesh.sample(3, 2);
        mesh.run(2);
        CHECK.due("channel 1 at time 19 is 0", mesh.count(3, 2), 1);
    }

    private static void confirmationsUseTheSameChannel() {
        SlottedMesh mesh = new SlottedMesh(2, 9, 2);
        mesh.pair(0, 1, true);
        mesh.plan();
        mesh.start(1);
        mesh.radio(1, -1L, 0L);
        mesh.sample(1, 4);
        mesh.run(3);
        CHECK.due("time 2 is channel 0", mesh.count(1, 0), 0);
        mesh.sample(1, 5);
        mesh.run(9);
        CHECK.due("time 11 is channel 1: taken", mesh.latest(1), 2);
        CHECK.due("not confirmed", mesh.count(1, 0), 1);
        CHECK.due("a fail", mesh.count(1, 2), 1);
        mesh.run(9);
        CHECK.due("time 20 is channel 0", mesh.count(1, 0), 0);
        CHECK.due("no fail any more", mesh.count(1, 2), 0);
        CHECK.due("taken once", mesh.cached(1, 2), SlottedMesh.MISSING);
        // A heard confirmation without a heard frame is nothing.
        mesh.radio(0, 0L, -1L);
        mesh.radio(1, 0L, -1L);
        mesh.sample(1, 6);
        mesh.run(9);
        CHECK.due("no frame, no confirmation", mesh.count(1, 0), 1);
        CHECK.due("nothing taken", mesh.latest(1), 2);
    }

    private static void commandsUseTheRadioToo() {
        SlottedMesh mesh = Meshes.two();
        mesh.control(1, 160, 1, 0);
        mesh.sample(1, 0);
        mesh.radio(0, Meshes.allBut(11), Meshes.allBut(19));
        mesh.run(4);
        CHECK.due("not heard at 11", mesh.actuator(1), 0);
        CHECK.due("one try", mesh.count(0, 3), 1);
        mesh.run(8);
        CHECK.due("heard at 19", mesh.actuator(1), 10);
        CHECK.due("not confirmed at 19", mesh.count(0, 3), 2);
        CHECK.due("it stays", mesh.count(0, 1), 1);
        mesh.run(8);
        CHECK.due("known and confirmed at 27", mesh.count(0, 1), 0);
        CHECK.due("tries are 0", mesh.count(0, 3), 0);
    }
}
