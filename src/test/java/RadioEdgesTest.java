/**
 * "The bit t mod 64", "the channel (c + t) mod C", "an ADVERT t mod C" and "t mod S": each bit, each channel and
 * each length of a superframe, on both sides of every wrap-around.
 */
public final class RadioEdgesTest {
    private static final Check CHECK = new Check();
    private static final int SLOTS = 9;
    private static final int[] CHAIN = {0, 1, 1, 2, 2, 3, 3, 4, 4, 5};

    public static void main(String[] args) {
        for (int bit = 0; bit < 64; bit++) {
            advertAtABit(bit);
            upFrameAtABit(bit);
            upConfirmationAtABit(bit);
            downFrameAtABit(bit);
            downConfirmationAtABit(bit);
        }
        bitsComeAgain();
        for (int channels = 1; channels <= 4; channels++) {
            for (int round = 0; round < 2 * channels; round++) {
                advertsHop(channels, round);
                upCellsHop(channels, round);
                upConfirmationsHop(channels, round);
                downCellsHop(channels, round);
            }
        }
        for (int slots = 8; slots <= 24; slots++) {
            superframesComeAgain(slots);
            aPlanBeginsInTheSlotOfItsTime(slots);
        }
        CHECK.end("RadioEdgesTest");
    }

    /** The first time from SLOTS on in a slot whose bit is the one that is asked for; SLOTS is odd, so there is one. */
    private static int timeOf(int slot, int bit) {
        int time = SLOTS + slot;
        while (time % 64 != bit) {
            time += SLOTS;
        }
        return time;
    }

    /** Two nodes that are joined, at a time: slots 0 and 1 adverts, 2 up, 3 down, 4 to 8 empty. */
    private static SlottedMesh joinedAt(int time) {
        SlottedMesh mesh = new SlottedMesh(2, SLOTS, 1);
        mesh.pair(0, 1, true);
        mesh.plan();
        mesh.start(1);
        mesh.control(1, 16, 16, 0);
        runTo(mesh, time);
        return mesh;
    }

    private static void runTo(SlottedMesh mesh, int time) {
        for (int at = 0; at < time; at += 64) {
            mesh.run(Math.min(64, time - at));
        }
    }

    private static void advertAtABit(int bit) {
        int time = timeOf(0, bit);
        for (boolean open : new boolean[] {true, false}) {
            SlottedMesh mesh = joinedAt(time);
            mesh.stop(1);
            mesh.start(1);
            mesh.radio(0, open ? 1L << bit : ~(1L << bit), open ? 0L : -1L);
            mesh.run(1);
            CHECK.due("advert at " + time + ", " + open, mesh.current(1), open);
        }
    }

    private static void upFrameAtABit(int bit) {
        int time = timeOf(2, bit);
        for (boolean open : new boolean[] {true, false}) {
            SlottedMesh mesh = joinedAt(time);
            mesh.sample(1, 5);
            mesh.radio(0, open ? 1L << bit : ~(1L << bit), -1L);
            mesh.run(1);
            CHECK.due("up frame at " + time + ", " + open, mesh.latest(1), open ? 1 : 0);
            CHECK.due("its fails", mesh.count(1, 2), open ? 0 : 1);
        }
    }

    private static void upConfirmationAtABit(int bit) {
        int time = timeOf(2, bit);
        for (boolean open : new boolean[] {true, false}) {
            SlottedMesh mesh = joinedAt(time);
            mesh.sample(1, 5);
            mesh.radio(0, -1L, open ? 1L << bit : ~(1L << bit));
            mesh.run(1);
            CHECK.due("up frame at " + time, mesh.latest(1), 1);
            CHECK.due("its confirmation, " + open, mesh.count(1, 0), open ? 0 : 1);
            CHECK.due("its fails", mesh.count(1, 2), open ? 0 : 1);
        }
    }

    private static void downFrameAtABit(int bit) {
        int time = timeOf(3, bit);
        for (boolean open : new boolean[] {true, false}) {
            SlottedMesh mesh = joinedAt(time - 1);
            mesh.sample(1, 0);
            mesh.run(1);
            mesh.radio(0, open ? 1L << bit : ~(1L << bit), -1L);
            mesh.run(1);
            CHECK.due("down frame at " + time + ", " + open, mesh.actuator(1), open ? 16 : 0);
            CHECK.due("its tries", mesh.count(0, 3), open ? 0 : 1);
        }
    }

    private static void downConfirmationAtABit(int bit) {
        int time = timeOf(3, bit);
        for (boolean open : new boolean[] {true, false}) {
            SlottedMesh mesh = joinedAt(time - 1);
            mesh.sample(1, 0);
            mesh.run(1);
            mesh.radio(0, -1L, open ? 1L << bit : ~(1L << bit));
            mesh.run(1);
            CHECK.due("down frame at " + time, mesh.actuator(1), 16);
            CHECK.due("its confirmation, " + open, mesh.count(0, 1), open ? 0 : 1);
            CHECK.due("its tries", mesh.count(0, 3), open ? 0 : 1);
        }
    }

    private static void bitsComeAgain() {
        // With eight slots the up cell is at 2 mod 8: the bits 2, 10 .. 58 come again each 64 slots.
        SlottedMesh mesh = Meshes.two();
        mesh.radio(0, Meshes.allBut(58), -1L);
        mesh.run(2);
        int number = 0;
        for (int time = 10; time < 300; time += 8) {
            boolean heard = time % 64 != 58;
            if (mesh.count(1, 0) == 0) {
                mesh.sample(1, 0);
                number++;
            }
            CHECK.due("time", mesh.run(1), time + 1);
            CHECK.due("fails at " + time, mesh.count(1, 2), heard ? 0 : 1);
            CHECK.due("latest at " + time, mesh.latest(1), heard ? number : number - 1);
            mesh.run(7);
        }
    }

    /** Opens one channel for frames and shuts the others, or the other way round. */
    private static void openFrames(SlottedMesh mesh, int channels, int channel, boolean alone) {
        for (int c = 0; c < channels; c++) {
            mesh.radio(c, (c == channel) == alone ? -1L : 0L, -1L);
        }
    }

    /** A chain of six in ten slots of three or four channels, or more slots of less, joined, at a slot of a round. */
    private static SlottedMesh chainAt(int slots, int channels, int round, int slot) {
        SlottedMesh mesh = new SlottedMesh(6, slots, channels);
        Meshes.near(mesh, CHAIN);
        CHECK.due("a chain", mesh.plan(), 16);
        Meshes.startAll(mesh, 5);
        for (int node = 1; node < 6; node++) {
            mesh.control(node, 16, 16, 0);
        }
        for (int k = 0; k <= round; k++) {
            mesh.run(slots);
        }
        if (slot > 0) {
            mesh.run(slot);
        }
        return mesh;
    }

    /** Odd and no multiple of three, so that a cell's channel moves on with each superframe. */
    private static int slotsFor(int channels) {
        return channels == 1 ? 17 : 13;
    }

    private static void advertsHop(int channels, int round) {
        int slots = slotsFor(channels);
        for (int slot = 0; slot < 5; slot++) {
            for (boolean alone : new boolean[] {true, false}) {
                SlottedMesh mesh = chainAt(slots, channels, round, slot);
                int time = (round + 1) * slots + slot;
                mesh.stop(slot + 1);
                mesh.start(slot + 1);
                openFrames(mesh, channels, time % channels, alone);
                mesh.run(1);
                CHECK.due("advert of " + slot + " at " + time + " of " + channels, mesh.current(slot + 1), alone);
            }
        }
    }

    private static void upCellsHop(int channels, int round) {
        int slots = slotsFor(channels);
        for (int slot = 6; slot < slots; slot++) {
            for (int c = 0; c < channels; c++) {
                for (boolean alone : new boolean[] {true, false}) {
                    SlottedMesh mesh = chainAt(slots, channels, round, slot);
                    int code = mesh.cell(slot, c);
                    if (code < 200 || code >= 300) {
                        continue;
                    }
                    int from = code / 10 % 10;
                    int time = (round + 1) * slots + slot;
                    mesh.sample(from, 5);
                    openFrames(mesh, channels, (c + time) % channels, alone);
                    mesh.run(1);
                    CHECK.due("cell " + code + " at " + time + " of " + channels, mesh.count(from, 0), alone ? 0 : 1);
                    CHECK.due("its fails", mesh.count(from, 2), alone ? 0 : 1);
                }
            }
        }
    }

    private static void upConfirmationsHop(int channels, int round) {
        int slots = slotsFor(channels);
        for (int c = 0; c < channels; c++) {
            for (boolean alone : new boolean[] {true, false}) {
                SlottedMesh mesh = chainAt(slots, channels, round, 6);
                int code = mesh.cell(6, c);
                if (code == 0) {
                    continue;
                }
                int from = code / 10 % 10;
                int to = code % 10;
                int time = (round + 1) * slots + 6;
                mesh.sample(from, 5);
                for (int k = 0; k < channels; k++) {
                    mesh.radio(k, -1L, (k == (c + time) % channels) == alone ? -1L : 0L);
                }
                mesh.run(1);
                CHECK.due("taken", to == 0 ? mesh.latest(from) : mesh.count(to, 0), 1);
                CHECK.due("confirmation of " + code + " at " + time, mesh.count(from, 0), alone ? 0 : 1);
            }
        }
    }

    private static void downCellsHop(int channels, int round) {
        int slots = slotsFor(channels);
        SlottedMesh mesh = chainAt(slots, channels, round, 0);
        mesh.sample(5, 0);
        int time = (round + 1) * slots;
        for (int k = 0; k < 6 * slots && mesh.count(0, 1) == 0; k++) {
            time = mesh.run(1);
        }
        for (int to = 1; to < 6; to++) {
            int[] place = placeOf(300 + 10 * (to - 1) + to, slots, channels);
            int wait = Math.floorMod(place[0] - time, slots);
            if (wait > 0) {
                mesh.run(wait);
            }
            time += wait;
            sendDown(mesh, channels, (place[1] + time) % channels, to, false);
            mesh.run(slots - 1);
            time += slots;
            sendDown(mesh, channels, (place[1] + time) % channels, to, true);
            time++;
        }
        CHECK.due("the command came to 5", mesh.actuator(5), 16);
    }

    /** One slot in which a command goes down to a node, with one channel open, or all but that one. */
    private static void sendDown(SlottedMesh mesh, int channels, int channel, int to, boolean alone) {
        int sent = mesh.sent();
        openFrames(mesh, channels, channel, alone);
        mesh.run(1);
        for (int c = 0; c < channels; c++) {
            mesh.radio(c, -1L, -1L);
        }
        String name = "down to " + to + " on " + channel + " of " + channels + ", open alone " + alone;
        CHECK.due(name + ": sent", mesh.sent(), sent + 1);
        CHECK.due(name + ": frames", mesh.count(to - 1, 1), alone ? 0 : 1);
        CHECK.due(name + ": tries", mesh.count(to - 1, 3), alone ? 0 : 1);
    }

    /** The slot and the channel of a cell of the chain of six. */
    private static int[] placeOf(int code, int slots, int channels) {
        SlottedMesh mesh = chainAt(slots, channels, 0, 0);
        for (int slot = 0; slot < slots; slot++) {
            for (int channel = 0; channel < channels; channel++) {
                if (mesh.cell(slot, channel) == code) {
                    return new int[] {slot, channel};
                }
            }
        }
        CHECK.due("there is a cell " + code, false, true);
        return new int[] {0, 0};
    }

    private static void superframesComeAgain(int slots) {
        SlottedMesh mesh = new SlottedMesh(2, slots, 1);
        mesh.pair(0, 1, true);
        mesh.plan();
        int time = 0;
        for (int k = 0; k < 120; k++) {
            mesh.start(1);
            mesh.run(1);
            CHECK.due("advert at " + time + " of " + slots, mesh.current(1), time % slots == 0);
            mesh.stop(1);
            time++;
        }
    }

    private static void aPlanBeginsInTheSlotOfItsTime(int slots) {
        for (int begin = 1; begin <= slots + 1; begin++) {
            SlottedMesh mesh = new SlottedMesh(2, slots, 1);
            mesh.pair(0, 1, true);
            mesh.start(1);
            mesh.run(begin);
            mesh.plan();
            int wait = (slots - begin % slots) % slots;
            if (wait > 0) {
                mesh.run(wait);
            }
            CHECK.due("before slot 0, plan at " + begin, mesh.current(1), false);
            mesh.run(1);
            CHECK.due("in slot 0, plan at " + begin, mesh.current(1), true);
        }
    }
}
