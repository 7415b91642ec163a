import java.util.Arrays;
import java.util.LinkedHashMap;
import java.util.Map;
import java.util.TreeSet;
import java.util.function.ToLongFunction;

/**
 * What a call that is done leaves alone: of all that the class answers only what the document names may differ
 * before and behind it, and what no answer shows by itself (bits, drifts, loops, numbers) goes on as before.
 */
public final class StaysTest {
    private static final Check CHECK = new Check();

    public static void main(String[] args) {
        callsThatShowNothing();
        aSampleShowsInItsRow();
        aPlanNamesWhatItChanges();
        aPlanLeavesDriftsAndBits();
        aPlanLeavesLoopsAndNumbers();
        stopNamesWhatItChanges();
        stopAndStartLeaveTheLoop();
        startShowsNothing();
        aLossOfCurrentIsAllThatFourFailsDo();
        joiningSetsTheClockAlone();
        aTryIsAllThatATargetOutOfReachCosts();
        CHECK.end("StaysTest");
    }

    /** All that a mesh answers of its state, by call. */
    private static Map<String, Long> state(SlottedMesh mesh, int nodes, int slots, int channels) {
        Map<String, Long> all = new LinkedHashMap<>();
        for (int slot = 0; slot < slots; slot++) {
            for (int channel = 0; channel < channels; channel++) {
                all.put("cell " + slot + " " + channel, (long) mesh.cell(slot, channel));
            }
        }
        for (int node = 0; node < nodes; node++) {
            all.put("rank " + node, (long) mesh.rank(node));
            all.put("current " + node, mesh.current(node) ? 1L : 0L);
            all.put("offset " + node, (long) mesh.offset(node));
            all.put("latest " + node, (long) mesh.latest(node));
            all.put("actuator " + node, (long) mesh.actuator(node));
            for (int k = 0; k < 4; k++) {
                all.put("parent " + node + " " + k, (long) mesh.parent(node, k));
                all.put("count " + node + " " + k, (long) mesh.count(node, k));
                all.put("cached " + node + " " + k, (long) mesh.cached(node, k));
            }
        }
        all.put("sent", (long) mesh.sent());
        return all;
    }

    /** The call's answer, and all that differs behind it, each as "what: before to behind". */
    private static void due(SlottedMesh mesh, int[] sizes, String name, ToLongFunction<SlottedMesh> call,
            long answer, String... changes) {
        Map<String, Long> before = state(mesh, sizes[0], sizes[1], sizes[2]);
        CHECK.due(name, call.applyAsLong(mesh), answer);
        Map<String, Long> behind = state(mesh, sizes[0], sizes[1], sizes[2]);
        TreeSet<String> found = new TreeSet<>();
        for (Map.Entry<String, Long> one : before.entrySet()) {
            if (!one.getValue().equals(behind.get(one.getKey()))) {
                found.add(one.getKey() + ": " + one.getValue() + " to " + behind.get(one.getKey()));
            }
        }
        CHECK.due(name + " changed " + found, found.equals(new TreeSet<>(Arrays.asList(changes))), true);
    }

    private static void busy(String name, ToLongFunction<SlottedMesh> call, long answer, String... changes) {
        due(Meshes.busy(), new int[] {5, 14, 2}, name, call, answer, changes);
    }

    private static long one(boolean answer) {
        return answer ? 1L : 0L;
    }

    private static void callsThatShowNothing() {
        busy("near now", m -> one(m.pair(1, 2, true)), 1);
        busy("not near now", m -> one(m.pair(3, 1, false)), 1);
        busy("start", m -> one(m.start(4)), 1);
        busy("drift of a current node", m -> one(m.drift(1, 3)), 1);
        busy("drift of an OFF node", m -> one(m.drift(4, -3)), 1);
        busy("radio", m -> one(m.radio(1, 0L, 0L)), 1);
        busy("control", m -> one(m.control(3, -1000, 16, 16)), 1);
        busy("control of an OFF node", m -> one(m.control(4, 1000, 0, 0)), 1);
    }

    private static void aSampleShowsInItsRow() {
        busy("sample of a node that is not current", m -> m.sample(2, 1000), 5, "count 2 0: 2 to 3");
        busy("sample of a current node", m -> m.sample(3, -1000), 3, "count 3 0: 0 to 1");
    }

    private static void aPlanNamesWhatItChanges() {
        SlottedMesh mesh = Meshes.busy();
        mesh.pair(0, 4, false);
        due(mesh, new int[] {5, 14, 2}, "the same plan again", SlottedMesh::plan, 14,
                "current 1: 1 to 0", "current 3: 1 to 0", "count 0 1: 1 to 0", "count 0 3: 1 to 0",
                "count 1 1: 1 to 0", "count 1 2: 1 to 0", "count 1 3: 1 to 0");
        CHECK.due("pairs stay", mesh.pair(0, 1, true), false);
        CHECK.due("pairs stay", mesh.pair(0, 4, false), false);
        CHECK.due("1 stays started", mesh.start(1), false);
        CHECK.due("4 stays OFF", mesh.start(4), true);
        CHECK.due("time stays", mesh.run(1), 67);
    }

    private static void aPlanLeavesDriftsAndBits() {
        SlottedMesh mesh = Meshes.two();
        mesh.drift(1, 2);
        mesh.radio(0, Meshes.allBut(8, 16), Meshes.allBut(26));
        CHECK.due("plan", mesh.plan(), 4);
        mesh.sample(1, 5);
        mesh.run(16);
        CHECK.due("two adverts are not heard", mesh.current(1), false);
        CHECK.due("it drifts on", mesh.offset(1), 32);
        mesh.run(3);
        CHECK.due("time 27: it joined at 24 and was taken", mesh.latest(1), 1);
        CHECK.due("the confirmation is not heard", mesh.count(1, 2), 1);
    }

    private static void aPlanLeavesLoopsAndNumbers() {
        SlottedMesh mesh = Meshes.two();
        mesh.control(1, 48, 1, 2);
        mesh.sample(1, 0);
        mesh.run(8);
        CHECK.due("(48 + 2 * 48) / 16", mesh.actuator(1), 9);
        mesh.radio(0, -1L, Meshes.allBut(18));
        mesh.sample(1, 0);
        mesh.run(3);
        CHECK.due("time 19: taken, not confirmed", mesh.count(1, 0), 1);
        CHECK.due("plan", mesh.plan(), 4);
        CHECK.due("the actuator stays", mesh.actuator(1), 9);
        mesh.run(8);
        CHECK.due("time 27: known to the gateway", mesh.count(1, 0), 0);
        CHECK.due("no third sample", mesh.cached(1, 2), SlottedMesh.MISSING);
        CHECK.due("its command went with the old plan", mesh.actuator(1), 9);
        CHECK.due("numbers go on", mesh.sample(1, 0), 3);
        mesh.run(9);
        CHECK.due("(48 + 2 * 144) / 16", mesh.actuator(1), 21);
    }

    private static void stopNamesWhatItChanges() {
        busy("stop of 1", m -> one(m.stop(1)), 1, "current 1: 1 to 0", "count 1 0: 4 to 0", "count 1 1: 1 to 0",
                "count 1 2: 1 to 0", "count 1 3: 1 to 0");
        SlottedMesh mesh = Meshes.busy();
        int offset = mesh.offset(3);
        due(mesh, new int[] {5, 14, 2}, "stop of 3", m -> one(m.stop(3)), 1, "current 3: 1 to 0",
                "offset 3: " + offset + " to 0");
    }

    private static void stopAndStartLeaveTheLoop() {
        SlottedMesh mesh = Meshes.two();
        mesh.control(1, 48, 1, 2);
        mesh.sample(1, 0);
        mesh.run(8);
        mesh.stop(1);
        CHECK.due("the actuator stays over stop", mesh.actuator(1), 9);
        CHECK.due("what the gateway took stays", mesh.latest(1), 1);
        mesh.start(1);
        CHECK.due("and over start", mesh.actuator(1), 9);
        CHECK.due("numbers go on", mesh.sample(1, 0), 2);
        mesh.run(8);
        CHECK.due("(48 + 2 * 96) / 16", mesh.actuator(1), 15);
        CHECK.due("both are kept", mesh.cached(1, 1), 0);
    }

    private static void startShowsNothing() {
        SlottedMesh mesh = Meshes.busy();
        mesh.stop(3);
        CHECK.due("it has an actuator", mesh.actuator(3) != 0, true);
        due(mesh, new int[] {5, 14, 2}, "start of 3", m -> one(m.start(3)), 1);
    }

    /**
     * The chain, 1 with an up frame of its own and a command for 2, near nobody, with an offset of 3. At time 63
     * it has three FAILS (33, 43, 53) and four TRIES (26, 36, 46, 56).
     */
    private static SlottedMesh cutOff() {
        SlottedMesh mesh = Meshes.chain();
        mesh.control(1, 160, 1, 0);
        mesh.control(2, 160, 1, 0);
        mesh.sample(1, 0);
        mesh.sample(2, 0);
        mesh.run(15);
        mesh.pair(0, 1, false);
        mesh.pair(1, 2, false);
        mesh.sample(1, 7);
        mesh.drift(1, 1);
        mesh.run(3);
        mesh.drift(1, 0);
        mesh.run(35);
        return mesh;
    }

    private static void aLossOfCurrentIsAllThatFourFailsDo() {
        SlottedMesh mesh = cutOff();
        CHECK.due("an actuator", mesh.actuator(1), 10);
        CHECK.due("an up frame", mesh.count(1, 0), 1);
        CHECK.due("a down frame", mesh.count(1, 1), 1);
        CHECK.due("four tries", mesh.count(1, 3), 4);
        CHECK.due("an offset", mesh.offset(1), 3);
        due(mesh, new int[] {3, 10, 1}, "the fourth fail", m -> m.run(1), 64, "current 1: 1 to 0",
                "count 1 2: 3 to 0", "sent: 12 to 13");
        CHECK.due("it is started", mesh.start(1), false);
    }

    private static void joiningSetsTheClockAlone() {
        SlottedMesh mesh = cutOff();
        CHECK.due("before the advert", mesh.run(7), 70);
        mesh.pair(0, 1, true);
        due(mesh, new int[] {3, 10, 1}, "joining", m -> m.run(1), 71, "current 1: 0 to 1", "offset 1: 3 to 0");
    }

    private static void aTryIsAllThatATargetOutOfReachCosts() {
        SlottedMesh mesh = cutOff();
        mesh.run(1);
        mesh.pair(0, 1, true);
        mesh.run(12);
        CHECK.due("joined: both samples are at 0", mesh.latest(1), 2);
        due(mesh, new int[] {3, 10, 1}, "the fifth try", m -> m.run(1), 77, "count 1 3: 4 to 5", "sent: 15 to 16");
        mesh.run(9);
        due(mesh, new int[] {3, 10, 1}, "the sixth try", m -> m.run(1), 87, "count 1 1: 1 to 0",
                "count 1 3: 5 to 0", "sent: 16 to 17");
        CHECK.due("there is no seventh", mesh.run(64), 151);
        CHECK.due("none was sent", mesh.sent(), 17);
        CHECK.due("its target never took it", mesh.actuator(2), 0);
    }
}
