/** Meshes that several tests begin with, each with a plan and all of its nodes started and current. */
final class Meshes {
    static final int[] STRANGE = {Integer.MIN_VALUE, -9999, -2, -1, 6, 7, 100, Integer.MAX_VALUE};

    private Meshes() {
    }

    /** Slots: 0 advert of 0, 1 advert of 1, 2 up from 1, 3 down to 1, 4 to 7 empty. Time 8. */
    static SlottedMesh two() {
        SlottedMesh mesh = new SlottedMesh(2, 8, 1);
        mesh.pair(0, 1, true);
        mesh.plan();
        mesh.start(1);
        mesh.run(8);
        return mesh;
    }

    /**
     * The chain 0 - 1 - 2. Slots: 0 to 2 adverts, 3 up 1 to 0, 4 down 0 to 1, 5 up 2 to 1,
     * 6 down 1 to 2, 7 to 9 empty. Time 10.
     */
    static SlottedMesh chain() {
        SlottedMesh mesh = new SlottedMesh(3, 10, 1);
        mesh.pair(0, 1, true);
        mesh.pair(1, 2, true);
        mesh.plan();
        mesh.start(1);
        mesh.start(2);
        mesh.run(10);
        return mesh;
    }

    /**
     * 1 and 2 near 0, 3 near 1 and 2, one channel. Slots: 0 to 3 adverts, 4 up 1 to 0, 5 down 0 to 1,
     * 6 up 2 to 0, 7 down 0 to 2, 8 up 3 to 1, 9 up 3 to 2, 10 down 1 to 3, 11 empty. Time 12.
     */
    static SlottedMesh diamond() {
        SlottedMesh mesh = new SlottedMesh(4, 12, 1);
        mesh.pair(0, 1, true);
        mesh.pair(0, 2, true);
        mesh.pair(1, 3, true);
        mesh.pair(2, 3, true);
        mesh.plan();
        mesh.start(1);
        mesh.start(2);
        mesh.start(3);
        mesh.run(12);
        return mesh;
    }

    /**
     * A mesh in which all kinds of state differ from those of a new object, at time 66 (slot 10 of 14):
     * 1 has four up frames, a down frame for 3, FAILS and TRIES of 1; 2 is started, not current, with two up
     * frames; 3 is current; 4 is OFF; the gateway has a down frame for 2, tried once; 0 and 4 are near each
     * other since the plan was made.
     */
    static SlottedMesh busy() {
        SlottedMesh mesh = new SlottedMesh(5, 14, 2);
        near(mesh, 0, 1, 0, 2, 1, 3, 2, 3, 3, 4);
        mesh.plan();
        startAll(mesh, 3);
        mesh.run(14);
        mesh.control(1, 100, 3, 5);
        mesh.control(2, -50, 4, 6);
        mesh.control(3, 200, 7, 2);
        mesh.control(4, 10, 1, 1);
        mesh.sample(3, 40);
        mesh.sample(2, 7);
        mesh.sample(1, -30);
        mesh.run(28);
        mesh.sample(3, 41);
        mesh.run(14);
        mesh.drift(2, -1);
        mesh.drift(3, 1);
        mesh.drift(4, 2);
        mesh.radio(0, allBut(64), allBut(77));
        mesh.radio(1, allBut(61, 64), allBut(75));
        mesh.sample(2, 8);
        for (int k = 1; k <= 4; k++) {
            mesh.sample(1, 10 * k);
        }
        mesh.run(10);
        mesh.stop(2);
        mesh.start(2);
        mesh.sample(2, 9);
        mesh.sample(2, 10);
        mesh.pair(0, 4, true);
        return mesh;
    }

    /** Makes pairs near each other, two numbers a pair. */
    static void near(SlottedMesh mesh, int... ends) {
        for (int k = 0; k + 1 < ends.length; k += 2) {
            mesh.pair(ends[k], ends[k + 1], true);
        }
    }

    /** Starts the nodes from 1 to the last one that is named. */
    static void startAll(SlottedMesh mesh, int last) {
        for (int node = 1; node <= last; node++) {
            mesh.start(node);
        }
    }

    /** All bits 1 but those of the times that are named. */
    static long allBut(int... times) {
        long bits = -1L;
        for (int time : times) {
            bits &= ~(1L << (time & 63));
        }
        return bits;
    }
}
