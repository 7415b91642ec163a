/** Meshes that several tests begin with, each with a plan and all of its nodes started and current. */
final class Meshes {
    static final int[] STRANGE = {Integer.MIN_VALUE, -9999, -2, -1, 6, 7, 100, Integer.MAX_VALUE};

    private Meshes() {
    }

    /** Slots: 0 advert of 0, 1 advert of 1, 2 up from 1, 3 down to 1, 4 to 7 empty. Time 8. */
    static SlottedMesh two() {
        SlottedMesh mesh = new SlottedMesh(2, 8, 1);
        mesh.pair(0, 1, true);
        mesh.plan();
        mesh.start(1);
        mesh.run(8);
        return mesh;
    }

    /**
     * The chain 0 - 1 - 2. Slots: 0 to 2 adverts, 3 up 1 to 0, 4 down 0 to 1, 5 up 2 to 1,
     * 6 down 1 to 2, 7 to 9 empty. Time 10.
     */
    static SlottedMesh chain() {
        SlottedMesh mesh = new SlottedMesh(3, 10, 1);
        mesh.pair(0, 1, true);
        mesh.pair(1, 2, true);
        mesh.plan();
        mesh.start(1);
        mesh.start(2);
        mesh.run(10);
        return mesh;
    }

    /**
     * 1 and 2 near 0, 3 near 1 and 2, one channel. Slots: 0 to 3 adverts, 4 up 1 to 0, 5 down 0 to 1,
     * 6 up 2 to 0, 7 down 0 to 2, 8 up 3 to 1, 9 up 3 to 2, 10 down 1 to 3, 11 empty. Time 12.
     */
    static SlottedMesh diamond() {
        SlottedMesh mesh = new SlottedMesh(4, 12, 1);
        mesh.pair(0, 1, true);
        mesh.pair(0, 2, true);
        mesh.pair(1, 3, true);
        mesh.pair(2, 3, true);
        mesh.plan();
        mesh.start(1);
        mesh.start(2);
        mesh.start(3);
        mesh.run(12);
        return mesh;
    }

    /** All bits 1 but those of the times that are named. */
    static long allBut(int... times) {
        long bits = -1L;
        for (int time : times) {
            bits &= ~(1L << (time & 63));
        }
        return bits;
    }
}
