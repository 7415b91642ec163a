import java.util.function.Supplier;

/** A mesh that can be made again and again in the same state, with its sizes. */
record Recipe(String name, int nodes, int slots, int channels, Supplier<SlottedMesh> maker) {
    SlottedMesh make() {
        return maker.get();
    }
}
