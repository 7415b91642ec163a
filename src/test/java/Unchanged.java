import java.util.ArrayList;
import java.util.List;
import java.util.function.ToLongFunction;

/**
 * "A call that is refused changes nothing": of two meshes of one recipe one gets the call, and then both
 * must go on in the same way, so that what no call shows by itself (bits, drifts, loops, numbers) counts too.
 * No mesh gets more than 512 calls.
 */
final class Unchanged {
    private interface Probe {
        void ask(Recipe recipe, SlottedMesh mesh, List<Long> answers);
    }

    private static final List<Probe> PROBES =
            List.of(Unchanged::state, Unchanged::slotBySlot, Unchanged::pairsAndSamples);

    private final Check check;

    Unchanged(Check check) {
        this.check = check;
    }

    void due(Recipe recipe, String name, ToLongFunction<SlottedMesh> call, long due) {
        for (Probe probe : PROBES) {
            SlottedMesh with = recipe.make();
            check.due(recipe.name() + ": " + name, call.applyAsLong(with), due);
            List<Long> got = new ArrayList<>();
            List<Long> want = new ArrayList<>();
            probe.ask(recipe, with, got);
            probe.ask(recipe, recipe.make(), want);
            check.due(recipe.name() + ": " + name + " changed nothing", got.equals(want), true);
        }
    }

    private static long one(boolean answer) {
        return answer ? 1L : 0L;
    }

    private static void state(Recipe recipe, SlottedMesh mesh, List<Long> answers) {
        for (int slot = 0; slot < recipe.slots(); slot++) {
            for (int channel = 0; channel < recipe.channels(); channel++) {
                answers.add((long) mesh.cell(slot, channel));
            }
        }
        for (int node = 0; node < recipe.nodes(); node++) {
            answers.add((long) mesh.rank(node));
            answers.add((long) mesh.parent(node, 0));
            answers.add((long) mesh.parent(node, 1));
            nodeState(mesh, node, answers);
        }
        answers.add((long) mesh.sent());
    }

    private static void nodeState(SlottedMesh mesh, int node, List<Long> answers) {
        answers.add(one(mesh.current(node)));
        answers.add((long) mesh.offset(node));
        for (int row = 0; row < 4; row++) {
            answers.add((long) mesh.count(node, row));
        }
        for (int k = 0; k < 3; k++) {
            answers.add((long) mesh.cached(node, k));
        }
        answers.add((long) mesh.latest(node));
        answers.add((long) mesh.actuator(node));
    }

    private static void slotBySlot(Recipe recipe, SlottedMesh mesh, List<Long> answers) {
        for (int k = 0; k < 30; k++) {
            answers.add((long) mesh.run(1));
            answers.add((long) mesh.sent());
            for (int node = 1; node < recipe.nodes(); node++) {
                answers.add((long) mesh.offset(node));
                answers.add((long) mesh.count(node, 0));
            }
        }
        for (int node = 0; node < recipe.nodes(); node++) {
            nodeState(mesh, node, answers);
        }
    }

    private static void pairsAndSamples(Recipe recipe, SlottedMesh mesh, List<Long> answers) {
        for (int a = 0; a < recipe.nodes(); a++) {
            for (int b = 0; b < a; b++) {
                boolean near = mesh.pair(a, b, false);
                answers.add(one(near));
                if (near) {
                    mesh.pair(a, b, true);
                }
            }
        }
        for (int node = 0; node < recipe.nodes(); node++) {
            answers.add(one(mesh.start(node)));
        }
        for (int round = 0; round < 3; round++) {
            for (int node = 0; node < recipe.nodes(); node++) {
                answers.add((long) mesh.sample(node, 10 * round + node));
            }
            answers.add((long) mesh.run(64));
            for (int node = 0; node < recipe.nodes(); node++) {
                nodeState(mesh, node, answers);
            }
        }
    }
}
