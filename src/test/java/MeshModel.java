import java.util.ArrayList;
import java.util.Arrays;
import java.util.Comparator;
import java.util.HashMap;
import java.util.HashSet;
import java.util.List;
import java.util.Map;
import java.util.Set;
import java.util.TreeSet;

/**
 * The document's words once more, written apart from the program and without a thought of its limits,
 * for ModelTest to compare both.
 */
final class MeshModel {
    record Frame(int end, int number, int value) {
    }

    record Cell(String kind, int slot, int channel, int from, int to) {
        boolean has(int node) {
            return from == node || to == node;
        }
    }

    record Plan(Map<Integer, Integer> rank, Map<Integer, List<Integer>> parents, List<Cell> cells) {
        int first(int node) {
            List<Integer> all = parents.get(node);
            return all.isEmpty() ? -1 : all.get(0);
        }
    }

    final int n;
    final int slots;
    final int channels;
    final Set<Set<Integer>> near = new HashSet<>();
    final Set<Integer> started = new TreeSet<>(List.of(0));
    final Set<Integer> current = new TreeSet<>(List.of(0));
    final int[] offset;
    final int[] drift;
    final int[] fails;
    final int[] tries;
    final int[] number;
    final int[] actuator;
    final int[][] control;
    final int[] sum;
    final List<List<Frame>> up = new ArrayList<>();
    final List<List<Frame>> down = new ArrayList<>();
    final List<Map<Integer, Integer>> upTop = new ArrayList<>();
    final List<Map<Integer, Integer>> downTop = new ArrayList<>();
    final List<List<Integer>> samples = new ArrayList<>();
    final long[] frames;
    final long[] confirmations;
    Plan plan;
    int time;
    int sent;

    MeshModel(int nodes, int slots, int channels) {
        this.n = nodes < 2 ? 2 : nodes > 6 ? 6 : nodes;
        this.slots = slots < 8 ? 8 : slots > 24 ? 24 : slots;
        this.channels = channels < 1 ? 1 : channels > 4 ? 4 : channels;
        offset = new int[n];
        drift = new int[n];
        fails = new int[n];
        tries = new int[n];
        number = new int[n];
        actuator = new int[n];
        control = new int[n][3];
        sum = new int[n];
        for (int k = 0; k < n; k++) {
            up.add(new ArrayList<>());
            down.add(new ArrayList<>());
            upTop.add(new HashMap<>());
            downTop.add(new HashMap<>());
            samples.add(new ArrayList<>());
        }
        frames = new long[this.channels];
        confirmations = new long[this.channels];
        Arrays.fill(frames, -1L);
        Arrays.fill(confirmations, -1L);
    }

    boolean node(int a) {
        return 0 <= a && a < n;
    }

    boolean isNear(int a, int b) {
        return a != b && near.contains(Set.of(a, b));
    }

    boolean pair(int a, int b, boolean on) {
        if (!node(a) || !node(b) || a == b) {
            return false;
        }
        return on ? near.add(Set.of(a, b)) : near.remove(Set.of(a, b));
    }

    int plan() {
        Plan made = findPlan();
        if (made == null) {
            return -1;
        }
        plan = made;
        current.clear();
        current.add(0);
        Arrays.fill(fails, 0);
        Arrays.fill(tries, 0);
        down.forEach(List::clear);
        return made.cells().size();
    }

    private Plan findPlan() {
        Map<Integer, Integer> rank = new HashMap<>();
        List<Integer> queue = new ArrayList<>(List.of(0));
        rank.put(0, 0);
        for (int k = 0; k < queue.size(); k++) {
            int at = queue.get(k);
            for (int other = 0; other < n; other++) {
                if (isNear(at, other) && !rank.containsKey(other)) {
                    rank.put(other, rank.get(at) + 1);
                    queue.add(other);
                }
            }
        }
        if (queue.size() < n) {
            return null;
        }
        Map<Integer, List<Integer>> parents = new HashMap<>();
        for (int a = 0; a < n; a++) {
            List<Integer> all = new ArrayList<>();
            for (int b = 0; b < n; b++) {
                if (isNear(a, b) && rank.get(b) == rank.get(a) - 1 && all.size() < 2) {
                    all.add(b);
                }
            }
            parents.put(a, all);
        }
        queue.sort(Comparator.<Integer>comparingInt(rank::get).thenComparingInt(a -> a));
        List<Cell> cells = new ArrayList<>();
        for (int a : queue) {
            cells.add(new Cell("ADVERT", cells.size(), -1, a, -1));
        }
        for (int a : queue) {
            if (a == 0) {
                continue;
            }
            for (int b : parents.get(a)) {
                if (!place(cells, "UP", a, b)) {
                    return null;
                }
            }
            if (!place(cells, "DOWN", parents.get(a).get(0), a)) {
                return null;
            }
        }
        return new Plan(rank, parents, cells);
    }

    private boolean place(List<Cell> cells, String kind, int a, int b) {
        for (int s = 0; s < slots; s++) {
            for (int c = 0; c < channels; c++) {
                final int slot = s;
                final int channel = c;
                boolean taken = cells.stream().anyMatch(x -> x.slot() == slot
                        && (x.channel() == channel || x.kind().equals("ADVERT") || x.has(a) || x.has(b)));
                if (!taken) {
                    cells.add(new Cell(kind, s, c, a, b));
                    return true;
                }
            }
        }
        return false;
    }

    boolean start(int a) {
        return node(a) && started.add(a);
    }

    boolean stop(int a) {
        if (a == 0 || !started.remove(a)) {
            return false;
        }
        current.remove(a);
        up.get(a).clear();
        down.get(a).clear();
        fails[a] = 0;
        tries[a] = 0;
        offset[a] = 0;
        upTop.get(a).clear();
        downTop.get(a).keySet().removeIf(target -> target != a);
        return true;
    }

    boolean drift(int a, int d) {
        if (!node(a) || a == 0 || d < -3 || d > 3) {
            return false;
        }
        drift[a] = d;
        return true;
    }

    boolean radio(int c, long f, long k) {
        if (c < 0 || c >= channels) {
            return false;
        }
        frames[c] = f;
        confirmations[c] = k;
        return true;
    }

    int sample(int a, int value) {
        if (a == 0 || !started.contains(a) || value < -1000 || value > 1000 || up.get(a).size() == 4) {
            return -1;
        }
        number[a] = number[a] + 1;
        up.get(a).add(new Frame(a, number[a], value));
        return number[a];
    }

    boolean control(int a, int target, int p, int i) {
        if (!node(a) || a == 0 || target < -1000 || target > 1000 || p < 0 || p > 16 || i < 0 || i > 16) {
            return false;
        }
        control[a] = new int[] {target, p, i};
        return true;
    }

    int run(int count) {
        if (count < 1 || count > 64) {
            return -1;
        }
        for (int k = 0; k < count; k++) {
            slot();
        }
        return time;
    }

    private void slot() {
        for (int a : started) {
            offset[a] += a == 0 ? 0 : drift[a];
        }
        if (plan != null) {
            for (Cell cell : plan.cells()) {
                if (cell.slot() == time % slots) {
                    play(cell);
                }
            }
        }
        time++;
    }

    private void play(Cell cell) {
        switch (cell.kind()) {
            case "ADVERT" -> advert(cell.from(), time % channels);
            case "UP" -> up(cell.from(), cell.to(), (cell.channel() + time) % channels);
            default -> down(cell.from(), cell.to(), (cell.channel() + time) % channels);
        }
    }

    private boolean bit(long[] rows, int channel) {
        return (rows[channel] & (1L << (time % 64))) != 0;
    }

    private boolean close(int a, int b) {
        int d = offset[a] - offset[b];
        return -10 <= d && d <= 10;
    }

    private void advert(int u, int channel) {
        if (!current.contains(u) || !bit(frames, channel)) {
            return;
        }
        Set<Integer> were = new HashSet<>(current);
        for (int a : started) {
            if (!isNear(a, u)) {
                continue;
            }
            if (!were.contains(a)) {
                current.add(a);
                offset[a] = offset[u];
                fails[a] = 0;
            } else if (plan.first(a) == u && close(a, u)) {
                offset[a] = offset[u];
            }
        }
    }

    private boolean hears(int b, int a, int channel) {
        return current.contains(b) && isNear(a, b) && close(a, b) && bit(frames, channel);
    }

    private void up(int a, int b, int channel) {
        if (!current.contains(a) || up.get(a).isEmpty()) {
            return;
        }
        sent++;
        Frame frame = up.get(a).get(0);
        boolean good = false;
        if (hears(b, a, channel)) {
            if (frame.number() <= upTop.get(b).getOrDefault(frame.end(), 0)) {
                good = true;
            } else if (b == 0 || up.get(b).size() < 4) {
                good = true;
                upTop.get(b).put(frame.end(), frame.number());
                if (b == 0) {
                    cache(frame);
                } else {
                    up.get(b).add(frame);
                }
            }
        }
        if (good && bit(confirmations, channel)) {
            up.get(a).remove(0);
            fails[a] = 0;
            if (plan.first(a) == b) {
                offset[a] = offset[b];
            }
        } else if (++fails[a] == 4) {
            fails[a] = 0;
            current.remove(a);
        }
    }

    private void cache(Frame frame) {
        int source = frame.end();
        samples.get(source).add(0, frame.value());
        int e = control[source][0] - frame.value();
        sum[source] = Math.min(2000, Math.max(-2000, sum[source] + e));
        double exact = (control[source][1] * e + control[source][2] * sum[source]) / 16.0;
        int command = (int) Math.min(500, Math.max(-500, Math.floor(exact)));
        if (down.get(0).size() < 4) {
            down.get(0).add(new Frame(source, frame.number(), command));
        }
    }

    private boolean below(int target, int b) {
        for (int at = target; at != -1; at = plan.first(at)) {
            if (at == b) {
                return true;
            }
        }
        return false;
    }

    private void down(int a, int b, int channel) {
        if (!current.contains(a) || down.get(a).isEmpty() || !below(down.get(a).get(0).end(), b)) {
            return;
        }
        sent++;
        Frame frame = down.get(a).get(0);
        boolean good = false;
        if (hears(b, a, channel)) {
            offset[b] = offset[a];
            if (frame.number() <= downTop.get(b).getOrDefault(frame.end(), 0)) {
                good = true;
            } else if (b == frame.end() || down.get(b).size() < 4) {
                good = true;
                downTop.get(b).put(frame.end(), frame.number());
                if (b == frame.end()) {
                    actuator[b] = frame.value();
                } else {
                    down.get(b).add(frame);
                }
            }
        }
        if (good && bit(confirmations, channel)) {
            down.get(a).remove(0);
            tries[a] = 0;
        } else if (++tries[a] == 6) {
            tries[a] = 0;
            down.get(a).remove(0);
        }
    }

    int rank(int a) {
        return plan == null || !node(a) ? -1 : plan.rank().get(a);
    }

    int parent(int a, int k) {
        if (plan == null || !node(a) || k < 0 || k >= plan.parents().get(a).size()) {
            return -1;
        }
        return plan.parents().get(a).get(k);
    }

    int cell(int s, int c) {
        if (s < 0 || s >= slots || c < 0 || c >= channels) {
            return -1;
        }
        if (plan != null) {
            for (Cell x : plan.cells()) {
                if (x.slot() == s && x.kind().equals("ADVERT")) {
                    return 100 + 10 * x.from();
                }
                if (x.slot() == s && x.channel() == c) {
                    return (x.kind().equals("UP") ? 200 : 300) + 10 * x.from() + x.to();
                }
            }
        }
        return 0;
    }

    boolean current(int a) {
        return current.contains(a);
    }

    int offset(int a) {
        return node(a) ? offset[a] : -9999;
    }

    int count(int a, int row) {
        if (!node(a) || row < 0 || row > 3) {
            return -1;
        }
        return new int[] {up.get(a).size(), down.get(a).size(), fails[a], tries[a]}[row];
    }

    int cached(int a, int k) {
        if (!node(a) || k < 0 || k > 2 || k >= samples.get(a).size()) {
            return -9999;
        }
        return samples.get(a).get(k);
    }

    int latest(int a) {
        return node(a) ? upTop.get(0).getOrDefault(a, 0) : -1;
    }

    int actuator(int a) {
        return node(a) && a != 0 ? actuator[a] : -9999;
    }

    int sent() {
        return sent;
    }
}
