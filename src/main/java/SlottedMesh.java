import java.util.Arrays;

/**
 * A mesh of radio nodes in time slots, with a manager that plans its superframe and a gateway,
 * node 0, that collects samples and sends commands back.
 */
public final class SlottedMesh {
    public static final int NONE = -1;
    public static final int MISSING = -9999;

    private static final int GATEWAY = 0;
    private static final int MOST_FAILS = 4;
    private static final int MOST_TRIES = 6;
    private static final int MOST_CLOCK_DIFFERENCE = 10;
    private static final int MOST_DRIFT = 3;
    private static final int MOST_VALUE = 1000;
    private static final int MOST_GAIN = 16;
    private static final int MOST_SLOTS_A_RUN = 64;

    private final int slots;
    private final int channels;
    private final Node[] nodes;
    private final Channel[] air;
    private final Loop[] loops;
    // Two plans are made once and change places, so that a plan that fails leaves the old one whole.
    private Plan active;
    private Plan spare;
    private int time;
    private int sentFrames;

    public SlottedMesh(int nodes, int slots, int channels) {
        int size = nearest(nodes, 2, 6);
        this.slots = nearest(slots, 8, 24);
        this.channels = nearest(channels, 1, 4);
        this.nodes = new Node[size];
        this.loops = new Loop[size];
        for (int k = 0; k < size; k++) {
            this.nodes[k] = new Node(k, size);
            this.loops[k] = new Loop();
        }
        this.air = new Channel[this.channels];
        for (int k = 0; k < this.channels; k++) {
            this.air[k] = new Channel();
        }
        this.active = new Plan(size, this.slots, this.channels);
        this.spare = new Plan(size, this.slots, this.channels);
        this.time = 0;
        this.sentFrames = 0;
    }

    public boolean pair(int a, int b, boolean near) {
        if (!isNode(a) || !isNode(b) || a == b || nodes[a].near[b] == near) {
            return false;
        }
        nodes[a].near[b] = near;
        nodes[b].near[a] = near;
        return true;
    }

    public int plan() {
        if (!spare.make(nodes)) {
            return NONE;
        }
        Plan made = spare;
        spare = active;
        active = made;
        for (int k = 0; k < nodes.length; k++) {
            nodes[k].enterPlan();
        }
        return active.size;
    }

    public boolean start(int node) {
        if (!isNode(node) || nodes[node].started) {
            return false;
        }
        nodes[node].started = true;
        nodes[node].current = false;
        return true;
    }

    public boolean stop(int node) {
        if (!isFieldNode(node) || !nodes[node].started) {
            return false;
        }
        nodes[node].switchOff();
        return true;
    }

    public boolean drift(int node, int drift) {
        if (!isFieldNode(node) || !isWithin(drift, -MOST_DRIFT, MOST_DRIFT)) {
            return false;
        }
        nodes[node].clockDrift = drift;
        return true;
    }

    public boolean radio(int channel, long frames, long confirmations) {
        if (!isChannel(channel)) {
            return false;
        }
        air[channel].frames = frames;
        air[channel].confirmations = confirmations;
        return true;
    }

    public int sample(int node, int value) {
        if (!isFieldNode(node) || !nodes[node].started || !isWithin(value, -MOST_VALUE, MOST_VALUE)) {
            return NONE;
        }
        Node source = nodes[node];
        if (!source.ups.append(node, source.samples + 1, value)) {
            return NONE;
        }
        source.samples++;
        return source.samples;
    }

    public boolean control(int source, int target, int p, int i) {
        if (!isFieldNode(source) || !isWithin(target, -MOST_VALUE, MOST_VALUE)
                || !isWithin(p, 0, MOST_GAIN) || !isWithin(i, 0, MOST_GAIN)) {
            return false;
        }
        loops[source].target = target;
        loops[source].p = p;
        loops[source].i = i;
        return true;
    }

    public int run(int n) {
        if (!isWithin(n, 1, MOST_SLOTS_A_RUN)) {
            return NONE;
        }
        for (int k = 0; k < n; k++) {
            driftClocks();
            if (active.made) {
                playCells(Math.floorMod(time, slots));
            }
            time++;
        }
        return time;
    }

    public int rank(int node) {
        return active.made && isNode(node) ? active.ranks[node] : NONE;
    }

    public int parent(int node, int k) {
        if (!active.made || !isNode(node)) {
            return NONE;
        }
        if (k == 0) {
            return active.firsts[node];
        }
        return k == 1 ? active.seconds[node] : NONE;
    }

    public int cell(int slot, int channel) {
        if (!isWithin(slot, 0, slots - 1) || !isChannel(channel)) {
            return NONE;
        }
        return active.made ? active.codeAt(slot, channel) : Plan.EMPTY;
    }

    public boolean current(int node) {
        return isNode(node) && nodes[node].current;
    }

    public int offset(int node) {
        return isNode(node) ? nodes[node].clock : MISSING;
    }

    public int count(int node, int row) {
        if (!isNode(node)) {
            return NONE;
        }
        switch (row) {
            case 0:
                return nodes[node].ups.size;
            case 1:
                return nodes[node].downs.size;
            case 2:
                return nodes[node].fails;
            case 3:
                return nodes[node].tries;
            default:
                return NONE;
        }
    }

    public int cached(int source, int k) {
        if (!isNode(source) || k < 0 || k >= loops[source].kept) {
            return MISSING;
        }
        return loops[source].newest[k];
    }

    public int latest(int source) {
        return isNode(source) ? nodes[GATEWAY].upsTaken[source] : NONE;
    }

    public int actuator(int node) {
        return isFieldNode(node) ? nodes[node].actuatorValue : MISSING;
    }

    public int sent() {
        return sentFrames;
    }

    private static int nearest(int value, int least, int most) {
        return Math.max(least, Math.min(most, value));
    }

    private static boolean isWithin(int value, int least, int most) {
        return value >= least && value <= most;
    }

    private boolean isNode(int node) {
        return node >= 0 && node < nodes.length;
    }

    private boolean isFieldNode(int node) {
        return isNode(node) && node != GATEWAY;
    }

    private boolean isChannel(int channel) {
        return channel >= 0 && channel < channels;
    }

    private void driftClocks() {
        for (int k = 0; k < nodes.length; k++) {
            // The gateway's drift can't be set, so its clock stays.
            if (nodes[k].started) {
                nodes[k].clock += nodes[k].clockDrift;
            }
        }
    }

    private void playCells(int slot) {
        for (int c = 0; c < channels; c++) {
            int code = active.codeAt(slot, c);
            Node from = nodes[Plan.fromOf(code)];
            Node to = nodes[Plan.toOf(code)];
            Channel used = air[Math.floorMod(c + time, channels)];
            switch (Plan.kindOf(code)) {
                case Plan.ADVERT:
                    // It stands on every channel, but is sent once, on that of channel 0.
                    if (c == 0) {
                        advertise(from, used);
                    }
                    break;
                case Plan.UP:
                    sendUp(from, to, used);
                    break;
                case Plan.DOWN:
                    sendDown(from, to, used);
                    break;
                default:
                    break;
            }
        }
    }

    private void advertise(Node sender, Channel used) {
        if (!sender.current || !used.carriesFrame(time)) {
            return;
        }
        for (int k = 0; k < nodes.length; k++) {
            if (sender.near[k] && nodes[k].started) {
                answerAdvert(nodes[k], sender);
            }
        }
    }

    private void answerAdvert(Node node, Node sender) {
        if (!node.current) {
            node.current = true;
            node.clock = sender.clock;
            node.fails = 0;
        } else if (active.firsts[node.number] == sender.number && node.clockIsCloseTo(sender)) {
            node.clock = sender.clock;
        }
    }

    private boolean hears(Node receiver, Node sender, Channel used) {
        return receiver.current && receiver.near[sender.number]
                && receiver.clockIsCloseTo(sender) && used.carriesFrame(time);
    }

    private void sendUp(Node sender, Node receiver, Channel used) {
        if (!sender.current || sender.ups.size == 0) {
            return;
        }
        sentFrames++;
        boolean settled = hears(receiver, sender, used) && settleUp(sender.ups, receiver);
        if (!settled || !used.carriesConfirmation(time)) {
            sender.failUp();
            return;
        }
        sender.ups.dropFirst();
        sender.fails = 0;
        if (active.firsts[sender.number] == receiver.number) {
            sender.clock = receiver.clock;
        }
    }

    /** Whether the receiver took the first frame of the row, or knew it. */
    private boolean settleUp(FrameRow row, Node receiver) {
        int source = row.ends[0];
        int number = row.numbers[0];
        if (number <= receiver.upsTaken[source]) {
            return true;
        }
        if (receiver.number == GATEWAY) {
            cacheSample(source, number, row.values[0]);
        } else if (!receiver.ups.append(source, number, row.values[0])) {
            return false;
        }
        receiver.upsTaken[source] = number;
        return true;
    }

    private void cacheSample(int source, int number, int value) {
        loops[source].keep(value);
        // A full row takes no more: the command is lost then, as the document asks.
        nodes[GATEWAY].downs.append(source, number, loops[source].nextCommand(value));
    }

    private void sendDown(Node sender, Node receiver, Channel used) {
        if (!sender.current || sender.downs.size == 0
                || !active.leadsUp(sender.downs.ends[0], receiver.number)) {
            return;
        }
        sentFrames++;
        boolean heard = hears(receiver, sender, used);
        if (heard) {
            receiver.clock = sender.clock;
        }
        boolean settled = heard && settleDown(sender.downs, receiver);
        if (settled && used.carriesConfirmation(time)) {
            sender.downs.dropFirst();
            sender.tries = 0;
        } else {
            sender.failDown();
        }
    }

    /** Whether the receiver took the first frame of the row, or knew it. */
    private static boolean settleDown(FrameRow row, Node receiver) {
        int target = row.ends[0];
        int number = row.numbers[0];
        if (number <= receiver.downsTaken[target]) {
            return true;
        }
        if (receiver.number == target) {
            receiver.actuatorValue = row.values[0];
        } else if (!receiver.downs.append(target, number, row.values[0])) {
            return false;
        }
        receiver.downsTaken[target] = number;
        return true;
    }

    /** One node of the mesh: its state, its clock and its frames. */
    private static final class Node {
        final int number;
        final boolean[] near;
        final FrameRow ups;
        final FrameRow downs;
        /** The greatest number taken of each source. */
        final int[] upsTaken;
        /** The greatest number taken for each target. */
        final int[] downsTaken;
        boolean started;
        boolean current;
        int clock;
        int clockDrift;
        int fails;
        int tries;
        int samples;
        int actuatorValue;

        Node(int number, int size) {
            this.number = number;
            this.near = new boolean[size];
            this.ups = new FrameRow();
            this.downs = new FrameRow();
            this.upsTaken = new int[size];
            this.downsTaken = new int[size];
            this.started = number == GATEWAY;
            this.current = number == GATEWAY;
        }

        void enterPlan() {
            current = number == GATEWAY;
            fails = 0;
            tries = 0;
            downs.clear();
        }

        void switchOff() {
            started = false;
            current = false;
            clock = 0;
            fails = 0;
            tries = 0;
            ups.clear();
            downs.clear();
            Arrays.fill(upsTaken, 0);
            // Its own is kept, so that an old command never sets the actuator again.
            int own = downsTaken[number];
            Arrays.fill(downsTaken, 0);
            downsTaken[number] = own;
        }

        boolean clockIsCloseTo(Node other) {
            return Math.abs(clock - other.clock) <= MOST_CLOCK_DIFFERENCE;
        }

        void failUp() {
            fails++;
            if (fails >= MOST_FAILS) {
                fails = 0;
                current = false;
            }
        }

        void failDown() {
            tries++;
            if (tries >= MOST_TRIES) {
                tries = 0;
                downs.dropFirst();
            }
        }
    }

    /** A node's up frames or down frames, the first one at 0. */
    private static final class FrameRow {
        static final int MOST = 4;

        /** The source of each up frame, or the target of each down frame. */
        final int[] ends = new int[MOST];
        final int[] numbers = new int[MOST];
        final int[] values = new int[MOST];
        int size;

        boolean append(int end, int number, int value) {
            if (size >= MOST) {
                return false;
            }
            ends[size] = end;
            numbers[size] = number;
            values[size] = value;
            size++;
            return true;
        }

        void dropFirst() {
            if (size == 0) {
                return;
            }
            size--;
            for (int k = 0; k < size; k++) {
                ends[k] = ends[k + 1];
                numbers[k] = numbers[k + 1];
                values[k] = values[k + 1];
            }
        }

        void clear() {
            size = 0;
        }
    }

    /** What the gateway has for one source: its newest samples and its control loop. */
    private static final class Loop {
        static final int MOST_KEPT = 3;
        static final int MOST_SUM = 2000;
        static final int MOST_COMMAND = 500;
        static final int SCALE = 16;

        final int[] newest = new int[MOST_KEPT];
        int kept;
        int target;
        int p;
        int i;
        int sum;

        void keep(int value) {
            for (int k = MOST_KEPT - 1; k > 0; k--) {
                newest[k] = newest[k - 1];
            }
            newest[0] = value;
            kept = Math.min(MOST_KEPT, kept + 1);
        }

        /** Adds a sample's error to the sum and answers the command that is due then. */
        int nextCommand(int value) {
            int error = target - value;
            sum = nearest(sum + error, -MOST_SUM, MOST_SUM);
            int command = Math.floorDiv(p * error + i * sum, SCALE);
            return nearest(command, -MOST_COMMAND, MOST_COMMAND);
        }
    }

    /** What can be heard on one channel, a bit for each of 64 slots. */
    private static final class Channel {
        static final int BITS = 64;

        long frames = -1L;
        long confirmations = -1L;

        boolean carriesFrame(int time) {
            return bitAt(frames, time);
        }

        boolean carriesConfirmation(int time) {
            return bitAt(confirmations, time);
        }

        private static boolean bitAt(long bits, int time) {
            return ((bits >>> Math.floorMod(time, BITS)) & 1L) == 1L;
        }
    }

    /** Ranks, parents and the cells of a superframe; a cell is held as the number that cell() answers. */
    private static final class Plan {
        static final int EMPTY = 0;
        static final int ADVERT = 100;
        static final int UP = 200;
        static final int DOWN = 300;

        final int slots;
        final int channels;
        final int[] ranks;
        final int[] firsts;
        final int[] seconds;
        /** The nodes by rank, those of one rank by number. */
        final int[] order;
        final int[] codes;
        int size;
        boolean made;

        Plan(int nodes, int slots, int channels) {
            this.slots = slots;
            this.channels = channels;
            this.ranks = new int[nodes];
            this.firsts = new int[nodes];
            this.seconds = new int[nodes];
            this.order = new int[nodes];
            this.codes = new int[slots * channels];
        }

        static int kindOf(int code) {
            return code / 100 * 100;
        }

        static int fromOf(int code) {
            return code / 10 % 10;
        }

        static int toOf(int code) {
            return code % 10;
        }

        int codeAt(int slot, int channel) {
            return codes[slot * channels + channel];
        }

        /** Whether there is a plan for the pairs that are near now; if not, this one is of no use. */
        boolean make(Node[] nodes) {
            made = false;
            size = 0;
            Arrays.fill(codes, EMPTY);
            if (!findRanks(nodes)) {
                return false;
            }
            findParents(nodes);
            made = placeAdverts() && placeLinks();
            return made;
        }

        /** Whether first parents lead from a node to another one, or both are the same. */
        boolean leadsUp(int from, int to) {
            int at = from;
            for (int step = 0; step < firsts.length && at != NONE; step++) {
                if (at == to) {
                    return true;
                }
                at = firsts[at];
            }
            return false;
        }

        private boolean findRanks(Node[] nodes) {
            Arrays.fill(ranks, NONE);
            ranks[GATEWAY] = 0;
            order[0] = GATEWAY;
            int found = 1;
            for (int rank = 1; rank < nodes.length; rank++) {
                for (int k = 0; k < nodes.length; k++) {
                    if (ranks[k] == NONE && nextNearOfRank(nodes[k], rank - 1, 0) != NONE) {
                        ranks[k] = rank;
                        order[found] = k;
                        found++;
                    }
                }
            }
            return found == nodes.length;
        }

        private void findParents(Node[] nodes) {
            firsts[GATEWAY] = NONE;
            seconds[GATEWAY] = NONE;
            for (int k = 1; k < nodes.length; k++) {
                firsts[k] = nextNearOfRank(nodes[k], ranks[k] - 1, 0);
                seconds[k] = nextNearOfRank(nodes[k], ranks[k] - 1, firsts[k] + 1);
            }
        }

        private int nextNearOfRank(Node node, int rank, int from) {
            for (int k = from; k < ranks.length; k++) {
                if (node.near[k] && ranks[k] == rank) {
                    return k;
                }
            }
            return NONE;
        }

        private boolean placeAdverts() {
            for (int k = 0; k < order.length; k++) {
                if (!placeAdvert(order[k])) {
                    return false;
                }
            }
            return true;
        }

        private boolean placeAdvert(int node) {
            for (int slot = 0; slot < slots; slot++) {
                // A slot's channels are filled from 0 on, so an empty channel 0 is an empty slot.
                if (codeAt(slot, 0) == EMPTY) {
                    fillSlot(slot, ADVERT + 10 * node);
                    size++;
                    return true;
                }
            }
            return false;
        }

        private void fillSlot(int slot, int code) {
            for (int channel = 0; channel < channels; channel++) {
                codes[slot * channels + channel] = code;
            }
        }

        private boolean placeLinks() {
            for (int k = 1; k < order.length; k++) {
                int node = order[k];
                int first = firsts[node];
                int second = seconds[node];
                boolean placed = placeLink(UP, node, first)
                        && (second == NONE || placeLink(UP, node, second))
                        && placeLink(DOWN, first, node);
                if (!placed) {
                    return false;
                }
            }
            return true;
        }

        private boolean placeLink(int kind, int from, int to) {
            for (int slot = 0; slot < slots; slot++) {
                int channel = freeChannel(slot, from, to);
                if (channel != NONE) {
                    codes[slot * channels + channel] = kind + 10 * from + to;
                    size++;
                    return true;
                }
            }
            return false;
        }

        /** The least channel of a slot that is free for a cell of two nodes, or NONE. */
        private int freeChannel(int slot, int a, int b) {
            for (int channel = 0; channel < channels; channel++) {
                int code = codeAt(slot, channel);
                // No cell stands behind an empty channel, so all cells of the slot have been looked at.
                if (code == EMPTY) {
                    return channel;
                }
                if (kindOf(code) == ADVERT || touches(code, a) || touches(code, b)) {
                    return NONE;
                }
            }
            return NONE;
        }

        private static boolean touches(int code, int node) {
            return fromOf(code) == node || toOf(code) == node;
        }
    }
}
