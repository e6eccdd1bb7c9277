import java.util.NoSuchElementException;

/**
 * Nodes that measure the same thing and command one actuator, in rounds of frames with check bits.
 * The numbered promises and the words in capitals are those of the document (DOC.md).
 */
public final class VotingRounds {
    /** 256 in units of 1 / 65536: the furthest that a command or an integral goes from 0. */
    public static final int LIMIT = 16777216;

    private static final int FEWEST_NODES = 4;
    private static final int MOST_NODES = 6;
    private static final int USUAL_K = 3;
    private static final int MOST_K = 8;
    private static final int MOST_ROUNDS_A_CALL = 4;
    private static final int UNIT_GAIN = 65536;
    private static final int MOST_GAIN = 1048576;
    private static final int GAIN_SHIFT = 16;
    private static final int LEAST_INT = -2147483648;
    private static final int MOST_INT = 2147483647;

    private static final int NO_FAULT = 0;
    private static final int SILENT = 1;
    private static final int GARBLING = 2;
    private static final int TWO_FACED = 3;
    private static final int UNTIMELY = 4;

    private static final int VALUE_KIND = 0;
    private static final int NOTHING_KIND = 1;
    private static final int COMMAND_KIND = 3;
    private static final int FIRST_STATE_KIND = 4;
    private static final int FIRST_RELAY_KIND = 8;

    /** The parts of a state, in the order of their frames' kinds. */
    private static final int INTEGRAL = 0;
    private static final int ERROR = 1;
    private static final int LIST = 2;
    private static final int COUNTS = 3;
    private static final int STATE_PARTS = 4;

    private static final int COUNT_BITS = 4;
    private static final int COUNT_MASK = 15;
    private static final int ROUNDS_TO_REJOIN = 2;
    private static final int NO_PLACE = -1;

    private final Known known;
    private final Line line;
    private final Node[] nodes;
    private final Contents commands;
    private int rounds;
    private int actuatorPosition;
    private int safeRounds;

    /** Promise 1. */
    public VotingRounds(int nodes, int k) {
        int size = nodes >= FEWEST_NODES && nodes <= MOST_NODES ? nodes : FEWEST_NODES;
        known = new Known(k >= 1 && k <= MOST_K ? k : USUAL_K);
        line = new Line(size);
        this.nodes = new Node[size];
        for (int i = 0; i < size; i++) {
            this.nodes[i] = new Node(i, size);
        }
        commands = new Contents(size);
    }

    /** Promise 2. */
    public int sense(int node, int value) throws IllegalArgumentException {
        if (!isNode(node)) {
            throw new IllegalArgumentException();
        }
        int before = nodes[node].reading;
        nodes[node].reading = value;
        return before;
    }

    /** Promise 3. */
    public void aim(int value) {
        known.target = value;
    }

    /** Promise 4. */
    public void tune(int p, int i, int d) throws IllegalArgumentException {
        if (!isGain(p) || !isGain(i) || !isGain(d)) {
            throw new IllegalArgumentException();
        }
        known.gainP = p;
        known.gainI = i;
        known.gainD = d;
    }

    /** Promise 5. */
    public void fault(int node, int kind, long argument) throws IllegalArgumentException {
        if (!isNode(node) || kind < NO_FAULT || kind > UNTIMELY) {
            throw new IllegalArgumentException();
        }
        line.faults[node] = kind;
        line.arguments[node] = argument;
    }

    /** Promise 6. */
    public boolean restart(int node) throws IllegalArgumentException {
        if (!isNode(node)) {
            throw new IllegalArgumentException();
        }
        return nodes[node].beginAnew();
    }

    /** Promise 7. */
    public int run(int n) throws IllegalArgumentException {
        if (n < 1 || n > MOST_ROUNDS_A_CALL) {
            throw new IllegalArgumentException();
        }
        for (int i = 0; i < n; i++) {
            runRound();
        }
        return rounds;
    }

    /** Promise 8. */
    public int agreed(int node, int of)
            throws IllegalArgumentException, IllegalStateException, NoSuchElementException {
        if (!isNode(node) || !isNode(of)) {
            throw new IllegalArgumentException();
        }
        if (!nodes[node].tookPart) {
            throw new IllegalStateException();
        }
        if (!nodes[node].agreements.has(of)) {
            throw new NoSuchElementException();
        }
        return nodes[node].agreements.at(of);
    }

    /** Promise 9. */
    public boolean lost(int node) throws IllegalArgumentException {
        if (!isNode(node)) {
            throw new IllegalArgumentException();
        }
        return nodes[node].isLost;
    }

    /** Promise 10. */
    public boolean member(int node, int of) throws IllegalArgumentException, IllegalStateException {
        if (!isNode(node) || !isNode(of)) {
            throw new IllegalArgumentException();
        }
        if (nodes[node].isLost) {
            throw new IllegalStateException();
        }
        return nodes[node].isMember(of);
    }

    /** Promise 11. */
    public int count(int node, int of) throws IllegalArgumentException, IllegalStateException {
        if (!isNode(node) || !isNode(of)) {
            throw new IllegalArgumentException();
        }
        if (nodes[node].isLost) {
            throw new IllegalStateException();
        }
        return nodes[node].countOf(of);
    }

    /** Promise 12. */
    public int integral(int node) throws IllegalArgumentException, IllegalStateException {
        if (!isNode(node)) {
            throw new IllegalArgumentException();
        }
        if (nodes[node].isLost) {
            throw new IllegalStateException();
        }
        return nodes[node].state[INTEGRAL];
    }

    /** Promise 13. */
    public int error(int node) throws IllegalArgumentException, IllegalStateException {
        if (!isNode(node)) {
            throw new IllegalArgumentException();
        }
        if (nodes[node].isLost) {
            throw new IllegalStateException();
        }
        return nodes[node].state[ERROR];
    }

    /** Promise 14. */
    public int command(int node) throws IllegalArgumentException, NoSuchElementException {
        if (!isNode(node)) {
            throw new IllegalArgumentException();
        }
        if (!nodes[node].hasOrder) {
            throw new NoSuchElementException();
        }
        return nodes[node].order;
    }

    /** Promise 15. */
    public boolean same(int a, int b) throws IllegalArgumentException {
        if (!isNode(a) || !isNode(b)) {
            throw new IllegalArgumentException();
        }
        return nodes[a].isLike(nodes[b]);
    }

    /** Promise 16. */
    public int position() {
        return actuatorPosition;
    }

    /** Promise 17. */
    public int safes() {
        return safeRounds;
    }

    /** Promise 18. */
    public int blocked() {
        return line.blockedFrames;
    }

    /** Promise 19. */
    public int rejected(int receiver) throws IllegalArgumentException {
        if (!isNode(receiver) && receiver != actuator()) {
            throw new IllegalArgumentException();
        }
        return line.rejections[receiver];
    }

    /** Promise 20. */
    public long frame(int sender, int kind, int round, int content) throws IllegalArgumentException {
        if (!Frames.canHold(sender, kind, round)) {
            throw new IllegalArgumentException();
        }
        return Frames.soundFrame(sender, kind, round, content);
    }

    /** Promise 21. */
    public boolean sound(long frame) {
        return Frames.isSound(frame);
    }

    private boolean isNode(int number) {
        return number >= 0 && number < nodes.length;
    }

    private int actuator() {
        return nodes.length;
    }

    private static boolean isGain(int gain) {
        return gain >= 0 && gain <= MOST_GAIN;
    }

    private static int bitsBelow(int bit) {
        return (1 << bit) - 1;
    }

    private static long within(long value, long least, long most) {
        return Math.max(least, Math.min(most, value));
    }

    private void runRound() {
        beginRound();
        sendValues();
        sendRelays();
        for (int i = 0; i < nodes.length; i++) {
            if (!nodes[i].isLost) {
                nodes[i].workOut(known);
            }
        }
        sendCommands();
        movePosition();
        sendStates();
        for (int i = 0; i < nodes.length; i++) {
            nodes[i].adoptStates();
        }
        rounds++;
    }

    private void beginRound() {
        line.beginRound(rounds);
        commands.clear();
        for (int i = 0; i < nodes.length; i++) {
            nodes[i].beginRound();
        }
    }

    private void sendValues() {
        for (int sender = 0; sender < nodes.length; sender++) {
            line.send(sender, VALUE_KIND, nodes[sender].reading);
            for (int to = 0; to < nodes.length; to++) {
                if (to != sender) {
                    line.deliver(to, VALUE_KIND, nodes[to].values);
                }
            }
        }
    }

    private void sendRelays() {
        for (int sender = 0; sender < nodes.length; sender++) {
            for (int of = 0; of < nodes.length; of++) {
                if (of != sender && !nodes[sender].isLost) {
                    sendRelay(sender, of);
                }
            }
        }
    }

    private void sendRelay(int sender, int of) {
        Contents got = nodes[sender].values;
        if (got.has(of)) {
            line.send(sender, FIRST_RELAY_KIND + of, got.at(of));
        } else {
            line.send(sender, NOTHING_KIND, of);
        }
        for (int to = 0; to < nodes.length; to++) {
            if (to != sender) {
                line.deliverRelay(to, of, nodes[to].relays[of]);
            }
        }
    }

    private void sendCommands() {
        for (int sender = 0; sender < nodes.length; sender++) {
            if (nodes[sender].hasOrder) {
                line.send(sender, COMMAND_KIND, nodes[sender].order);
                line.deliver(actuator(), COMMAND_KIND, commands);
            }
        }
    }

    private void movePosition() {
        int place = commands.placeOfMajority(bitsBelow(nodes.length));
        if (place == NO_PLACE) {
            actuatorPosition = 0;
            safeRounds++;
        } else {
            actuatorPosition = commands.at(place);
        }
    }

    private void sendStates() {
        for (int sender = 0; sender < nodes.length; sender++) {
            for (int part = 0; part < STATE_PARTS; part++) {
                if (!nodes[sender].isLost) {
                    sendState(sender, part);
                }
            }
        }
    }

    private void sendState(int sender, int part) {
        line.send(sender, FIRST_STATE_KIND + part, nodes[sender].state[part]);
        for (int to = 0; to < nodes.length; to++) {
            if (to != sender) {
                line.deliver(to, FIRST_STATE_KIND + part, nodes[to].states[part]);
            }
        }
    }

    /** How a frame's bits are laid out and checked. */
    private static final class Frames {
        private static final int NIBBLE_BITS = 4;
        private static final int MOST_NIBBLE = 15;
        private static final int MOST_ROUND = 255;
        private static final int SENDER_SHIFT = 60;
        private static final int KIND_SHIFT = 56;
        private static final int ROUND_SHIFT = 48;
        private static final int CONTENT_SHIFT = 16;
        private static final long CONTENT_MASK = 4294967295L;
        private static final int CHECK_MASK = 65535;
        private static final int CHECK_STEP = 4129;

        static boolean canHold(int sender, int kind, int round) {
            return sender >= 0 && sender <= MOST_NIBBLE && kind >= 0 && kind <= MOST_NIBBLE
                    && round >= 0 && round <= MOST_ROUND;
        }

        static long soundFrame(int sender, int kind, int round, int content) {
            long open = (long) sender << SENDER_SHIFT | (long) kind << KIND_SHIFT
                    | (long) round << ROUND_SHIFT | (content & CONTENT_MASK) << CONTENT_SHIFT;
            return open | checkOf(open);
        }

        static boolean isSound(long frame) {
            return (frame & CHECK_MASK) == checkOf(frame);
        }

        static int senderOf(long frame) {
            return (int) (frame >>> SENDER_SHIFT);
        }

        static int kindOf(long frame) {
            return (int) (frame >>> KIND_SHIFT) & MOST_NIBBLE;
        }

        static int roundOf(long frame) {
            return (int) (frame >>> ROUND_SHIFT) & MOST_ROUND;
        }

        static int contentOf(long frame) {
            return (int) (frame >>> CONTENT_SHIFT);
        }

        /**
         * Four of the document's steps at a time. What one of them adds to c doesn't come back to
         * the highest bit within the next three, and the bits of 4129 (12, 5 and 0) lie so far
         * apart that a product adds the same as its four shifts do.
         */
        private static int checkOf(long frame) {
            int c = CHECK_MASK;
            for (int shift = SENDER_SHIFT; shift >= CONTENT_SHIFT; shift -= NIBBLE_BITS) {
                int added = (c >> 12 ^ (int) (frame >>> shift)) & MOST_NIBBLE;
                c = c << NIBBLE_BITS & CHECK_MASK ^ added * CHECK_STEP;
            }
            return c;
        }
    }

    /** A content for each node, or none. Bits tell which are there, so that a mask can pick voters. */
    private static final class Contents {
        private final int[] contents;
        private int there;

        Contents(int size) {
            contents = new int[size];
        }

        void clear() {
            there = 0;
        }

        void put(int place, int content) {
            contents[place] = content;
            there |= 1 << place;
        }

        boolean has(int place) {
            return (there >> place & 1) != 0;
        }

        int at(int place) {
            return contents[place];
        }

        /** A place with the content that more than half of the voters have, or NO_PLACE. */
        int placeOfMajority(int voters) {
            int votes = there & voters;
            for (int place = 0; place < contents.length; place++) {
                if ((votes >> place & 1) != 0
                        && 2 * votesFor(contents[place], votes) > Integer.bitCount(voters)) {
                    return place;
                }
            }
            return NO_PLACE;
        }

        private int votesFor(int content, int votes) {
            int sum = 0;
            for (int place = 0; place < contents.length; place++) {
                if ((votes >> place & 1) != 0 && contents[place] == content) {
                    sum++;
                }
            }
            return sum;
        }
    }

    /** What all nodes know. The gains are longs because CONTROL reckons with longs. */
    private static final class Known {
        private final int k;
        private int target;
        private long gainP = UNIT_GAIN;
        private long gainI;
        private long gainD;

        Known(int k) {
            this.k = k;
        }
    }

    /** The line, with one frame on it at a time: what comes of it to each receiver, by the sender's fault. */
    private static final class Line {
        private final int[] faults;
        private final long[] arguments;
        private final int[] rejections;
        private int blockedFrames;
        private int round;
        private int sender;
        private boolean comes;
        /** Sound, and with the sender and the round that are due: what then is due goes by the kind. */
        private boolean isTrue;
        private int kindThatComes;
        private int contentToEven;
        private int contentToOdd;

        Line(int size) {
            faults = new int[size];
            arguments = new long[size];
            rejections = new int[size + 1];
        }

        void beginRound(int number) {
            round = number & Frames.MOST_ROUND;
        }

        void send(int from, int kind, int content) {
            int fault = faults[from];
            if (fault == UNTIMELY) {
                blockedFrames++;
            }
            comes = fault != SILENT && fault != UNTIMELY;
            sender = from;
            long frame = Frames.soundFrame(from, kind, round, content);
            if (fault == GARBLING) {
                frame ^= arguments[from];
            }
            isTrue = Frames.isSound(frame) && Frames.senderOf(frame) == from
                    && Frames.roundOf(frame) == round;
            kindThatComes = Frames.kindOf(frame);
            contentToEven = Frames.contentOf(frame);
            // What a two-faced node sends to odd receivers is made sound anew, so just its content differs.
            contentToOdd = fault == TWO_FACED ? contentToEven ^ (int) arguments[from] : contentToEven;
        }

        /** Puts what the receiver gets in the sender's place; what comes and isn't due is rejected. */
        void deliver(int receiver, int kind, Contents into) {
            if (isDue(kind)) {
                into.put(sender, contentTo(receiver));
            } else if (comes) {
                rejections[receiver]++;
            }
        }

        /** As deliver, but a frame that tells that the sender got nothing from that node is due too. */
        void deliverRelay(int receiver, int of, Contents into) {
            boolean tellsNothing = isDue(NOTHING_KIND) && contentTo(receiver) == of;
            if (!tellsNothing) {
                deliver(receiver, FIRST_RELAY_KIND + of, into);
            }
        }

        private boolean isDue(int kind) {
            return comes && isTrue && kindThatComes == kind;
        }

        private int contentTo(int receiver) {
            return (receiver & 1) != 0 ? contentToOdd : contentToEven;
        }
    }

    /** One node: what it keeps, and what it got and worked out in the latest round. */
    private static final class Node {
        private final int number;
        private final int size;
        private int reading;
        private boolean isLost;
        private final int[] state;
        private final Contents values;
        /** By the node that they tell of; in each, by the node that sent them. */
        private final Contents[] relays;
        /** By the part of the state. */
        private final Contents[] states;
        private final Contents agreements;
        private final int[] ordered;
        private boolean tookPart;
        private boolean hasOrder;
        private int order;

        Node(int number, int size) {
            this.number = number;
            this.size = size;
            state = new int[STATE_PARTS];
            state[LIST] = bitsBelow(size);
            values = new Contents(size);
            relays = new Contents[size];
            for (int i = 0; i < size; i++) {
                relays[i] = new Contents(size);
            }
            states = new Contents[STATE_PARTS];
            for (int part = 0; part < STATE_PARTS; part++) {
                states[part] = new Contents(size);
            }
            agreements = new Contents(size);
            ordered = new int[size];
        }

        boolean beginAnew() {
            boolean wasWell = !isLost;
            isLost = true;
            tookPart = false;
            hasOrder = false;
            return wasWell;
        }

        void beginRound() {
            tookPart = !isLost;
            hasOrder = false;
            values.clear();
            agreements.clear();
            for (int i = 0; i < size; i++) {
                relays[i].clear();
            }
            for (int part = 0; part < STATE_PARTS; part++) {
                states[part].clear();
            }
        }

        /** AGREEING, CONTROL and MEMBERSHIP: nothing is sent in these, so one node can do all three. */
        void workOut(Known known) {
            for (int i = 0; i < size; i++) {
                agreeOn(i);
            }
            control(known);
            for (int i = 0; i < size; i++) {
                judge(i, known.k);
            }
        }

        boolean isMember(int i) {
            return (state[LIST] >> i & 1) != 0;
        }

        int countOf(int i) {
            return state[COUNTS] >> COUNT_BITS * i & COUNT_MASK;
        }

        private void setCount(int i, int count) {
            int shift = COUNT_BITS * i;
            state[COUNTS] = state[COUNTS] & ~(COUNT_MASK << shift) | count << shift;
        }

        private void agreeOn(int i) {
            if (i == number) {
                agreements.put(i, reading);
                return;
            }
            Contents votes = relays[i];
            if (values.has(i)) {
                votes.put(number, values.at(i));
            }
            int voters = (state[LIST] | 1 << number) & ~(1 << i);
            int place = votes.placeOfMajority(voters);
            if (place != NO_PLACE) {
                agreements.put(i, votes.at(place));
            }
        }

        private void control(Known known) {
            int n = orderAgreements();
            if (n == 0) {
                return;
            }
            int middle = ordered[(n - 1) / 2];
            long e = within((long) known.target - middle, LEAST_INT, MOST_INT);
            long i = within(state[INTEGRAL] + (known.gainI * e >> GAIN_SHIFT), -LIMIT, LIMIT);
            long change = e - state[ERROR];
            long u = (known.gainP * e >> GAIN_SHIFT) + i + (known.gainD * change >> GAIN_SHIFT);
            boolean windsUp = u > LIMIT && e > 0 || u < -LIMIT && e < 0;
            if (!windsUp) {
                state[INTEGRAL] = (int) i;
            }
            state[ERROR] = (int) e;
            order = (int) within(u, -LIMIT, LIMIT);
            hasOrder = true;
        }

        /** Puts what is agreed on members in order, the least first, and answers how many they are. */
        private int orderAgreements() {
            int n = 0;
            for (int i = 0; i < size; i++) {
                if (isMember(i) && agreements.has(i)) {
                    insertInOrder(agreements.at(i), n);
                    n++;
                }
            }
            return n;
        }

        private void insertInOrder(int content, int n) {
            int place = n;
            while (place > 0 && ordered[place - 1] > content) {
                ordered[place] = ordered[place - 1];
                place--;
            }
            ordered[place] = content;
        }

        /** MEMBERSHIP for one node: the count grows in rounds that speak against its present standing. */
        private void judge(int i, int k) {
            boolean isIn = isMember(i);
            if (isIn == agreements.has(i)) {
                setCount(i, 0);
                return;
            }
            int grown = countOf(i) + 1;
            if (grown >= (isIn ? k : ROUNDS_TO_REJOIN)) {
                state[LIST] ^= 1 << i;
                setCount(i, 0);
            } else {
                setCount(i, grown);
            }
        }

        /** The end of STATES, when all states have been sent. */
        void adoptStates() {
            if (!isLost) {
                countOwnState();
                adoptMajorities();
            } else if (hasAllMajorities()) {
                adoptMajorities();
                isLost = false;
            }
        }

        private void countOwnState() {
            for (int part = 0; part < STATE_PARTS; part++) {
                states[part].put(number, state[part]);
            }
        }

        private boolean hasAllMajorities() {
            for (int part = 0; part < STATE_PARTS; part++) {
                if (states[part].placeOfMajority(bitsBelow(size)) == NO_PLACE) {
                    return false;
                }
            }
            return true;
        }

        private void adoptMajorities() {
            for (int part = 0; part < STATE_PARTS; part++) {
                int place = states[part].placeOfMajority(bitsBelow(size));
                if (place != NO_PLACE) {
                    state[part] = states[part].at(place) & bitsOf(part);
                }
            }
        }

        private int bitsOf(int part) {
            if (part == LIST) {
                return bitsBelow(size);
            }
            return part == COUNTS ? bitsBelow(COUNT_BITS * size) : -1;
        }

        boolean isLike(Node other) {
            if (isLost || other.isLost) {
                return isLost && other.isLost;
            }
            for (int part = 0; part < STATE_PARTS; part++) {
                if (state[part] != other.state[part]) {
                    return false;
                }
            }
            return true;
        }
    }
}
