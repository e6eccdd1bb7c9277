import java.util.ArrayList;
import java.util.Collections;
import java.util.HashMap;
import java.util.List;
import java.util.Map;
import java.util.NoSuchElementException;

/**
 * A second reading of the document, word for word and with no thought of room or speed: each frame is
 * made, changed, checked and taken apart anew for each receiver, and what isn't there is a null.
 */
final class Model {
    private static final long LIMIT = 16777216;

    /** What a node that isn't lost keeps. */
    private static final class State {
        int integral;
        int error;
        boolean[] list;
        int[] counts;

        /** The content of the frame of kind 4 + part. */
        int content(int part) {
            int bits = 0;
            for (int i = 0; i < list.length; i++) {
                if (part == 2 && list[i]) {
                    bits |= 1 << i;
                }
                if (part == 3) {
                    bits |= counts[i] << 4 * i;
                }
            }
            return part == 0 ? integral : part == 1 ? error : bits;
        }

        void take(int part, int content) {
            if (part == 0) {
                integral = content;
            } else if (part == 1) {
                error = content;
            }
            for (int i = 0; i < list.length; i++) {
                if (part == 2) {
                    list[i] = (content & 1 << i) != 0;
                } else if (part == 3) {
                    counts[i] = content >>> 4 * i & 15;
                }
            }
        }
    }

    private final int n;
    private final int k;
    private final int[] reading;
    private final int[] fault;
    private final long[] argument;
    private final State[] state;
    private final List<Map<Integer, Integer>> agreed = new ArrayList<>();
    private final Integer[] command;
    private final int[] rejected;
    private int aim;
    private long p = 65536;
    private long i;
    private long d;
    private int rounds;
    private int position;
    private int safes;
    private int blocked;

    Model(int nodes, int k) {
        n = nodes < 4 || nodes > 6 ? 4 : nodes;
        this.k = k < 1 || k > 8 ? 3 : k;
        reading = new int[n];
        fault = new int[n];
        argument = new long[n];
        state = new State[n];
        command = new Integer[n];
        rejected = new int[n + 1];
        for (int node = 0; node < n; node++) {
            state[node] = blank();
            agreed.add(null);
            for (int of = 0; of < n; of++) {
                state[node].list[of] = true;
            }
        }
    }

    private State blank() {
        State s = new State();
        s.list = new boolean[n];
        s.counts = new int[n];
        return s;
    }

    private void mustBe(boolean right) {
        if (!right) {
            throw new IllegalArgumentException();
        }
    }

    private void nodes(int... nodes) {
        for (int node : nodes) {
            mustBe(0 <= node && node < n);
        }
    }

    private State stateOf(int node) {
        if (state[node] == null) {
            throw new IllegalStateException();
        }
        return state[node];
    }

    int sense(int node, int value) {
        nodes(node);
        int was = reading[node];
        reading[node] = value;
        return was;
    }

    void aim(int value) {
        aim = value;
    }

    void tune(int newP, int newI, int newD) {
        for (int gain : new int[] {newP, newI, newD}) {
            mustBe(0 <= gain && gain <= 1048576);
        }
        p = newP;
        i = newI;
        d = newD;
    }

    void fault(int node, int kind, long newArgument) {
        nodes(node);
        mustBe(0 <= kind && kind <= 4);
        fault[node] = kind;
        argument[node] = newArgument;
    }

    boolean restart(int node) {
        nodes(node);
        boolean was = state[node] == null;
        state[node] = null;
        agreed.set(node, null);
        command[node] = null;
        return !was;
    }

    int run(int times) {
        mustBe(1 <= times && times <= 4);
        for (int t = 0; t < times; t++) {
            round();
        }
        return rounds;
    }

    int agreed(int node, int of) {
        nodes(node, of);
        if (agreed.get(node) == null) {
            throw new IllegalStateException();
        }
        return there(agreed.get(node).get(of));
    }

    private static int there(Integer content) {
        if (content == null) {
            throw new NoSuchElementException();
        }
        return content;
    }

    boolean lost(int node) {
        nodes(node);
        return state[node] == null;
    }

    boolean member(int node, int of) {
        nodes(node, of);
        return stateOf(node).list[of];
    }

    int count(int node, int of) {
        nodes(node, of);
        return stateOf(node).counts[of];
    }

    int integral(int node) {
        nodes(node);
        return stateOf(node).integral;
    }

    int error(int node) {
        nodes(node);
        return stateOf(node).error;
    }

    int command(int node) {
        nodes(node);
        return there(command[node]);
    }

    boolean same(int a, int b) {
        nodes(a, b);
        if (state[a] == null || state[b] == null) {
            return state[a] == state[b];
        }
        boolean same = true;
        for (int part = 0; part < 4; part++) {
            same &= state[a].content(part) == state[b].content(part);
        }
        return same;
    }

    int position() {
        return position;
    }

    int safes() {
        return safes;
    }

    int blocked() {
        return blocked;
    }

    int rejected(int receiver) {
        mustBe(0 <= receiver && receiver <= n);
        return rejected[receiver];
    }

    static long frame(int sender, int kind, int round, int content) {
        long open = (long) sender << 60 | (long) kind << 56 | (long) round << 48 | (content & 0xFFFFFFFFL) << 16;
        return open | FramesTest.checkBits(open);
    }

    /** What comes to a receiver, or null; blocked frames are counted apart from this. */
    private Long comes(int sender, int kind, int content, int receiver) {
        int r = rounds % 256;
        switch (fault[sender]) {
            case 0:
                return frame(sender, kind, r, content);
            case 2:
                return frame(sender, kind, r, content) ^ argument[sender];
            case 3:
                return frame(sender, kind, r, receiver % 2 == 1 ? content ^ (int) argument[sender] : content);
            default:
                return null;
        }
    }

    private void countBlocked(int sender) {
        if (fault[sender] == 4) {
            blocked++;
        }
    }

    private boolean fits(long frame, int sender, int kind) {
        return (frame & 65535) == FramesTest.checkBits(frame) && frame >>> 60 == sender
                && (frame >>> 56 & 15) == kind && (frame >>> 48 & 255) == rounds % 256;
    }

    private static int content(long frame) {
        return (int) (frame >> 16);
    }

    private Integer gets(int sender, int kind, int content, int receiver) {
        Long frame = comes(sender, kind, content, receiver);
        if (frame == null) {
            return null;
        }
        if (fits(frame, sender, kind)) {
            return content(frame);
        }
        rejected[receiver]++;
        return null;
    }

    private Integer getsRelay(int sender, int of, Integer got, int receiver) {
        Long frame = got == null ? comes(sender, 1, of, receiver) : comes(sender, 8 + of, got, receiver);
        if (frame == null) {
            return null;
        }
        if (fits(frame, sender, 8 + of)) {
            return content(frame);
        }
        if (!(fits(frame, sender, 1) && content(frame) == of)) {
            rejected[receiver]++;
        }
        return null;
    }

    /** The content that more than half of so many have, or null. */
    private static Integer majority(List<Integer> contents, int ofAll) {
        Map<Integer, Integer> times = new HashMap<>();
        for (Integer c : contents) {
            if (c != null && times.merge(c, 1, Integer::sum) > ofAll / 2.0) {
                return c;
            }
        }
        return null;
    }

    private void round() {
        Integer[][] value = new Integer[n][n];
        Integer[][][] relay = new Integer[n][n][n];
        values(value);
        relays(value, relay);
        for (int node = 0; node < n; node++) {
            command[node] = null;
            agreed.set(node, null);
            if (state[node] != null) {
                agreed.set(node, agree(node, value[node], relay[node]));
                command[node] = control(node, agreed.get(node));
                membership(state[node], agreed.get(node));
            }
        }
        commands();
        states();
        rounds++;
    }

    private void values(Integer[][] value) {
        for (int from = 0; from < n; from++) {
            countBlocked(from);
            for (int to = 0; to < n; to++) {
                value[to][from] = to == from ? null : gets(from, 0, reading[from], to);
            }
        }
    }

    private void relays(Integer[][] value, Integer[][][] relay) {
        for (int from = 0; from < n; from++) {
            for (int of = 0; of < n; of++) {
                if (state[from] == null || of == from) {
                    continue;
                }
                countBlocked(from);
                for (int to = 0; to < n; to++) {
                    relay[to][of][from] = to == from ? null : getsRelay(from, of, value[from][of], to);
                }
            }
        }
    }

    private Map<Integer, Integer> agree(int node, Integer[] value, Integer[][] relay) {
        Map<Integer, Integer> result = new HashMap<>();
        for (int of = 0; of < n; of++) {
            List<Integer> votes = new ArrayList<>();
            votes.add(value[of]);
            for (int j = 0; j < n; j++) {
                if (j != of && j != node && state[node].list[j]) {
                    votes.add(relay[of][j]);
                }
            }
            result.put(of, of == node ? Integer.valueOf(reading[node]) : majority(votes, votes.size()));
        }
        return result;
    }

    private static long between(long least, long x, long most) {
        return x < least ? least : x > most ? most : x;
    }

    private Integer control(int node, Map<Integer, Integer> contents) {
        State s = state[node];
        List<Integer> order = new ArrayList<>();
        for (int of = 0; of < n; of++) {
            if (s.list[of] && contents.get(of) != null) {
                order.add(contents.get(of));
            }
        }
        if (order.isEmpty()) {
            return null;
        }
        Collections.sort(order);
        long m = order.get((order.size() - 1) / 2);
        long e = between(-2147483648L, aim - m, 2147483647L);
        long newI = between(-LIMIT, s.integral + ((i * e) >> 16), LIMIT);
        long u = ((p * e) >> 16) + newI + ((d * (e - s.error)) >> 16);
        if (!(u > LIMIT && e > 0) && !(u < -LIMIT && e < 0)) {
            s.integral = (int) newI;
        }
        s.error = (int) e;
        return (int) between(-LIMIT, u, LIMIT);
    }

    private void membership(State s, Map<Integer, Integer> contents) {
        for (int of = 0; of < n; of++) {
            boolean something = contents.get(of) != null;
            if (s.list[of]) {
                s.counts[of] = something ? 0 : s.counts[of] + 1;
                if (s.counts[of] >= k) {
                    s.list[of] = false;
                    s.counts[of] = 0;
                }
            } else {
                s.counts[of] = something ? s.counts[of] + 1 : 0;
                if (s.counts[of] >= 2) {
                    s.list[of] = true;
                    s.counts[of] = 0;
                }
            }
        }
    }

    private void commands() {
        List<Integer> got = new ArrayList<>();
        for (int from = 0; from < n; from++) {
            if (command[from] != null) {
                countBlocked(from);
                got.add(gets(from, 3, command[from], n));
            }
        }
        Integer most = majority(got, n);
        position = most == null ? 0 : most;
        safes += most == null ? 1 : 0;
    }

    private void states() {
        List<List<Integer>> found = new ArrayList<>();
        for (int to = 0; to < n; to++) {
            found.add(new ArrayList<>());
        }
        for (int part = 0; part < 4; part++) {
            for (int to = 0; to < n; to++) {
                List<Integer> contents = new ArrayList<>();
                for (int from = 0; from < n; from++) {
                    if (state[from] != null) {
                        int content = state[from].content(part);
                        contents.add(from == to ? Integer.valueOf(content) : gets(from, 4 + part, content, to));
                    }
                }
                found.get(to).add(majority(contents, n));
            }
            for (int from = 0; from < n; from++) {
                if (state[from] != null) {
                    countBlocked(from);
                }
            }
        }
        for (int to = 0; to < n; to++) {
            takeOver(to, found.get(to));
        }
    }

    private void takeOver(int node, List<Integer> found) {
        if (state[node] == null && found.contains(null)) {
            return;
        }
        if (state[node] == null) {
            state[node] = blank();
        }
        for (int part = 0; part < 4; part++) {
            if (found.get(part) != null) {
                state[node].take(part, found.get(part));
            }
        }
    }
}
