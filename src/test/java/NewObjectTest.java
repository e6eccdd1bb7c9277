/** Promise 1: what N and K become, and what a new object answers. */
public final class NewObjectTest {
    public static void main(String[] args) {
        int[][] nodes = {{4, 4}, {5, 5}, {6, 6}, {3, 4}, {7, 4}, {0, 4}, {-5, 4},
            {Integer.MIN_VALUE, 4}, {Integer.MAX_VALUE, 4}};
        for (int[] n : nodes) {
            hasNodes(n[0], n[1]);
        }
        int[][] ks = {{1, 1}, {2, 2}, {3, 3}, {4, 4}, {5, 5}, {6, 6}, {7, 7}, {8, 8}, {0, 3}, {9, 3},
            {-1, 3}, {Integer.MIN_VALUE, 3}, {Integer.MAX_VALUE, 3}};
        for (int[] k : ks) {
            hasPatience(k[0], k[1]);
        }
        bothOut();
        for (int n = 4; n <= 6; n++) {
            isBlank(n);
        }
        usualGains();
        Check.finish();
    }

    private static void hasNodes(int given, int due) {
        VotingRounds x = new VotingRounds(given, 3);
        String made = "VotingRounds(" + given + ", 3): ";
        Check.due(made + "lost(N - 1)", x.lost(due - 1), false);
        Check.throwing(made + "lost(N)", Check.ARGUMENT, () -> x.lost(due));
        Check.due(made + "rejected(N)", x.rejected(due), 0);
        Check.throwing(made + "rejected(N + 1)", Check.ARGUMENT, () -> x.rejected(due + 1));
    }

    /** A silent node is a member for K rounds, and in the last of them no longer. */
    private static void hasPatience(int given, int due) {
        VotingRounds x = new VotingRounds(6, given);
        x.fault(5, 1, 0);
        for (int round = 1; round <= due; round++) {
            x.run(1);
            String at = "VotingRounds(6, " + given + ") after " + round + " rounds: ";
            Check.due(at + "member(0, 5)", x.member(0, 5), round < due);
            Check.due(at + "count(0, 5)", x.count(0, 5), round < due ? round : 0);
        }
    }

    /** Neither is in: four nodes, and K is 3. */
    private static void bothOut() {
        int[][] out = {{3, 0}, {7, 9}, {3, 9}, {7, 0}};
        for (int[] o : out) {
            VotingRounds x = new VotingRounds(o[0], o[1]);
            String made = "VotingRounds(" + o[0] + ", " + o[1] + "): ";
            Check.throwing(made + "lost(4)", Check.ARGUMENT, () -> x.lost(4));
            x.fault(3, 1, 0);
            x.run(2);
            Check.due(made + "member(0, 3) after two rounds", x.member(0, 3), true);
            x.run(1);
            Check.due(made + "member(0, 3) after three rounds", x.member(0, 3), false);
        }
    }

    private static void isBlank(int n) {
        VotingRounds x = new VotingRounds(n, 1);
        for (int i = 0; i < n; i++) {
            int node = i;
            Check.due("lost", x.lost(i), false);
            Check.due("integral", x.integral(i), 0);
            Check.due("error", x.error(i), 0);
            Check.throwing("command", Check.NO_ELEMENT, () -> x.command(node));
            for (int j = 0; j < n; j++) {
                int of = j;
                Check.due("member", x.member(i, j), true);
                Check.due("count", x.count(i, j), 0);
                Check.due("same", x.same(i, j), true);
                Check.throwing("agreed", Check.STATE, () -> x.agreed(node, of));
            }
            Check.due("sense", x.sense(i, 1), 0);
        }
        for (int r = 0; r <= n; r++) {
            Check.due("rejected", x.rejected(r), 0);
        }
        Check.due("position", x.position(), 0);
        Check.due("safes", x.safes(), 0);
        Check.due("blocked", x.blocked(), 0);
        Check.due("the first run", x.run(1), 1);
        Check.due("blocked with no fault", x.blocked(), 0);
    }

    /** P is 1 and I and D are 0, and the aim is 0: the command is the error. */
    private static void usualGains() {
        VotingRounds x = Check.sensing(3, 30, 30, 30, 30);
        x.run(2);
        Check.due("command with the aim 0", x.command(0), -30);
        Check.due("integral with I at first", x.integral(0), 0);
        x.aim(-31);
        x.run(1);
        Check.due("command with D at first", x.command(0), -61);
    }
}
