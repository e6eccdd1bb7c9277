/** Two objects that were given the same calls, but for one that should change nothing, answer the same. */
final class Twins {
    private Twins() {
    }

    /** Asks both all that can be asked without changing them: 88 calls with four nodes, 178 with six. */
    static void alike(String when, VotingRounds x, VotingRounds twin, int n) {
        compare(when + ": position()", x::position, twin::position);
        compare(when + ": safes()", x::safes, twin::safes);
        compare(when + ": blocked()", x::blocked, twin::blocked);
        compare(when + ": rejected(" + n + ")", () -> x.rejected(n), () -> twin.rejected(n));
        for (int i = 0; i < n; i++) {
            alikeNode(when, x, twin, i);
            for (int j = 0; j < n; j++) {
                alikePair(when, x, twin, i, j);
            }
        }
    }

    private static void alikeNode(String when, VotingRounds x, VotingRounds twin, int i) {
        String of = "(" + i + ")";
        compare(when + ": rejected" + of, () -> x.rejected(i), () -> twin.rejected(i));
        compare(when + ": lost" + of, () -> x.lost(i), () -> twin.lost(i));
        compare(when + ": integral" + of, () -> x.integral(i), () -> twin.integral(i));
        compare(when + ": error" + of, () -> x.error(i), () -> twin.error(i));
        compare(when + ": command" + of, () -> x.command(i), () -> twin.command(i));
    }

    private static void alikePair(String when, VotingRounds x, VotingRounds twin, int i, int j) {
        String of = "(" + i + ", " + j + ")";
        compare(when + ": agreed" + of, () -> x.agreed(i, j), () -> twin.agreed(i, j));
        compare(when + ": member" + of, () -> x.member(i, j), () -> twin.member(i, j));
        compare(when + ": count" + of, () -> x.count(i, j), () -> twin.count(i, j));
        compare(when + ": same" + of, () -> x.same(i, j), () -> twin.same(i, j));
    }

    private static void compare(String what, Check.Call x, Check.Call twin) {
        Check.due(what, Check.answerOf(x), Check.answerOf(twin));
    }
}
