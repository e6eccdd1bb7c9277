/**
 * The state changes that the document describes and no others: a question changes nothing, a setting tells in
 * the next round alone, and a restart changes one node alone.
 */
public final class NothingElseTest {
    private static final long CHANGE = Check.soundChange(0, 0, 0, 1 << 20);

    private final int n;

    private NothingElseTest(int n) {
        this.n = n;
    }

    public static void main(String[] args) {
        for (int n = 4; n <= 6; n++) {
            NothingElseTest test = new NothingElseTest(n);
            test.questionsChangeNothing();
            test.settingsTellInTheNextRound();
            test.settingsOfNowChangeNothing();
            for (int kind = 0; kind <= 4; kind++) {
                test.faultsLeaveLostOnesLost(kind);
                for (int node = 0; node < n; node++) {
                    test.restartChangesOneNode(node, kind);
                }
            }
        }
        Check.finish();
    }

    /** Integrals, errors, counts, a node that is out and one that is on its way out, blocked and rejected frames. */
    private VotingRounds scene() {
        VotingRounds x = new VotingRounds(n, 3);
        for (int i = 0; i < n; i++) {
            x.sense(i, 50 * i - 60);
        }
        x.aim(700);
        x.tune(65536, 9000, 40000);
        x.fault(1, 4, 0);
        x.run(3);
        x.fault(1, 0, 0);
        x.fault(3, 2, 1);
        x.run(1);
        return x;
    }

    private void questionsChangeNothing() {
        VotingRounds x = scene();
        Twins.alike("N = " + n + ", asked", x, scene(), n);
        x.sound(x.frame(1, 0, 3, 7));
        x.sound(77);
        VotingRounds twin = scene();
        x.run(1);
        twin.run(1);
        Twins.alike("N = " + n + ", all questions asked before the round", x, twin, n);
    }

    private void settingsTellInTheNextRound() {
        VotingRounds x = scene();
        VotingRounds twin = scene();
        for (int i = 0; i < n; i++) {
            x.sense(i, 3 * i);
            x.fault(i, i % 5, CHANGE);
        }
        x.aim(-8);
        x.tune(1, 2, 3);
        Twins.alike("N = " + n + ", new settings before the round", x, twin, n);
        x.run(1);
        Check.due("N = " + n + ", new settings tell: agreed(0, 0)", x.agreed(0, 0), 0);
        Check.due("N = " + n + ", as they don't without: agreed(0, 0)", twin.agreed(0, 0), -60);
    }

    /** Settings that are the ones that hold already. */
    private void settingsOfNowChangeNothing() {
        VotingRounds x = scene();
        VotingRounds twin = scene();
        for (int i = 0; i < n; i++) {
            x.sense(i, 50 * i - 60);
            x.fault(i, i == 3 ? 2 : 0, 1);
        }
        x.aim(700);
        x.tune(65536, 9000, 40000);
        Check.due("N = " + n + ", the same settings: run", x.run(1), twin.run(1));
        Twins.alike("N = " + n + ", the same settings", x, twin, n);
    }

    private void faultsLeaveLostOnesLost(int kind) {
        VotingRounds x = scene();
        x.restart(0);
        x.fault(0, kind, CHANGE);
        x.sense(0, 9);
        Check.due("N = " + n + ", lost before fault(0, " + kind + "): lost(0)", x.lost(0), true);
        Check.due("N = " + n + ", lost before fault(0, " + kind + "): restart(0)", x.restart(0), false);
        x.fault(1, kind, CHANGE);
        Check.due("N = " + n + ", fault(1, " + kind + "): lost(1)", x.lost(1), false);
        Check.due("N = " + n + ", fault(1, " + kind + "): restart(1)", x.restart(1), true);
    }

    /** All that others answer stays, of the restarted one too. */
    private void restartChangesOneNode(int node, int kind) {
        VotingRounds x = scene();
        VotingRounds twin = scene();
        x.fault(node, kind, CHANGE);
        String when = "N = " + n + ", restart(" + node + ") with fault " + kind + ": ";
        Check.due(when + "answer", x.restart(node), true);
        Check.due(when + "position", x.position(), twin.position());
        Check.due(when + "safes", x.safes(), twin.safes());
        Check.due(when + "blocked", x.blocked(), twin.blocked());
        for (int r = 0; r <= n; r++) {
            Check.due(when + "rejected(" + r + ")", x.rejected(r), twin.rejected(r));
        }
        for (int i = 0; i < n; i++) {
            Check.due(when + "lost(" + i + ")", x.lost(i), i == node);
            if (i != node) {
                staysAsItWas(when, x, twin, i);
            }
        }
        Check.due(when + "the reading", x.sense(node, 1), 50 * node - 60);
        Check.due(when + "the rounds", x.run(1), 5);
    }

    private void staysAsItWas(String when, VotingRounds x, VotingRounds twin, int i) {
        Check.due(when + "integral(" + i + ")", x.integral(i), twin.integral(i));
        Check.due(when + "error(" + i + ")", x.error(i), twin.error(i));
        Check.due(when + "command(" + i + ")", x.command(i), twin.command(i));
        for (int j = 0; j < n; j++) {
            int of = j;
            Check.due(when + "member(" + i + ", " + j + ")", x.member(i, j), twin.member(i, j));
            Check.due(when + "count(" + i + ", " + j + ")", x.count(i, j), twin.count(i, j));
            Check.due(when + "agreed(" + i + ", " + j + ")", Check.answerOf(() -> x.agreed(i, of)),
                    Check.answerOf(() -> twin.agreed(i, of)));
        }
    }
}
