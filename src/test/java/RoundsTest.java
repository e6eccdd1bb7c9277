/** Promises 6 to 9: restart, run, agreed, lost. */
public final class RoundsTest {
    public static void main(String[] args) {
        wrongCalls();
        runs();
        roundsInOneCall();
        manyRounds();
        restart();
        restartTwice();
        readingAndFaultStay();
        agreedThrows();
        votesOfMembersAlone();
        lostMembersVoteEmpty();
        noMemberItself();
        Check.finish();
    }

    private static void wrongCalls() {
        VotingRounds x = new VotingRounds(4, 3);
        int[] nodes = {-1, 4, 5, Integer.MIN_VALUE, Integer.MAX_VALUE};
        for (int node : nodes) {
            Check.throwing("restart(" + node + ")", Check.ARGUMENT, () -> x.restart(node));
            Check.throwing("lost(" + node + ")", Check.ARGUMENT, () -> x.lost(node));
            Check.throwing("agreed(" + node + ", 0) before a round", Check.ARGUMENT, () -> x.agreed(node, 0));
            Check.throwing("agreed(0, " + node + ") before a round", Check.ARGUMENT, () -> x.agreed(0, node));
        }
        int[] rounds = {0, -1, 5, Integer.MIN_VALUE, Integer.MAX_VALUE};
        for (int n : rounds) {
            Check.throwing("run(" + n + ")", Check.ARGUMENT, () -> x.run(n));
        }
        Check.throwing("agreed after calls that threw", Check.STATE, () -> x.agreed(0, 0));
        Check.due("run after calls that threw", x.run(1), 1);
    }

    private static void runs() {
        VotingRounds x = new VotingRounds(4, 3);
        int sum = 0;
        for (int n = 1; n <= 4; n++) {
            sum += n;
            Check.due("run(" + n + ")", x.run(n), sum);
        }
        VotingRounds y = Check.sensing(3, 0, 0, 0, 0);
        y.aim(3);
        y.tune(0, 65536, 0);
        y.run(4);
        Check.due("integral after run(4)", y.integral(0), 12);
    }

    /** n rounds in one call are the same as n calls of one. */
    private static void roundsInOneCall() {
        for (int n = 1; n <= 4; n++) {
            VotingRounds x = changing();
            VotingRounds twin = changing();
            x.run(n);
            for (int i = 0; i < n; i++) {
                twin.run(1);
            }
            Twins.alike("run(" + n + ")", x, twin, 5);
        }
    }

    /** Something that changes with each round: an integral, a silent node's count, a lost node that comes back. */
    private static VotingRounds changing() {
        VotingRounds x = Check.sensing(3, 1, 2, 3, 4, 5);
        x.aim(100);
        x.tune(65536, 65536, 65536);
        x.fault(4, 1, 0);
        x.fault(3, 4, 0);
        x.restart(3);
        return x;
    }

    /** More rounds than a frame's eight bits count. */
    private static void manyRounds() {
        VotingRounds x = Check.sensing(1, 6, 6, 6, 6, 6, 6);
        for (int i = 0; i < 130; i++) {
            x.run(4);
        }
        Check.due("rounds", x.run(1), 521);
        Check.due("position", x.position(), -6);
        Check.due("safes", x.safes(), 0);
        for (int r = 0; r <= 6; r++) {
            Check.due("rejected", x.rejected(r), 0);
        }
    }

    private static void restart() {
        VotingRounds x = Check.sensing(3, 1, 2, 3, 4, 5);
        x.run(1);
        Check.due("restart", x.restart(3), true);
        Check.due("lost", x.lost(3), true);
        Check.due("others aren't", x.lost(2), false);
        Check.throwing("agreed", Check.STATE, () -> x.agreed(3, 0));
        Check.throwing("agreed on itself", Check.STATE, () -> x.agreed(3, 3));
        Check.throwing("command", Check.NO_ELEMENT, () -> x.command(3));
        Check.due("what others agreed on stays", x.agreed(0, 3), 4);
        x.run(1);
        Check.due("lost, a round later", x.lost(3), false);
        Check.due("same as another", x.same(3, 0), true);
        Check.throwing("agreed, lost when the round began", Check.STATE, () -> x.agreed(3, 0));
        Check.throwing("command, lost when the round began", Check.NO_ELEMENT, () -> x.command(3));
        Check.due("its value was agreed on", x.agreed(0, 3), 4);
        x.run(1);
        Check.due("agreed, two rounds later", x.agreed(3, 0), 1);
        Check.due("command, two rounds later", x.command(3), -3);
    }

    private static void restartTwice() {
        VotingRounds x = new VotingRounds(4, 3);
        Check.due("restart before the first round", x.restart(0), true);
        Check.due("restart of a lost one", x.restart(0), false);
        Check.due("it is still lost", x.lost(0), true);
        Check.due("restart of a lost one again", x.restart(0), false);
        x.run(1);
        Check.due("it is back", x.lost(0), false);
        Check.due("restart in the round after it came back", x.restart(0), true);
    }

    private static void readingAndFaultStay() {
        VotingRounds x = Check.sensing(1, 1, 2, 3, 4);
        x.fault(1, 4, 0);
        x.restart(1);
        Check.due("the reading stays", x.sense(1, 2), 2);
        x.run(1);
        Check.due("the fault stays", x.blocked(), 1);
        VotingRounds y = Check.sensing(1, 1, 2, 3, 4);
        y.fault(1, 2, Check.soundChange(0, 0, 0, 32));
        y.restart(1);
        y.run(1);
        Check.due("the fault's argument stays", y.agreed(0, 1), 34);
    }

    private static void agreedThrows() {
        VotingRounds x = Check.sensing(8, 1, 2, 3, 4);
        x.fault(2, 1, 0);
        x.run(1);
        Check.throwing("agreed on a silent node", Check.NO_ELEMENT, () -> x.agreed(0, 2));
        x.restart(0);
        Check.throwing("agreed(0, 2): of two that fit, the first", Check.STATE, () -> x.agreed(0, 2));
        Check.throwing("agreed(0, 4): of two that fit, the first", Check.ARGUMENT, () -> x.agreed(0, 4));
    }

    /** When node 3 is no member, its votes don't count: two of the others' three do, its own being for itself. */
    private static void votesOfMembersAlone() {
        VotingRounds x = Check.sensing(1, 1, 2, 3, 4);
        x.fault(3, 1, 0);
        x.run(1);
        Check.due("node 3 is out", x.member(0, 3), false);
        x.fault(3, 2, Check.soundChange(0, 0, 0, 64));
        x.fault(0, 3, 32);
        x.run(1);
        // Nodes 1 and 2 have for 0 the votes 1 ^ 32 and 1; that of 3 doesn't count.
        Check.throwing("agreed, two votes apart", Check.NO_ELEMENT, () -> x.agreed(1, 0));
        Check.throwing("agreed, two votes apart", Check.NO_ELEMENT, () -> x.agreed(2, 0));
        // Node 3 itself votes too, though it isn't on its own list: 1 ^ 32, 1 ^ 32, 1.
        Check.due("agreed by one that is no member", x.agreed(3, 0), 33);
    }

    /** A lost member relays nothing, and its empty votes count among all. */
    private static void lostMembersVoteEmpty() {
        VotingRounds x = Check.sensing(3, 1, 2, 3, 4);
        x.restart(3);
        x.fault(2, 1, 0);
        x.run(1);
        Check.throwing("agreed by one vote of three", Check.NO_ELEMENT, () -> x.agreed(0, 1));
        VotingRounds y = Check.sensing(3, 1, 2, 3, 4);
        y.restart(3);
        y.run(1);
        Check.due("agreed by two votes of three", y.agreed(0, 1), 2);
        Check.due("agreed on the lost one", y.agreed(0, 3), 4);
    }

    /** A node that is no member on its own list agrees on its own reading, but doesn't control with it. */
    private static void noMemberItself() {
        VotingRounds x = Check.sensing(1, 5, 5, 9, 0);
        x.fault(3, 1, 0);
        x.run(1);
        Check.due("node 3 knows that it is out", x.member(3, 3), false);
        x.run(1);
        Check.due("agreed on itself", x.agreed(3, 3), 0);
        x.sense(2, 4);
        x.run(1);
        Check.due("command by 4, 5, 5 without 0", x.command(3), -5);
    }
}
