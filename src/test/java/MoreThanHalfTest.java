/**
 * "More than half": of all votes in AGREEING, of all N nodes in COMMANDS and in STATES. Each with as many as
 * are just enough and with one less, by nodes that say nothing, say otherwise, or are no members.
 */
public final class MoreThanHalfTest {
    public static void main(String[] args) {
        for (int votes = 1; votes <= 5; votes++) {
            for (int right = 1; right <= votes; right++) {
                votesAgainstEmptyOnes(votes, right);
                votesAgainstOthers(votes, right);
                votesAgainstSeveral(votes, right);
            }
            noVotes(votes);
        }
        votesOfNoMembers();
        for (int n = 4; n <= 6; n++) {
            for (int right = 0; right <= n; right++) {
                commandsAgainstNone(n, right);
                commandsAgainstOthers(n, right);
            }
            noCommands(n);
        }
        commandsOfNoMembers();
        positionBeyondTheLimit();
        statesForALostNode();
        statesForANodeThatHasOne();
        eachPartByItself();
        Check.finish();
    }

    /**
     * Six nodes; node 0 has so many votes for node 1, which reads 77: its own and those of 2 .. votes.
     * K being 1, one node after the other falls silent and is out; the last one takes 1 out with it.
     */
    private static VotingRounds withVotes(int votes) {
        VotingRounds x = Check.sensing(1, 0, 77, 0, 0, 0, 0);
        for (int out = 5; out > votes; out--) {
            x.fault(out, 1, 0);
            x.run(1);
            Check.due(votes + " votes: member(0, " + out + ")", x.member(0, out), false);
        }
        for (int in = 2; in <= votes; in++) {
            Check.due(votes + " votes: member(0, " + in + ")", x.member(0, in), true);
        }
        return x;
    }

    private static void agreedOnOne(String when, VotingRounds x, boolean something, int content) {
        if (something) {
            Check.due(when, x.agreed(0, 1), content);
        } else {
            Check.throwing(when, Check.NO_ELEMENT, () -> x.agreed(0, 1));
        }
    }

    private static void votesAgainstEmptyOnes(int votes, int right) {
        VotingRounds x = withVotes(votes);
        for (int j = right + 1; j <= votes; j++) {
            x.fault(j, 1, 0);
        }
        x.run(1);
        agreedOnOne(right + " of " + votes + " votes, others empty", x, 2 * right > votes, 77);
    }

    /** All others have one and the same content, which may be the one that is agreed. */
    private static void votesAgainstOthers(int votes, int right) {
        VotingRounds x = withVotes(votes);
        for (int j = right + 1; j <= votes; j++) {
            x.fault(j, 2, Check.soundChange(0, 0, 0, 4));
        }
        x.run(1);
        int wrong = votes - right;
        agreedOnOne(right + " of " + votes + " votes against " + wrong, x, right != wrong, right > wrong ? 77 : 73);
    }

    private static void votesAgainstSeveral(int votes, int right) {
        VotingRounds x = withVotes(votes);
        for (int j = right + 1; j <= votes; j++) {
            x.fault(j, 2, Check.soundChange(0, 0, 0, 1 << j));
        }
        x.run(1);
        agreedOnOne(right + " of " + votes + " votes, others all apart", x, 2 * right > votes, 77);
    }

    private static void noVotes(int votes) {
        VotingRounds x = withVotes(votes);
        x.fault(1, 1, 0);
        x.run(1);
        agreedOnOne("0 of " + votes + " votes", x, false, 0);
    }

    /** Nodes 4 and 5 are out, and tell of node 1 what two members of three don't: 73 has one vote of three. */
    private static void votesOfNoMembers() {
        VotingRounds x = withVotes(3);
        for (int j = 3; j <= 5; j++) {
            x.fault(j, 2, Check.soundChange(0, 0, 0, 4));
        }
        x.run(1);
        agreedOnOne("three of five, but two are out", x, true, 77);
    }

    /** All nodes have the command 9 from now on, whatever they read and agree on. */
    private static VotingRounds commandingNine(int n) {
        VotingRounds x = new VotingRounds(n, 8);
        x.aim(9);
        x.tune(0, 65536, 0);
        x.run(1);
        x.tune(0, 0, 0);
        return x;
    }

    private static void moved(String when, VotingRounds x, boolean safe, int position) {
        x.run(1);
        Check.due(when + ": position", x.position(), safe ? 0 : position);
        Check.due(when + ": safes", x.safes(), safe ? 1 : 0);
    }

    private static void commandsAgainstNone(int n, int right) {
        VotingRounds x = commandingNine(n);
        for (int i = right; i < n; i++) {
            x.fault(i, 1 + 3 * (i % 2), 0);
        }
        moved(right + " of " + n + " commands", x, 2 * right <= n, 9);
    }

    private static void commandsAgainstOthers(int n, int right) {
        VotingRounds x = commandingNine(n);
        for (int i = right; i < n; i++) {
            x.fault(i, 2, Check.soundChange(0, 0, 0, 4));
        }
        int wrong = n - right;
        moved(right + " of " + n + " commands against " + wrong, x, right == wrong, right > wrong ? 9 : 13);
    }

    /** With all nodes lost none has a command: a safe round each, and no end to it. */
    private static void noCommands(int n) {
        VotingRounds x = commandingNine(n);
        for (int i = 0; i < n; i++) {
            x.restart(i);
        }
        Check.due("position stays until the next round", x.position(), 9);
        moved("no command of " + n, x, true, 0);
        x.run(4);
        Check.due("no command of " + n + ": safes", x.safes(), 5);
        for (int i = 0; i < n; i++) {
            Check.due("all stay lost", x.lost(i), true);
            Check.due("all are the same", x.same(0, i), true);
        }
    }

    /** "Of all N nodes": whether members or not. K being 1, silent nodes are out after a round, and count in N. */
    private static void commandsOfNoMembers() {
        VotingRounds x = new VotingRounds(6, 1);
        x.aim(9);
        x.fault(4, 1, 0);
        x.fault(5, 1, 0);
        x.run(1);
        Check.due("four of six commands, two are out: position", x.position(), 9);
        Check.due("4 and 5 are out", x.member(0, 4) || x.member(0, 5), false);
        x.fault(3, 1, 0);
        x.run(1);
        Check.due("three of six commands, of four members: position", x.position(), 0);
        Check.due("three of six commands, of four members: safes", x.safes(), 1);
        x.fault(4, 0, 0);
        x.run(1);
        Check.due("node 4 is no member yet", x.member(0, 4), false);
        Check.due("four of six commands, one of no member: position", x.position(), 9);
        Check.due("four of six commands, one of no member: safes", x.safes(), 1);
    }

    /** The position is what the actuator got, though no node's command goes beyond the limit. */
    private static void positionBeyondTheLimit() {
        int[] bits = {1 << 24, 1 << 30, 1 << 31, -1};
        for (int b : bits) {
            VotingRounds x = commandingNine(5);
            for (int i = 0; i < 3; i++) {
                x.fault(i, 2, Check.soundChange(0, 0, 0, b));
            }
            moved("three of five commands changed by " + b, x, false, 9 ^ b);
        }
    }

    /**
     * The first nodes are lost; the others come to one mind after so many rounds, K being 1, for they take
     * one another out and in. Then the lost ones are back if these are more than half.
     */
    private static void statesForALostNode() {
        lostOnes(4, 1, 1, true);
        lostOnes(4, 2, 4, false);
        lostOnes(5, 1, 1, true);
        lostOnes(5, 2, 4, true);
        lostOnes(5, 3, 3, false);
        lostOnes(6, 1, 1, true);
        lostOnes(6, 2, 1, true);
        lostOnes(6, 3, 4, false);
        lostOnes(6, 4, 3, false);
    }

    private static void lostOnes(int n, int lost, int rounds, boolean back) {
        VotingRounds x = new VotingRounds(n, 1);
        for (int i = 0; i < lost; i++) {
            x.restart(i);
        }
        String when = lost + " of " + n + " lost";
        for (int r = 1; r <= rounds; r++) {
            x.run(1);
            Check.due(when + ", the others of one mind after " + r, areSame(x, lost, n), r == rounds);
            for (int i = 0; i < lost; i++) {
                Check.due(when + ", lost(" + i + ") after " + r, x.lost(i), r < rounds || !back);
            }
        }
    }

    private static boolean areSame(VotingRounds x, int from, int n) {
        boolean same = true;
        for (int i = from; i < n; i++) {
            same &= x.same(from, i);
        }
        return same;
    }

    /** Two-faced nodes change what odd receivers get: their own integral gives way to as many as are enough. */
    private static void statesForANodeThatHasOne() {
        // Node 3 got the change from 0, 1 and 2; node 1 from 0 and 2.
        integralsAfter(4, new int[] {0, 1, 2}, 0, 0, 0, 1 << 25);
        integralsAfter(4, new int[] {0, 2}, 0, 0, 0, 0);
        integralsAfter(5, new int[] {0, 2, 4}, 0, 1 << 25, 0, 1 << 25, 0);
        integralsAfter(5, new int[] {0, 2}, 0, 0, 0, 0, 0);
        // Nodes 3 and 5 got it from four, node 1 from three.
        integralsAfter(6, new int[] {0, 1, 2, 4}, 0, 0, 0, 1 << 25, 0, 1 << 25);
        integralsAfter(6, new int[] {0, 2, 4}, 0, 0, 0, 0, 0, 0);
    }

    private static void integralsAfter(int n, int[] twoFaced, int... integrals) {
        VotingRounds x = new VotingRounds(n, 8);
        x.tune(0, 0, 0);
        for (int i : twoFaced) {
            x.fault(i, 3, 1 << 25);
        }
        x.run(1);
        for (int i = 0; i < n; i++) {
            String when = "N = " + n + ", " + twoFaced.length + " two-faced: ";
            Check.due(when + "integral(" + i + ")", x.integral(i), integrals[i]);
        }
    }

    /**
     * "Each such content becomes its own": of 1 to 5 all but node 3 have the error -30, which it takes over;
     * but their integrals are three and two, and it keeps its own one.
     */
    private static void eachPartByItself() {
        VotingRounds x = new VotingRounds(6, 8);
        x.tune(0, 0, 0);
        int[] twoFaced = {0, 1, 2, 4};
        for (int i : twoFaced) {
            x.fault(i, 3, 1 << 25);
        }
        x.run(1);
        int[] readings = {10, 20, 30, 5, 50, 60};
        for (int i = 0; i < 6; i++) {
            x.fault(i, 0, 0);
            x.sense(i, readings[i]);
        }
        x.restart(0);
        x.fault(3, 2, Check.soundChange(0, 0, 0, 1 << 20));
        x.run(1);
        int[] integrals = {0, 0, 0, VotingRounds.LIMIT, 0, VotingRounds.LIMIT};
        for (int i = 1; i < 6; i++) {
            Check.due("each part by itself: error(" + i + ")", x.error(i), -30);
            Check.due("each part by itself: integral(" + i + ")", x.integral(i), integrals[i]);
        }
        Check.due("each part by itself: lost(0)", x.lost(0), true);
        x.fault(3, 0, 0);
        x.sense(3, 40);
        x.run(1);
        Check.due("each part by itself, a round later: lost(0)", x.lost(0), true);
        Check.due("each part by itself, a round later: integral(3)", x.integral(3), VotingRounds.LIMIT);
    }
}
