/** Promises 10, 11 and 15: member, count, same; and how states are taken over. */
public final class MembershipTest {
    public static void main(String[] args) {
        wrongCalls();
        outAndIn();
        countsBeginAgain();
        memberOfLost();
        ownListOfASilentNode();
        sameState();
        partsOfAState();
        otherBitsAreLeftOut();
        otherBitsOfSome();
        countsOfFifteen();
        noMembers();
        lostWithTooFew();
        lostUntilAllFour();
        errorsAreTakenOver();
        Check.finish();
    }

    private static void wrongCalls() {
        VotingRounds x = new VotingRounds(4, 3);
        x.restart(0);
        int[] nodes = {-1, 4, Integer.MIN_VALUE, Integer.MAX_VALUE};
        for (int n : nodes) {
            Check.throwing("member(" + n + ", 0)", Check.ARGUMENT, () -> x.member(n, 0));
            Check.throwing("member(0, " + n + ")", Check.ARGUMENT, () -> x.member(0, n));
            Check.throwing("count(" + n + ", 0)", Check.ARGUMENT, () -> x.count(n, 0));
            Check.throwing("count(0, " + n + ")", Check.ARGUMENT, () -> x.count(0, n));
            Check.throwing("same(" + n + ", 0)", Check.ARGUMENT, () -> x.same(n, 0));
            Check.throwing("same(0, " + n + ")", Check.ARGUMENT, () -> x.same(0, n));
        }
        Check.throwing("member of a lost node's list", Check.STATE, () -> x.member(0, 1));
        Check.throwing("count of a lost node", Check.STATE, () -> x.count(0, 1));
        Check.due("a lost node on another's list", x.member(1, 0), true);
        Check.due("another's count for a lost node", x.count(1, 0), 0);
    }

    private static void outAndIn() {
        VotingRounds x = new VotingRounds(5, 3);
        x.fault(4, 1, 0);
        standing("silent for 1", x, 1, true, 1);
        standing("silent for 2", x, 1, true, 2);
        standing("silent for 3", x, 1, false, 0);
        standing("silent for 4", x, 1, false, 0);
        x.fault(4, 0, 0);
        standing("well for 1", x, 1, false, 1);
        standing("well for 2", x, 1, true, 0);
        standing("well for 3", x, 1, true, 0);
    }

    private static void countsBeginAgain() {
        VotingRounds x = new VotingRounds(5, 3);
        x.fault(4, 1, 0);
        standing("silent for 2", x, 2, true, 2);
        x.fault(4, 0, 0);
        standing("a member, well again", x, 1, true, 0);
        x.fault(4, 1, 0);
        standing("silent for 3", x, 3, false, 0);
        x.fault(4, 0, 0);
        standing("no member, well for 1", x, 1, false, 1);
        x.fault(4, 1, 0);
        standing("no member, silent again", x, 1, false, 0);
        x.fault(4, 0, 0);
        standing("no member, well for 1 again", x, 1, false, 1);
    }

    private static void standing(String when, VotingRounds x, int rounds, boolean member, int count) {
        x.run(rounds);
        for (int i = 0; i < 5; i++) {
            Check.due(when + ": member(" + i + ", 4)", x.member(i, 4), member);
            Check.due(when + ": count(" + i + ", 4)", x.count(i, 4), count);
            Check.due(when + ": count(" + i + ", 0)", x.count(i, 0), 0);
        }
    }

    /** With K = 1 and nothing agreed on it in a round, a lost node is out like any other. */
    private static void memberOfLost() {
        VotingRounds x = new VotingRounds(4, 1);
        x.restart(3);
        x.fault(3, 1, 0);
        x.run(1);
        Check.due("a silent lost node is out", x.member(0, 3), false);
        Check.due("it takes over that it is out", x.member(3, 3), false);
    }

    /** A silent node goes by its own reading for itself; that it is out it learns by the states alone. */
    private static void ownListOfASilentNode() {
        VotingRounds x = new VotingRounds(4, 2);
        x.fault(0, 1, 0);
        x.fault(1, 1, 0);
        x.run(2);
        Check.due("two of four are silent: member(2, 0)", x.member(2, 0), false);
        Check.due("no majority tells node 0 so", x.member(0, 0), true);
        Check.due("node 0 took node 1 out", x.member(0, 1), false);
        Check.due("node 1 took node 0 out", x.member(1, 0), false);
        Check.due("node 0 differs from 2", x.same(0, 2), false);
    }

    private static void sameState() {
        VotingRounds x = Check.sensing(3, 1, 2, 3, 4);
        for (int i = 0; i < 4; i++) {
            Check.due("same as itself", x.same(i, i), true);
        }
        x.restart(1);
        Check.due("just the second is lost", x.same(0, 1), false);
        Check.due("just the first is lost", x.same(1, 0), false);
        Check.due("a lost one and itself", x.same(1, 1), true);
        x.restart(2);
        Check.due("both are lost", x.same(1, 2), true);
        Check.due("none is lost", x.same(0, 3), true);
    }

    /**
     * Nodes 0 and 1 of four are lost and stay so, for 2 and 3 alone are no majority. With K = 1 each of
     * these two takes the other out in the first round, 0 and 1 in the second, and all in again in the fourth.
     */
    private static VotingRounds twoApart(int k, int readingOf2, int readingOf3) {
        VotingRounds x = Check.sensing(k, 0, 0, readingOf2, readingOf3);
        x.restart(0);
        x.restart(1);
        return x;
    }

    private static void partsOfAState() {
        VotingRounds counts = twoApart(8, 5, 5);
        counts.run(1);
        differInOne("counts", counts);
        VotingRounds lists = twoApart(1, 5, 5);
        lists.run(1);
        differInOne("lists", lists);
        VotingRounds errors = twoApart(1, 5, 6);
        errors.run(4);
        differInOne("errors", errors);
        VotingRounds integrals = twoApart(1, 5, 6);
        integrals.tune(0, 65536, 0);
        integrals.run(3);
        integrals.tune(0, 0, 0);
        integrals.sense(3, 5);
        integrals.run(1);
        differInOne("integrals", integrals);
    }

    private static void differInOne(String part, VotingRounds x) {
        Check.due("integrals differ", x.integral(2) != x.integral(3), part.equals("integrals"));
        Check.due("errors differ", x.error(2) != x.error(3), part.equals("errors"));
        boolean lists = false;
        boolean counts = false;
        for (int i = 0; i < 4; i++) {
            lists |= x.member(2, i) != x.member(3, i);
            counts |= x.count(2, i) != x.count(3, i);
        }
        Check.due("lists differ", lists, part.equals("lists"));
        Check.due("counts differ", counts, part.equals("counts"));
        Check.due("same, just " + part + " differ", x.same(2, 3), false);
        Check.due("same as itself, " + part, x.same(2, 2), true);
    }

    /** Six nodes change what they send in the same bits: agreed is what was read, but all take over the change. */
    private static VotingRounds changedStates(int bits) {
        VotingRounds x = new VotingRounds(6, 3);
        for (int i = 0; i < 6; i++) {
            x.fault(i, 2, Check.soundChange(0, 0, 0, bits));
        }
        x.restart(0);
        x.run(1);
        for (int i = 0; i < 6; i++) {
            x.fault(i, 0, 0);
            Check.due("lost", x.lost(i), false);
            Check.due("integral, changed", x.integral(i), bits);
            Check.due("error, changed", x.error(i), bits);
            Check.due("same, changed", x.same(0, i), true);
        }
        return x;
    }

    private static void otherBitsAreLeftOut() {
        VotingRounds x = changedStates(1 << 30);
        for (int i = 0; i < 6; i++) {
            Check.due("member", x.member(0, i), true);
            Check.due("count", x.count(0, i), 0);
        }
        // Three of five votes are just enough; a sixth voter in the list's other bits would be one too many.
        x.fault(4, 1, 0);
        x.fault(5, 1, 0);
        x.run(1);
        Check.due("agreed by three of five", x.agreed(0, 1), 0);
        Check.due("agreed by three of five", x.agreed(1, 0), 0);
    }

    /** Nodes 3 and 5 alone take over changed states; of the list and the counts nothing must stay changed. */
    private static void otherBitsOfSome() {
        VotingRounds x = new VotingRounds(6, 3);
        int[] twoFaced = {0, 1, 2, 4};
        for (int i : twoFaced) {
            x.fault(i, 3, 1 << 25);
        }
        x.run(1);
        for (int i = 0; i < 6; i++) {
            x.fault(i, 0, 0);
            Check.due("integral of " + i, x.integral(i), i == 3 || i == 5 ? 1 << 25 : 0);
        }
        Check.due("integrals differ", x.same(2, 3), false);
        // Node 0 is lost, so that no majority tells 3 and 5 better; all integrals go to the limit.
        x.restart(0);
        x.tune(0, 65536, 0);
        x.aim(VotingRounds.LIMIT);
        x.run(1);
        for (int i = 0; i < 6; i++) {
            Check.due("all are of one mind again, " + i, x.same(i, 3), true);
        }
        Check.due("back with all four", x.lost(0), false);
    }

    private static void countsOfFifteen() {
        VotingRounds x = changedStates(0xFFFFFFC0);
        int[] counts = {0, 12, 15, 15, 15, 15};
        for (int i = 0; i < 6; i++) {
            Check.due("member with a count", x.member(2, i), true);
            Check.due("count of " + i, x.count(2, i), counts[i]);
        }
        x.fault(5, 1, 0);
        x.run(1);
        Check.due("a count of 15 that grows: out", x.member(2, 5), false);
        Check.due("a count of 15 that grows: 0", x.count(2, 5), 0);
        Check.due("a count of 15, something agreed: in", x.member(2, 4), true);
        Check.due("a count of 15, something agreed: 0", x.count(2, 4), 0);
    }

    /** All are taken off all lists at once: no one has a command then, and all come in again. */
    private static void noMembers() {
        VotingRounds x = changedStates(-1);
        for (int i = 0; i < 6; i++) {
            Check.due("no member", x.member(3, i), false);
            Check.due("count of no member", x.count(3, i), 15);
        }
        x.fault(3, 4, 0);
        int safes = x.safes();
        x.run(1);
        for (int i = 0; i < 6; i++) {
            int node = i;
            Check.throwing("command with no members", Check.NO_ELEMENT, () -> x.command(node));
            Check.due("integral with no members", x.integral(i), -1);
            Check.due("error with no members", x.error(i), -1);
            Check.due("a member again, by 16", x.member(0, i), i != 3);
            Check.due("count by 16", x.count(0, i), 0);
        }
        Check.due("a safe round", x.safes(), safes + 1);
        Check.due("blocked: all but a command", x.blocked(), 10);
    }

    private static void lostWithTooFew() {
        VotingRounds x = Check.sensing(8, 1, 2, 3, 4);
        x.restart(3);
        x.fault(0, 1, 0);
        x.run(1);
        Check.due("lost with two of four states", x.lost(3), true);
        x.fault(0, 0, 0);
        x.run(2);
        Check.due("back with three of four states", x.lost(3), false);
        VotingRounds y = Check.sensing(8, 1, 2, 3, 4);
        y.restart(3);
        y.run(1);
        Check.due("back at once", y.lost(3), false);
    }

    /** The integrals of 1 and 3 are made others than those of 2 and 4; all else is the same, but not enough. */
    private static void lostUntilAllFour() {
        VotingRounds x = new VotingRounds(5, 8);
        for (int i = 0; i < 5; i += 2) {
            x.fault(i, 3, 1 << 21);
        }
        x.run(1);
        for (int i = 0; i < 5; i++) {
            x.fault(i, 0, 0);
            Check.due("integral after two faces", x.integral(i), i % 2 == 0 ? 0 : 1 << 21);
        }
        x.restart(0);
        x.run(1);
        Check.due("errors are the same", x.error(1) == x.error(2), true);
        for (int i = 0; i < 5; i++) {
            Check.due("counts are the same", x.count(1, i) == x.count(2, i), true);
        }
        Check.due("lost without an integral", x.lost(0), true);
        x.restart(1);
        x.restart(3);
        x.restart(2);
        x.run(4);
        Check.due("lost with one of five states", x.lost(0), true);
    }

    /** Node 1's error comes to differ from the others' in each round, and they talk it out of that. */
    private static void errorsAreTakenOver() {
        VotingRounds x = Check.sensing(3, 10, 20, 30, 40);
        x.fault(1, 2, Check.soundChange(0, 0, 0, 1 << 20));
        x.run(1);
        Check.due("command of node 1", x.command(1), -20);
        Check.due("command of node 0", x.command(0), -30);
        Check.due("error of node 1", x.error(1), -30);
        Check.due("same", x.same(0, 1), true);
    }
}
