/**
 * STATES: "for all four" with each of the four missing, contents got from other nodes for each of them, what
 * is left of an old state, and contents that differ in bits that are left out afterwards.
 */
public final class StatesBoundsTest {
    private static final int LIMIT = 16777216;
    private static final int ONE = 65536;

    public static void main(String[] args) {
        noneApart();
        integralsApart();
        errorsApart();
        listsApart();
        countsApart();
        eachContentFromOtherNodes();
        nothingOfTheOldStateStays();
        nothingOfTheOldStateComesBack();
        otherBitsAreBitsOfAContent();
        Check.finish();
    }

    /** Five nodes; 0 and 1 are lost, so that they need each content from all of 2, 3 and 4. */
    private static VotingRounds twoLost(int k, int... readings) {
        VotingRounds x = Check.sensing(k, readings);
        x.tune(0, 0, 0);
        x.restart(0);
        x.restart(1);
        return x;
    }

    /** After a round of such an object: the states of 2, 3 and 4 differ in just this, if in anything. */
    private static void apartIn(String part, VotingRounds x) {
        for (int a = 2; a <= 4; a++) {
            for (int b = a + 1; b <= 4; b++) {
                apartIn(part, x, a, b);
            }
        }
        for (int lost = 0; lost <= 1; lost++) {
            Check.due(part + " apart: lost(" + lost + ")", x.lost(lost), !part.isEmpty());
        }
    }

    private static void apartIn(String part, VotingRounds x, int a, int b) {
        boolean lists = false;
        boolean counts = false;
        for (int i = 0; i < 5; i++) {
            lists |= x.member(a, i) != x.member(b, i);
            counts |= x.count(a, i) != x.count(b, i);
        }
        String who = part + " apart, of " + a + " and " + b + ": ";
        Check.due(who + "integrals", x.integral(a) != x.integral(b), part.equals("integrals"));
        Check.due(who + "errors", x.error(a) != x.error(b), part.equals("errors"));
        Check.due(who + "lists", lists, part.equals("lists"));
        Check.due(who + "counts", counts, part.equals("counts"));
    }

    /** K being 1, they take all others out in two rounds, and in again in two more. */
    private static void noneApart() {
        VotingRounds x = twoLost(1, 4, 4, 4, 4, 4);
        x.run(4);
        apartIn("", x);
    }

    /** As noneApart; but each goes by its own reading in the second and third round, and keeps what came of it. */
    private static void integralsApart() {
        VotingRounds x = twoLost(1, 0, 1, 2, 3, 4);
        x.tune(0, ONE, 0);
        x.run(3);
        x.tune(0, 0, 0);
        for (int i = 0; i < 5; i++) {
            x.sense(i, 4);
        }
        x.run(1);
        apartIn("integrals", x);
    }

    /** As noneApart; but in the fourth round too each still goes by its own reading. */
    private static void errorsApart() {
        VotingRounds x = twoLost(1, 0, 1, 2, 3, 4);
        x.run(4);
        apartIn("errors", x);
    }

    /** K being 1, each keeps itself and the lost ones: on these it agrees. */
    private static void listsApart() {
        VotingRounds x = twoLost(1, 4, 4, 4, 4, 4);
        x.run(1);
        apartIn("lists", x);
    }

    /** K being 8, nobody is out yet; each has a count of 0 for itself. */
    private static void countsApart() {
        VotingRounds x = twoLost(8, 4, 4, 4, 4, 4);
        x.run(1);
        apartIn("counts", x);
    }

    /**
     * Six nodes, of which 1 alone took over a changed integral, for it got it from 2 to 5: each of 3 and 5 got
     * it from three, and the even ones from none.
     */
    private static VotingRounds oneChanged(int bits) {
        VotingRounds x = new VotingRounds(6, 8);
        x.tune(0, 0, 0);
        for (int i = 2; i < 6; i++) {
            x.fault(i, 3, bits);
        }
        x.run(1);
        for (int i = 0; i < 6; i++) {
            x.fault(i, 0, 0);
            Check.due("integral, just 1 is changed: " + i, x.integral(i), i == 1 ? bits : 0);
        }
        return x;
    }

    /**
     * Node 0 is lost. On 5, which is two-faced, 1 to 4 agree on nothing, but it does so itself. So the integral
     * comes from 2 to 5 and the counts from 1 to 4: four of six each, though just three have both.
     */
    private static void eachContentFromOtherNodes() {
        VotingRounds x = oneChanged(1 << 25);
        x.restart(0);
        x.fault(5, 3, 1 << 25);
        x.run(1);
        Check.due("each content from other nodes: lost(0)", x.lost(0), false);
        Check.due("each content from other nodes: integral(0)", x.integral(0), 0);
        Check.due("each content from other nodes: integral(1)", x.integral(1), LIMIT);
        Check.due("each content from other nodes: agreed(5, 5)", x.agreed(5, 5), 0);
        Check.throwing("each content from other nodes: agreed(1, 5)", Check.NO_ELEMENT, () -> x.agreed(1, 5));
        Check.due("each content from other nodes: count(0, 5)", x.count(0, 5), 1);
        Check.due("each content from other nodes: same(0, 2)", x.same(0, 2), true);
    }

    /** Node 4 falls silent for K rounds, and 5 is restarted before the last of them. */
    private static void nothingOfTheOldStateStays() {
        VotingRounds x = new VotingRounds(6, 3);
        x.tune(0, ONE, 0);
        x.aim(7);
        x.fault(4, 1, 0);
        x.run(2);
        Check.due("the old integral", x.integral(5), 14);
        Check.due("the old error", x.error(5), 7);
        Check.due("the old list", x.member(5, 4), true);
        Check.due("the old count", x.count(5, 4), 2);
        x.restart(5);
        x.aim(-6);
        x.run(1);
        Check.due("the integral that was found", x.integral(5), 8);
        Check.due("the error that was found", x.error(5), -6);
        Check.due("the list that was found", x.member(5, 4), false);
        Check.due("the count that was found", x.count(5, 4), 0);
        Check.due("the state that was found", x.same(5, 0), true);
    }

    /**
     * Nodes 4 and 5 are silent and out, and nothing changes in the states of the others from then on. When 0 is
     * lost, its old state isn't a content of its own: with it there would be four of six, without it three.
     */
    private static void nothingOfTheOldStateComesBack() {
        VotingRounds x = new VotingRounds(6, 1);
        x.fault(4, 1, 0);
        x.fault(5, 1, 0);
        x.run(2);
        x.restart(0);
        for (int round = 1; round <= 4; round++) {
            x.run(1);
            Check.due("lost with three states of six, round " + round, x.lost(0), true);
            Check.due("the three are the same, round " + round, x.same(1, 2) && x.same(1, 3), true);
            Check.due("they don't change, round " + round, x.member(1, 0) && !x.member(1, 4), true);
            for (int i = 0; i < 6; i++) {
                Check.due("no count of theirs changes, round " + round, x.count(1, i), 0);
            }
        }
    }

    /**
     * Node 1 has taken 5 off its list; all others send it lists with 5 on them, which are the same but for other
     * bits: of 3, 4 and 5 the same, of 0 and 2 not. When 2 is well, these are four of six.
     */
    private static void otherBitsAreBitsOfAContent() {
        VotingRounds x = oneChanged(1 << 5);
        Check.due("just 1 has taken 5 off its list", x.member(1, 5), false);
        x.fault(0, 2, Check.soundChange(0, 0, 0, 1 << 30));
        x.fault(2, 2, Check.soundChange(0, 0, 0, 1 << 29));
        x.run(1);
        Check.due("lists that differ in other bits: member(1, 5)", x.member(1, 5), false);
        Check.due("counts that differ in other bits: count(1, 5)", x.count(1, 5), 1);
        for (int i = 2; i < 6; i++) {
            Check.due("it is on the others' lists: " + i, x.member(i, 5), true);
            Check.due("they have no count for it: " + i, x.count(i, 5), 0);
        }
        VotingRounds y = oneChanged(1 << 5);
        y.fault(0, 2, Check.soundChange(0, 0, 0, 1 << 30));
        y.run(1);
        Check.due("four lists that are the same: member(1, 5)", y.member(1, 5), true);
        Check.due("four lots of counts that are the same: count(1, 5)", y.count(1, 5), 0);
    }
}
