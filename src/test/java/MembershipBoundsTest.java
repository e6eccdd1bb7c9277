/** MEMBERSHIP: "K then, or more" and "2 then, or more", from each count, and each way in which a count becomes 0. */
public final class MembershipBoundsTest {
    public static void main(String[] args) {
        for (int k = 1; k <= 8; k++) {
            for (int count = 0; count <= 15; count++) {
                memberWithNothing(k, count);
                memberWithSomething(k, count);
                otherWithSomething(k, count);
                otherWithNothing(k, count);
            }
            byItself(k);
        }
        itselfToo();
        lostOnesToo();
        listsOfAllSizes();
        Check.finish();
    }

    /** Six nodes that all took over this count for node 5, and that it is no member if it is to be out. */
    private static VotingRounds counting(int k, int count, boolean out) {
        int bits = count << 20 | (out ? 1 << 5 : 0);
        VotingRounds x = new VotingRounds(6, k);
        for (int i = 0; i < 6; i++) {
            x.fault(i, 2, Check.soundChange(0, 0, 0, bits));
        }
        x.run(1);
        for (int i = 0; i < 6; i++) {
            x.fault(i, 0, 0);
            Check.due("count before", x.count(i, 5), count);
            Check.due("member before", x.member(i, 5), !out);
        }
        return x;
    }

    private static void becomes(String when, VotingRounds x, boolean member, int count) {
        x.run(1);
        for (int i = 0; i < 6; i++) {
            Check.due(when + ": member(" + i + ", 5)", x.member(i, 5), member);
            Check.due(when + ": count(" + i + ", 5)", x.count(i, 5), count);
        }
        Check.due(when + ": member(0, 4)", x.member(0, 4), true);
        Check.due(when + ": count(0, 4)", x.count(0, 4), 0);
    }

    private static void memberWithNothing(int k, int count) {
        VotingRounds x = counting(k, count, false);
        x.fault(5, 1, 0);
        boolean stays = count + 1 < k;
        becomes("K = " + k + ", a member's count " + count + " grows", x, stays, stays ? count + 1 : 0);
    }

    private static void memberWithSomething(int k, int count) {
        becomes("K = " + k + ", a member's count " + count, counting(k, count, false), true, 0);
    }

    private static void otherWithSomething(int k, int count) {
        boolean comesIn = count + 1 >= 2;
        becomes("K = " + k + ", another's count " + count + " grows", counting(k, count, true), comesIn, comesIn ? 0 : 1);
    }

    private static void otherWithNothing(int k, int count) {
        VotingRounds x = counting(k, count, true);
        x.fault(5, 1, 0);
        becomes("K = " + k + ", another's count " + count, x, false, 0);
    }

    /** Without any state taken over: K - 1 silent rounds, one well, K silent; then 1 well, 1 silent, 2 well. */
    private static void byItself(int k) {
        VotingRounds x = new VotingRounds(6, k);
        x.fault(5, 1, 0);
        for (int r = 1; r < k; r++) {
            becomes("K = " + k + ", silent for " + r, x, true, r);
        }
        x.fault(5, 0, 0);
        becomes("K = " + k + ", well", x, true, 0);
        x.fault(5, 1, 0);
        for (int r = 1; r < k; r++) {
            becomes("K = " + k + ", silent again for " + r, x, true, r);
        }
        becomes("K = " + k + ", silent again for K", x, false, 0);
        becomes("K = " + k + ", silent again for K + 1", x, false, 0);
        x.fault(5, 0, 0);
        becomes("K = " + k + ", out and well for 1", x, false, 1);
        x.fault(5, 1, 0);
        becomes("K = " + k + ", out and silent", x, false, 0);
        x.fault(5, 0, 0);
        becomes("K = " + k + ", out and well for 1 again", x, false, 1);
        becomes("K = " + k + ", out and well for 2", x, true, 0);
        becomes("K = " + k + ", in and well", x, true, 0);
    }

    /** Node 3 is out, by its own list too; then no one speaks, so that nobody tells it when it takes itself in. */
    private static void itselfToo() {
        VotingRounds x = new VotingRounds(4, 2);
        x.fault(3, 1, 0);
        x.run(2);
        Check.due("out by its own list", x.member(3, 3), false);
        for (int i = 0; i < 3; i++) {
            x.fault(i, 1, 0);
        }
        x.run(1);
        Check.due("its count for itself grows", x.count(3, 3), 1);
        Check.due("and for one that is silent", x.count(3, 0), 1);
        Check.due("it is still out", x.member(3, 3), false);
        x.run(1);
        Check.due("it takes itself in", x.member(3, 3), true);
        Check.due("its count for itself is 0", x.count(3, 3), 0);
        Check.due("it takes a silent one out", x.member(3, 0), false);
        Check.due("the count of that one is 0", x.count(3, 0), 0);
    }

    /** On a lost node something is agreed as on any other, by the value that it sends. */
    private static void lostOnesToo() {
        VotingRounds x = new VotingRounds(5, 1);
        x.restart(4);
        x.run(1);
        Check.due("a lost node is a member", x.member(0, 4), true);
        x.restart(4);
        x.fault(4, 1, 0);
        x.run(1);
        Check.due("a silent lost node is none", x.member(0, 4), false);
        x.restart(4);
        x.fault(4, 0, 0);
        x.run(1);
        Check.due("a lost node's value counts", x.count(0, 4), 1);
        x.restart(4);
        x.run(1);
        Check.due("a lost node's value counts again", x.member(0, 4), true);
    }

    /** A list may be full, have one member, or none: node 0 hears nothing, K being 1. */
    private static void listsOfAllSizes() {
        for (int n = 4; n <= 6; n++) {
            VotingRounds x = new VotingRounds(n, 1);
            for (int i = 1; i < n; i++) {
                x.fault(i, 1, 0);
            }
            x.run(1);
            for (int i = 0; i < n; i++) {
                Check.due("N = " + n + ", alone: member(0, " + i + ")", x.member(0, i), i == 0);
                Check.due("N = " + n + ", alone: member(1, " + i + ")", x.member(1, i), i == 1);
            }
            Check.due("N = " + n + ", alone: command(0)", x.command(0), 0);
            Check.due("N = " + n + ", alone: same", x.same(0, 1), false);
        }
    }
}
