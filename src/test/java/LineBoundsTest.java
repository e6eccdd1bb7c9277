/**
 * What comes by each fault and what of it is due: every bit of an argument, every other sender, kind and
 * round, frames of kind 1 with the one content that is due and with others; and what is counted.
 */
public final class LineBoundsTest {
    private static final int[] READINGS = {100, 200, 300, 400};

    public static void main(String[] args) {
        for (int bit = 0; bit < 64; bit++) {
            oneBitGarbled(bit);
            oneBitTwoFaced(bit);
        }
        for (int bit = 0; bit < 32; bit++) {
            otherContent(bit);
        }
        twoFacedRelays();
        otherSenders();
        otherKinds();
        otherRounds();
        for (int n = 4; n <= 6; n++) {
            for (int of = 0; of < n - 1; of++) {
                nothingWithOtherContents(n, of);
                contentMadeNothing(n, of);
                nothingMadeContent(n, of);
            }
            oddAndEvenReceivers(n);
            countedOnce(n);
            faultOfTheMoment(n);
        }
        Check.finish();
    }

    private static void counters(String when, VotingRounds x, int blocked, int... rejected) {
        Check.due(when + ": blocked()", x.blocked(), blocked);
        for (int r = 0; r < rejected.length; r++) {
            Check.due(when + ": rejected(" + r + ")", x.rejected(r), rejected[r]);
        }
    }

    /** One value, three relays and four states of node 3 come to each other node, its command to the actuator. */
    private static void allAreRejected(String when, long argument) {
        VotingRounds x = Check.sensing(3, READINGS);
        x.fault(3, 2, argument);
        x.run(1);
        counters(when, x, 0, 8, 8, 8, 0, 1);
        Check.throwing(when + ": agreed(0, 3)", Check.NO_ELEMENT, () -> x.agreed(0, 3));
        Check.due(when + ": agreed(3, 3)", x.agreed(3, 3), 400);
    }

    private static void oneBitGarbled(int bit) {
        allAreRejected("bit " + bit + " turned", 1L << bit);
    }

    /** "The lower 32 bits of the argument": nodes 1 and 3 get another content of 0, by which 2 goes too. */
    private static void oneBitTwoFaced(int bit) {
        VotingRounds x = Check.sensing(3, READINGS);
        x.fault(0, 3, 1L << bit);
        x.run(1);
        String when = "two-faced in bit " + bit;
        int changed = bit < 32 ? 100 ^ 1 << bit : 100;
        Check.due(when + ": agreed(1, 0)", x.agreed(1, 0), changed);
        Check.due(when + ": agreed(2, 0)", x.agreed(2, 0), changed);
        Check.due(when + ": agreed(3, 0)", x.agreed(3, 0), changed);
        Check.due(when + ": agreed(0, 0)", x.agreed(0, 0), 100);
        counters(when, x, 0, 0, 0, 0, 0, 0);
    }

    /** Nodes 2 and 3 get the value of 0 as it is, and tell node 1 otherwise; even receivers hear it from them as it is. */
    private static void twoFacedRelays() {
        VotingRounds x = Check.sensing(3, READINGS);
        x.fault(2, 3, 8);
        x.fault(3, 3, 8);
        x.run(1);
        Check.due("two-faced relays: agreed(1, 0)", x.agreed(1, 0), 100 ^ 8);
        Check.due("two-faced relays: agreed(2, 0)", x.agreed(2, 0), 100);
        Check.due("two-faced relays: agreed(3, 0)", x.agreed(3, 0), 100);
        Check.due("two-faced relays: agreed(0, 1)", x.agreed(0, 1), 200);
        counters("two-faced relays", x, 0, 0, 0, 0, 0, 0);
    }

    private static void otherContent(int bit) {
        VotingRounds x = Check.sensing(3, READINGS);
        x.fault(3, 2, Check.soundChange(0, 0, 0, 1 << bit));
        x.run(1);
        for (int i = 0; i < 3; i++) {
            Check.due("content changed in bit " + bit + ": agreed(" + i + ", 3)", x.agreed(i, 3), 400 ^ 1 << bit);
        }
        counters("content changed in bit " + bit, x, 0, 0, 0, 0, 0, 0);
    }

    private static void otherSenders() {
        for (int change = 1; change < 16; change++) {
            allAreRejected("sender " + (3 ^ change) + " instead of 3", Check.soundChange(change, 0, 0, 0));
        }
    }

    private static void otherKinds() {
        for (int change = 1; change < 16; change++) {
            allAreRejected("kind changed by " + change, Check.soundChange(0, change, 0, 0));
        }
    }

    private static void otherRounds() {
        for (int change = 1; change < 256; change++) {
            allAreRejected("round " + change + " instead of 0", Check.soundChange(0, 0, change, 0));
        }
    }

    /** That the last node got nothing from one that is silent is told with another content: rejected, by all. */
    private static void nothingWithOtherContents(int n, int of) {
        for (int bit = 0; bit < 32; bit++) {
            VotingRounds x = new VotingRounds(n, 3);
            x.fault(of, 1, 0);
            x.run(1);
            counters("kind 1 with the content that is due", x, 0, new int[n + 1]);
            x.fault(n - 1, 2, Check.soundChange(0, 0, 0, 1 << bit));
            x.run(1);
            int[] rejected = new int[n + 1];
            for (int i = 0; i < n - 1; i++) {
                rejected[i] = 1;
            }
            counters("kind 1 for " + of + " with bit " + bit + " turned", x, 0, rejected);
        }
    }

    /** What turns frames of kind 8 + of with this content into ones of kind 1 with that, or the other way. */
    private static long nothingFor(int of, int content, int other) {
        return Check.soundChange(0, 8 + of ^ 1, 0, content ^ other);
    }

    /** A relay for one node that becomes one of kind 1 isn't rejected when its content is that node's number. */
    private static void contentMadeNothing(int n, int of) {
        int[] contents = {of, of + 1, of - 1, of ^ 1 << 31};
        for (int content : contents) {
            VotingRounds x = new VotingRounds(n, 3);
            for (int i = 0; i < n; i++) {
                x.sense(i, 1000 + i);
            }
            x.fault(n - 1, 2, nothingFor(of, 1000 + of, content));
            x.run(1);
            int[] rejected = new int[n + 1];
            for (int i = 0; i < n - 1; i++) {
                rejected[i] = 1 + (n - 1) + 4 - (content == of ? 1 : 0);
            }
            rejected[n] = 1;
            counters("N = " + n + ", kind 1 with " + content + " for " + of, x, 0, rejected);
        }
    }

    /** Just one node isn't silent or lying so: frames of kind 1 are votes once they are of kind 8 + of. */
    private static void nothingMadeContent(int n, int of) {
        VotingRounds x = new VotingRounds(n, 3);
        x.fault(of, 1, 0);
        for (int i = 0; i < n - 1; i++) {
            if (i != of) {
                x.fault(i, 2, nothingFor(of, 5555, of));
            }
        }
        x.run(1);
        int liars = n - 2;
        if (2 * liars > n - 1) {
            Check.due("N = " + n + ", kind " + (8 + of) + " made of kind 1", x.agreed(n - 1, of), 5555);
        }
        // Of each liar all but the relay for the silent node: a value, n - 2 relays, four states.
        Check.due("N = " + n + ", kind 1 made kind " + (8 + of) + ": rejected", x.rejected(n - 1), liars * (n + 3));
    }

    /** The actuator is a receiver with the number N. */
    private static void oddAndEvenReceivers(int n) {
        VotingRounds x = new VotingRounds(n, 8);
        x.tune(0, 65536, 0);
        x.aim(16);
        x.run(1);
        x.tune(0, 0, 0);
        for (int i = 0; i < n; i++) {
            x.fault(i, 3, 1);
        }
        x.run(1);
        Check.due("N = " + n + ", two-faced to the actuator", x.position(), n % 2 == 1 ? 17 : 16);
        for (int r = 0; r <= n; r++) {
            Check.due("N = " + n + ", two-faced: rejected(" + r + ")", x.rejected(r), 0);
        }
    }

    /** "Each once, however many were to get it"; a lost node sends its value alone, and silence isn't counted. */
    private static void countedOnce(int n) {
        VotingRounds x = new VotingRounds(n, 8);
        x.fault(0, 4, -1);
        x.run(1);
        Check.due("N = " + n + ": a value, relays, a command, four states", x.blocked(), 1 + (n - 1) + 1 + 4);
        x.fault(1, 1, -1);
        x.run(1);
        Check.due("N = " + n + ": a silent node isn't blocked", x.blocked(), 2 * (n + 5));
        x.restart(0);
        x.run(1);
        Check.due("N = " + n + ": a lost one's value", x.blocked(), 2 * (n + 5) + 1);
        for (int r = 0; r <= n; r++) {
            Check.due("N = " + n + ": rejected(" + r + ")", x.rejected(r), 0);
        }
    }

    /** A fault holds from the call on, with its own argument, until the next one. */
    private static void faultOfTheMoment(int n) {
        VotingRounds x = new VotingRounds(n, 8);
        x.fault(0, 2, 1);
        x.fault(0, 2, Check.soundChange(0, 0, 0, 6));
        x.run(1);
        Check.due("N = " + n + ": the latest argument", x.agreed(1, 0), 6);
        x.fault(0, 0, 1);
        x.run(1);
        Check.due("N = " + n + ": no fault, with an argument", x.agreed(1, 0), 0);
        x.fault(0, 4, 0);
        x.fault(0, 0, 0);
        x.run(1);
        Check.due("N = " + n + ": a fault that was over at once", x.blocked(), 0);
        Check.due("N = " + n + ": rejected", x.rejected(1), 0);
    }
}
