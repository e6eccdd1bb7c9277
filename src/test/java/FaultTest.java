/** Promises 5, 18 and 19: what comes of a frame by the sender's fault, and which are blocked or rejected. */
public final class FaultTest {
    public static void main(String[] args) {
        wrongCalls();
        silent();
        garbled();
        garbledButSound();
        otherKind();
        nothingMadeAContent();
        contentMadeNothing();
        otherSenderOrRound();
        twoFaced();
        twoFacedNothing();
        untimely();
        untimelyAndLost();
        rejectedAtLost();
        Check.finish();
    }

    private static void wrongCalls() {
        VotingRounds x = new VotingRounds(4, 1);
        x.fault(0, 1, 0);
        int[][] wrong = {{-1, 0}, {4, 0}, {0, -1}, {0, 5}, {Integer.MAX_VALUE, 0}, {0, Integer.MIN_VALUE}};
        for (int[] w : wrong) {
            Check.throwingDeed("fault(" + w[0] + ", " + w[1] + ", 0)", Check.ARGUMENT, () -> x.fault(w[0], w[1], 0));
        }
        int[] receivers = {-1, 5, Integer.MIN_VALUE, Integer.MAX_VALUE};
        for (int r : receivers) {
            Check.throwing("rejected(" + r + ")", Check.ARGUMENT, () -> x.rejected(r));
        }
        x.run(1);
        Check.due("the fault stays after calls that threw", x.member(1, 0), false);
    }

    private static void silent() {
        VotingRounds x = Check.sensing(3, 1, 2, 3, 4);
        x.fault(1, 1, -1L);
        x.run(1);
        Check.throwing("agreed on a silent node", Check.NO_ELEMENT, () -> x.agreed(0, 1));
        Check.due("a silent node agrees on others", x.agreed(1, 0), 1);
        counters("silent", x, 0, 0, 0, 0, 0, 0);
        x.fault(1, 0, -1L);
        x.run(1);
        Check.due("agreed, the fault being over", x.agreed(0, 1), 2);
    }

    /** One value, three relays and four states come garbled to each node, one command to the actuator. */
    private static void garbled() {
        VotingRounds x = Check.sensing(3, 1, 2, 3, 4);
        x.fault(3, 2, 1L << 63);
        x.run(1);
        counters("garbled", x, 0, 8, 8, 8, 0, 1);
        x.fault(3, 2, 1L);
        x.run(1);
        counters("garbled check bits", x, 0, 16, 16, 16, 0, 2);
        x.fault(3, 2, 0L);
        x.run(1);
        counters("garbled by nothing", x, 0, 16, 16, 16, 0, 2);
        Check.due("agreed on what is garbled by nothing", x.agreed(0, 3), 4);
    }

    private static void garbledButSound() {
        VotingRounds x = Check.sensing(3, 1, 2, 3, 64);
        x.fault(3, 2, Check.soundChange(0, 0, 0, 5));
        x.run(1);
        counters("garbled but sound", x, 0, 0, 0, 0, 0, 0);
        Check.due("agreed by the others", x.agreed(1, 3), 69);
        Check.due("agreed by itself", x.agreed(3, 3), 64);
        Check.due("position", x.position(), -2);
    }

    /** The kind 8 + i of a relay for i becomes that for another node, which isn't due then. */
    private static void otherKind() {
        VotingRounds x = Check.sensing(3, 1, 2, 3, 4);
        x.fault(3, 2, Check.soundChange(0, 1, 0, 0));
        x.run(1);
        counters("of another kind", x, 0, 8, 8, 8, 0, 1);
    }

    /** Nodes 2 and 3 got nothing from node 0, and tell so in frames that become ones of kind 8 with content 0. */
    private static void nothingMadeAContent() {
        VotingRounds x = Check.sensing(3, 1, 2, 3, 4);
        x.fault(0, 1, 0);
        x.fault(3, 2, Check.soundChange(0, 9, 0, 0));
        x.fault(2, 2, Check.soundChange(0, 9, 0, 0));
        x.run(1);
        Check.due("agreed on a silent node by two such frames", x.agreed(1, 0), 0);
        Check.throwing("agreed by one of the two", Check.NO_ELEMENT, () -> x.agreed(2, 0));
        // From each of 2 and 3: its value, its relays for the two nodes besides 0, and four states.
        Check.due("rejected at 1", x.rejected(1), 14);
    }

    /** A relay of kind 8 that becomes one of kind 1 is due when its content is 0, and rejected otherwise. */
    private static void contentMadeNothing() {
        VotingRounds x = Check.sensing(3, 0, 2, 3, 4);
        x.fault(3, 2, Check.soundChange(0, 9, 0, 0));
        x.run(1);
        counters("relays made kind 1, the content being 0", x, 0, 7, 7, 7, 0, 1);
        VotingRounds y = Check.sensing(3, 1, 2, 3, 4);
        y.fault(3, 2, Check.soundChange(0, 9, 0, 0));
        y.run(1);
        counters("relays made kind 1, the content being 1", y, 0, 8, 8, 8, 0, 1);
    }

    private static void otherSenderOrRound() {
        VotingRounds x = Check.sensing(3, 1, 2, 3, 4);
        x.fault(3, 2, Check.soundChange(1, 0, 0, 0));
        x.run(1);
        counters("of another sender", x, 0, 8, 8, 8, 0, 1);
        x.fault(3, 2, Check.soundChange(0, 0, 128, 0));
        x.run(1);
        counters("of another round", x, 0, 16, 16, 16, 0, 2);
    }

    private static void twoFaced() {
        VotingRounds x = Check.sensing(3, 10, 20, 30, 40, 50);
        x.fault(0, 3, 0xABCDEF0100000003L);
        x.run(1);
        counters("two-faced", x, 0, 0, 0, 0, 0, 0, 0);
        // Of the votes 10 ^ 3, 10, 10 ^ 3, 10 neither is had by more than half.
        for (int i = 1; i < 5; i++) {
            int node = i;
            Check.throwing("agreed on a two-faced node, two and two", Check.NO_ELEMENT, () -> x.agreed(node, 0));
        }
        VotingRounds y = Check.sensing(3, 10, 20, 30, 40);
        y.fault(0, 3, 3);
        y.run(1);
        Check.due("agreed on a two-faced node, two odd and one even", y.agreed(2, 0), 9);
        Check.due("agreed by itself", y.agreed(0, 0), 10);
        actuatorIsOdd();
    }

    /** The actuator of five nodes has the odd number 5: it gets other commands than were sent. */
    private static void actuatorIsOdd() {
        VotingRounds x = Check.sensing(8, 10, 10, 10, 10, 10);
        for (int i = 2; i < 5; i++) {
            x.fault(i, 3, 4);
        }
        x.run(1);
        Check.due("position of the odd actuator", x.position(), x.command(2) ^ 4);
        VotingRounds y = Check.sensing(8, 10, 10, 10, 10, 10, 10);
        for (int i = 0; i < 4; i++) {
            y.fault(i, 3, 4);
        }
        y.run(1);
        Check.due("position of the even actuator", y.position(), y.command(0));
    }

    /** That nothing came from node 0 reaches odd receivers with a content other than 0: it is rejected. */
    private static void twoFacedNothing() {
        VotingRounds x = Check.sensing(3, 1, 2, 3, 4);
        x.fault(0, 1, 0);
        x.fault(2, 3, 1);
        x.run(1);
        counters("two-faced, got nothing", x, 0, 0, 1, 0, 1, 0);
        x.fault(2, 3, 1L << 32);
        x.run(1);
        counters("two-faced by 0", x, 0, 0, 1, 0, 1, 0);
    }

    private static void untimely() {
        for (int n = 4; n <= 6; n++) {
            VotingRounds x = new VotingRounds(n, 1);
            x.fault(2, 4, 0);
            x.run(1);
            Check.due("blocked with " + n + " nodes", x.blocked(), n + 5);
            Check.due("no member any more", x.member(0, 2), false);
            x.run(3);
            Check.due("blocked in four rounds", x.blocked(), 4 * (n + 5));
            for (int r = 0; r <= n; r++) {
                Check.due("rejected", x.rejected(r), 0);
            }
        }
    }

    /** A lost node sends its value alone. */
    private static void untimelyAndLost() {
        VotingRounds x = new VotingRounds(4, 3);
        x.fault(2, 4, 0);
        x.restart(2);
        x.run(1);
        Check.due("blocked of a lost one", x.blocked(), 1);
        Check.due("the lost one is back", x.lost(2), false);
        x.run(1);
        Check.due("blocked when it is back", x.blocked(), 10);
    }

    /** Three nodes are lost, so that they stay lost; they reject frames all the same, and restarts forget none. */
    private static void rejectedAtLost() {
        VotingRounds x = new VotingRounds(4, 3);
        x.restart(0);
        x.restart(1);
        x.restart(2);
        x.fault(3, 2, 2);
        x.run(2);
        counters("rejected at lost ones", x, 0, 16, 16, 16, 0, 2);
        x.restart(3);
        x.run(1);
        counters("the value of a lost one", x, 0, 17, 17, 17, 0, 2);
        restartsForgetNone();
    }

    private static void restartsForgetNone() {
        VotingRounds x = new VotingRounds(4, 3);
        x.fault(3, 2, 2);
        x.run(1);
        for (int i = 0; i < 4; i++) {
            x.restart(i);
        }
        counters("just restarted", x, 0, 8, 8, 8, 0, 1);
        x.run(1);
        counters("a round after all were restarted", x, 0, 9, 9, 9, 0, 1);
        VotingRounds y = new VotingRounds(4, 3);
        y.fault(2, 4, 0);
        y.run(1);
        y.restart(2);
        Check.due("blocked after a restart", y.blocked(), 9);
    }

    private static void counters(String when, VotingRounds x, int blocked, int... rejected) {
        Check.due(when + ": blocked()", x.blocked(), blocked);
        for (int r = 0; r < rejected.length; r++) {
            Check.due(when + ": rejected(" + r + ")", x.rejected(r), rejected[r]);
        }
    }
}
