/**
 * "A call that throws changes nothing", "a node isn't 0 .. N - 1" and "the first one in a throws clause that
 * fits is thrown": each call of the face that can be refused, at the first values that are out.
 */
public final class RefusedTest {
    private interface Refused {
        void call(VotingRounds x);
    }

    private final int n;

    private RefusedTest(int n) {
        this.n = n;
    }

    public static void main(String[] args) {
        for (int n = 4; n <= 6; n++) {
            RefusedTest test = new RefusedTest(n);
            int[] wrong = {-1, n, Integer.MIN_VALUE, Integer.MAX_VALUE};
            for (int node : wrong) {
                test.wrongNode(node);
                test.wrongSecondNode(node);
            }
            int[] receivers = {-1, n + 1, Integer.MIN_VALUE, Integer.MAX_VALUE};
            for (int r : receivers) {
                test.wrongCall("rejected(" + r + ")", x -> x.rejected(r));
            }
            test.wrongGains();
            test.wrongFaults();
            test.wrongRounds();
            test.wrongFrames();
            test.lostNodes();
            test.nothingThere();
            test.noRoundYet();
            test.firstThatFits();
            test.lastThatAreIn();
        }
        Check.finish();
    }

    /** Of this, every setting tells in later rounds: node 1 is silent, node 2 is two-faced, and the last one is lost. */
    private VotingRounds scene() {
        VotingRounds x = new VotingRounds(n, 2);
        for (int i = 0; i < n; i++) {
            x.sense(i, 100 * i + 7);
        }
        x.aim(5000);
        x.tune(70000, 3000, 20000);
        x.fault(2, 3, 12);
        x.run(2);
        x.fault(1, 1, 0);
        x.run(1);
        x.restart(n - 1);
        return x;
    }

    private void wrongCall(String call, Refused refused) {
        refusedByNew(call, Check.ARGUMENT, refused);
        refusedByScene(call, Check.ARGUMENT, refused);
    }

    private void refusedByNew(String call, Class<? extends RuntimeException> due, Refused refused) {
        refusedBy(new VotingRounds(n, 1), new VotingRounds(n, 1), call + " of a new object", due, refused);
    }

    private void refusedByScene(String call, Class<? extends RuntimeException> due, Refused refused) {
        refusedBy(scene(), scene(), call, due, refused);
    }

    private void refusedBy(VotingRounds x, VotingRounds twin, String call,
            Class<? extends RuntimeException> due, Refused refused) {
        String when = "N = " + n + ", " + call;
        Check.throwingDeed(when, due, () -> refused.call(x));
        Twins.alike("just after " + when, x, twin, n);
        Check.due("run(1) after " + when, x.run(1), twin.run(1));
        for (int i = 0; i < n; i++) {
            Check.due("the reading of " + i + " after " + when, x.sense(i, i), twin.sense(i, i));
        }
        Twins.alike("a round after " + when, x, twin, n);
    }

    private void wrongNode(int node) {
        String call = "(" + node;
        wrongCall("sense" + call + ", 5)", x -> x.sense(node, 5));
        wrongCall("fault" + call + ", 1, 3)", x -> x.fault(node, 1, 3));
        wrongCall("restart" + call + ")", x -> x.restart(node));
        wrongCall("agreed" + call + ", 0)", x -> x.agreed(node, 0));
        wrongCall("lost" + call + ")", x -> x.lost(node));
        wrongCall("member" + call + ", 0)", x -> x.member(node, 0));
        wrongCall("count" + call + ", 0)", x -> x.count(node, 0));
        wrongCall("integral" + call + ")", x -> x.integral(node));
        wrongCall("error" + call + ")", x -> x.error(node));
        wrongCall("command" + call + ")", x -> x.command(node));
        wrongCall("same" + call + ", 0)", x -> x.same(node, 0));
    }

    private void wrongSecondNode(int node) {
        String call = "(0, " + node + ")";
        wrongCall("agreed" + call, x -> x.agreed(0, node));
        wrongCall("member" + call, x -> x.member(0, node));
        wrongCall("count" + call, x -> x.count(0, node));
        wrongCall("same" + call, x -> x.same(0, node));
        wrongCall("agreed of two wrong nodes", x -> x.agreed(node, node));
        wrongCall("same of two wrong nodes", x -> x.same(node, node));
    }

    /** The gains that are in must not become those of the object either. */
    private void wrongGains() {
        int[] wrong = {-1, 1048577, Integer.MIN_VALUE, Integer.MAX_VALUE};
        for (int gain : wrong) {
            wrongCall("tune(" + gain + ", 5000, 5000)", x -> x.tune(gain, 5000, 5000));
            wrongCall("tune(5000, " + gain + ", 5000)", x -> x.tune(5000, gain, 5000));
            wrongCall("tune(5000, 5000, " + gain + ")", x -> x.tune(5000, 5000, gain));
        }
    }

    /** Neither the kind nor the argument may change, of a node with a fault and of one with none. */
    private void wrongFaults() {
        int[] wrong = {-1, 5, Integer.MIN_VALUE, Integer.MAX_VALUE};
        for (int kind : wrong) {
            wrongCall("fault(2, " + kind + ", 99)", x -> x.fault(2, kind, 99));
            wrongCall("fault(0, " + kind + ", 99)", x -> x.fault(0, kind, 99));
        }
    }

    private void wrongRounds() {
        int[] wrong = {0, -1, 5, Integer.MIN_VALUE, Integer.MAX_VALUE};
        for (int rounds : wrong) {
            wrongCall("run(" + rounds + ")", x -> x.run(rounds));
        }
    }

    private void wrongFrames() {
        int[] wrong = {-1, 16, Integer.MIN_VALUE, Integer.MAX_VALUE};
        for (int part : wrong) {
            wrongCall("frame(" + part + ", 0, 0, 0)", x -> x.frame(part, 0, 0, 0));
            wrongCall("frame(0, " + part + ", 0, 0)", x -> x.frame(0, part, 0, 0));
        }
        int[] rounds = {-1, 256, Integer.MIN_VALUE, Integer.MAX_VALUE};
        for (int round : rounds) {
            wrongCall("frame(0, 0, " + round + ", 0)", x -> x.frame(0, 0, round, 0));
        }
    }

    private void lostNodes() {
        int lost = n - 1;
        refusedByScene("agreed of a lost node", Check.STATE, x -> x.agreed(lost, 0));
        refusedByScene("agreed of a lost node for itself", Check.STATE, x -> x.agreed(lost, lost));
        refusedByScene("member of a lost node", Check.STATE, x -> x.member(lost, 0));
        refusedByScene("member of a lost node for itself", Check.STATE, x -> x.member(lost, lost));
        refusedByScene("count of a lost node", Check.STATE, x -> x.count(lost, 0));
        refusedByScene("count of a lost node for itself", Check.STATE, x -> x.count(lost, lost));
        refusedByScene("integral of a lost node", Check.STATE, x -> x.integral(lost));
        refusedByScene("error of a lost node", Check.STATE, x -> x.error(lost));
        refusedByScene("command of a lost node", Check.NO_ELEMENT, x -> x.command(lost));
    }

    private void nothingThere() {
        refusedByScene("agreed on a silent node", Check.NO_ELEMENT, x -> x.agreed(0, 1));
    }

    private void noRoundYet() {
        for (int i = 0; i < n; i++) {
            int node = i;
            refusedByNew("agreed(0, " + i + ")", Check.STATE, x -> x.agreed(0, node));
            refusedByNew("command(" + i + ")", Check.NO_ELEMENT, x -> x.command(node));
        }
    }

    /** The wrong node before the lost one, and the lost one before what isn't there. */
    private void firstThatFits() {
        int lost = n - 1;
        int[] wrong = {-1, n};
        for (int node : wrong) {
            refusedByScene("agreed of a lost node for " + node, Check.ARGUMENT, x -> x.agreed(lost, node));
            refusedByScene("member of a lost node for " + node, Check.ARGUMENT, x -> x.member(lost, node));
            refusedByScene("count of a lost node for " + node, Check.ARGUMENT, x -> x.count(lost, node));
        }
        refusedByScene("agreed of a lost node on a silent one", Check.STATE, x -> x.agreed(lost, 1));
    }

    private void lastThatAreIn() {
        int[] in = {0, n - 1};
        for (int node : in) {
            VotingRounds x = new VotingRounds(n, 1);
            String when = "N = " + n + ", node " + node + ": ";
            Check.due(when + "sense", x.sense(node, 5), 0);
            x.fault(node, 0, 0);
            x.fault(node, 4, 0);
            x.fault(node, 0, -1);
            Check.due(when + "run", x.run(1), 1);
            Check.due(when + "agreed", x.agreed(node, node), 5);
            Check.due(when + "agreed by another", x.agreed(n - 1 - node, node), 5);
            Check.due(when + "lost", x.lost(node), false);
            Check.due(when + "member", x.member(node, n - 1 - node), true);
            Check.due(when + "count", x.count(n - 1 - node, node), 0);
            Check.due(when + "integral", x.integral(node), 0);
            Check.due(when + "error", x.error(node), 0);
            Check.due(when + "command", x.command(node), 0);
            Check.due(when + "same", x.same(node, n - 1 - node), true);
            Check.due(when + "rejected", x.rejected(node), 0);
            Check.due(when + "restart", x.restart(node), true);
        }
        Check.due("N = " + n + ", the actuator: rejected", new VotingRounds(n, 1).rejected(n), 0);
    }
}
