/** Promises 2 to 4: sense, aim, tune. */
public final class SettingsTest {
    public static void main(String[] args) {
        sense();
        senseOfLost();
        aim();
        tuneParts();
        tuneEdges();
        Check.finish();
    }

    private static void sense() {
        VotingRounds x = new VotingRounds(5, 3);
        Check.due("sense, the first", x.sense(4, Integer.MIN_VALUE), 0);
        Check.due("sense, the second", x.sense(4, Integer.MAX_VALUE), Integer.MIN_VALUE);
        Check.due("sense, another node", x.sense(3, 5), 0);
        int[] wrong = {-1, 5, Integer.MIN_VALUE, Integer.MAX_VALUE};
        for (int node : wrong) {
            Check.throwing("sense(" + node + ", 1)", Check.ARGUMENT, () -> x.sense(node, 1));
        }
        x.run(1);
        Check.due("agreed, as sensed", x.agreed(0, 4), Integer.MAX_VALUE);
        x.sense(4, 7);
        Check.due("agreed, sensed after the round", x.agreed(0, 4), Integer.MAX_VALUE);
        Check.due("agreed on itself, sensed after the round", x.agreed(4, 4), Integer.MAX_VALUE);
        x.run(1);
        Check.due("agreed, a round later", x.agreed(0, 4), 7);
        Check.due("agreed on itself, a round later", x.agreed(4, 4), 7);
    }

    private static void senseOfLost() {
        VotingRounds x = new VotingRounds(4, 3);
        x.sense(2, 8);
        x.restart(2);
        Check.due("sense of a lost node", x.sense(2, 9), 8);
        x.run(1);
        Check.due("agreed on a lost node", x.agreed(0, 2), 9);
    }

    private static void aim() {
        VotingRounds x = Check.sensing(3, 1, 1, 1, 1);
        x.aim(500);
        x.aim(11);
        x.run(1);
        Check.due("error, the latest aim", x.error(3), 10);
        x.aim(Integer.MIN_VALUE);
        x.run(1);
        Check.due("error, the least aim, from below", x.error(3), Integer.MIN_VALUE);
        for (int i = 0; i < 4; i++) {
            x.sense(i, -1);
        }
        x.run(1);
        Check.due("error, the least aim", x.error(3), Integer.MIN_VALUE + 1);
        x.aim(Integer.MAX_VALUE);
        x.run(1);
        Check.due("error, the greatest aim, from above", x.error(3), Integer.MAX_VALUE);
    }

    /** Each gain by itself, so that two that change places are seen. */
    private static void tuneParts() {
        VotingRounds x = Check.sensing(3, 0, 0, 0, 0);
        x.aim(100);
        x.tune(131072, 0, 0);
        x.run(1);
        Check.due("command with P = 2", x.command(0), 200);
        x.tune(0, 32768, 0);
        x.run(1);
        Check.due("command with I = 1 / 2", x.command(0), 50);
        Check.due("integral with I = 1 / 2", x.integral(0), 50);
        x.tune(0, 0, 196608);
        x.aim(110);
        x.run(1);
        Check.due("command with D = 3", x.command(0), 50 + 30);
    }

    private static void tuneEdges() {
        VotingRounds x = Check.sensing(3, 0, 0, 0, 0);
        x.aim(1);
        x.tune(1048576, 1048576, 1048576);
        int[][] wrong = {{-1, 0, 0}, {0, -1, 0}, {0, 0, -1}, {1048577, 0, 0}, {0, 1048577, 0}, {0, 0, 1048577},
            {Integer.MIN_VALUE, 0, 0}, {0, Integer.MAX_VALUE, 0}};
        for (int[] g : wrong) {
            Check.throwingDeed("tune(" + g[0] + ", " + g[1] + ", " + g[2] + ")", Check.ARGUMENT,
                    () -> x.tune(g[0], g[1], g[2]));
        }
        x.run(1);
        Check.due("command with the greatest gains, after calls that threw", x.command(0), 48);
        x.tune(0, 0, 0);
        x.run(1);
        Check.due("command with no gains: the integral", x.command(0), 16);
    }
}
