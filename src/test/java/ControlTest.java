/** Promises 12 to 14, 16 and 17: integral, error, command, position, safes. */
public final class ControlTest {
    private static final int LIMIT = 16777216;

    public static void main(String[] args) {
        wrongCalls();
        lostNodes();
        middleContent();
        nothingAgreedDoesNotCount();
        roundedDown();
        errorLimits();
        commandLimits();
        integralLimits();
        windUpAbove();
        windUpBelow();
        unwinds();
        atTheLimitItself();
        derivative();
        positionByMoreThanHalf();
        positionOfHalf();
        zeroIsNotSafe();
        Check.finish();
    }

    private static void wrongCalls() {
        VotingRounds x = new VotingRounds(6, 3);
        int[] nodes = {-1, 6, 7, Integer.MIN_VALUE, Integer.MAX_VALUE};
        for (int n : nodes) {
            Check.throwing("integral(" + n + ")", Check.ARGUMENT, () -> x.integral(n));
            Check.throwing("error(" + n + ")", Check.ARGUMENT, () -> x.error(n));
            Check.throwing("command(" + n + ")", Check.ARGUMENT, () -> x.command(n));
        }
        Check.throwing("command before a round", Check.NO_ELEMENT, () -> x.command(5));
        Check.due("position before a round", x.position(), 0);
        Check.due("safes before a round", x.safes(), 0);
    }

    private static void lostNodes() {
        VotingRounds x = steady(7);
        x.run(1);
        x.restart(2);
        Check.throwing("integral of a lost node", Check.STATE, () -> x.integral(2));
        Check.throwing("error of a lost node", Check.STATE, () -> x.error(2));
        Check.throwing("command of a lost node", Check.NO_ELEMENT, () -> x.command(2));
        Check.due("position stays", x.position(), 7);
    }

    /** Four nodes that read 0, with this aim. */
    private static VotingRounds steady(int aim) {
        VotingRounds x = new VotingRounds(4, 3);
        x.aim(aim);
        return x;
    }

    private static void middleContent() {
        int[][] readings = {{1, 2, 3, 4}, {4, 3, 2, 1}, {3, 1, 4, 2}, {-5, -5, 9, 9}, {5, 4, 3, 2, 1},
            {9, 1, 8, 2, 7, 3}, {Integer.MAX_VALUE, Integer.MIN_VALUE, 6, 5}};
        int[] middles = {2, 2, 2, -5, 3, 3, 5};
        for (int i = 0; i < readings.length; i++) {
            VotingRounds x = Check.sensing(3, readings[i]);
            x.run(1);
            Check.due("command by the middle one, case " + i, x.command(0), -middles[i]);
        }
    }

    private static void nothingAgreedDoesNotCount() {
        VotingRounds x = Check.sensing(8, 1, 2, 3, 4);
        x.fault(0, 1, 0);
        x.run(1);
        Check.due("command by 2, 3, 4", x.command(1), -3);
        x.fault(3, 1, 0);
        x.run(1);
        Check.due("command of 1 by itself alone", x.command(1), -2);
        Check.due("command of 0 by 1, 2, 3", x.command(0), -2);
    }

    /** Shifts round down, below 0 too. */
    private static void roundedDown() {
        VotingRounds x = steady(-1);
        x.tune(1, 0, 0);
        x.run(1);
        Check.due("P * e just below 0", x.command(0), -1);
        x.tune(0, 1, 0);
        x.run(1);
        Check.due("I * e just below 0", x.command(0), -1);
        x.tune(0, 0, 1);
        x.aim(-2);
        x.run(1);
        Check.due("D * (e - ERROR) just below 0", x.command(0), -2);
        x.aim(65535);
        x.tune(1, 0, 0);
        x.run(1);
        Check.due("P * e just below 1", x.command(0), -1);
    }

    private static void errorLimits() {
        VotingRounds x = Check.sensing(3, -1, -1, -1, -1);
        x.aim(Integer.MAX_VALUE);
        x.run(1);
        Check.due("e above an int", x.error(0), Integer.MAX_VALUE);
        x.aim(Integer.MAX_VALUE - 1);
        x.run(1);
        Check.due("e the greatest int", x.error(0), Integer.MAX_VALUE);
        for (int i = 0; i < 4; i++) {
            x.sense(i, Integer.MAX_VALUE);
        }
        x.aim(Integer.MIN_VALUE);
        x.run(1);
        Check.due("e below an int", x.error(0), Integer.MIN_VALUE);
        x.aim(-1);
        x.run(1);
        Check.due("e the least int", x.error(0), Integer.MIN_VALUE);
    }

    private static void commandLimits() {
        int[][] aims = {{LIMIT, LIMIT}, {LIMIT - 1, LIMIT - 1}, {LIMIT + 1, LIMIT}, {-LIMIT, -LIMIT},
            {1 - LIMIT, 1 - LIMIT}, {-LIMIT - 1, -LIMIT}, {Integer.MAX_VALUE, LIMIT}, {Integer.MIN_VALUE, -LIMIT}};
        for (int[] a : aims) {
            VotingRounds x = steady(a[0]);
            x.run(1);
            Check.due("command with the aim " + a[0], x.command(0), a[1]);
            Check.due("position with the aim " + a[0], x.position(), a[1]);
        }
    }

    /** P being 0, u is the integral and never beyond the limit, so that nothing keeps the integral back. */
    private static void integralLimits() {
        VotingRounds x = steady(LIMIT - 5);
        x.tune(0, 65536, 0);
        x.run(1);
        Check.due("integral below the limit", x.integral(0), LIMIT - 5);
        x.run(1);
        Check.due("integral at the limit", x.integral(0), LIMIT);
        x.aim(-LIMIT);
        x.run(3);
        Check.due("integral at the lower limit", x.integral(0), -LIMIT);
        Check.due("command at the lower limit", x.command(0), -LIMIT);
    }

    private static void windUpAbove() {
        VotingRounds x = steady(LIMIT);
        x.tune(65536, 65536, 0);
        x.run(1);
        Check.due("integral is kept, u above and e above 0", x.integral(0), 0);
        Check.due("error becomes e all the same", x.error(0), LIMIT);
        Check.due("command at the limit", x.command(0), LIMIT);
    }

    private static void windUpBelow() {
        VotingRounds x = steady(-LIMIT);
        x.tune(65536, 65536, 0);
        x.run(1);
        Check.due("integral is kept, u below and e below 0", x.integral(0), 0);
        Check.due("error becomes e all the same", x.error(0), -LIMIT);
        Check.due("command at the lower limit", x.command(0), -LIMIT);
    }

    /** u is beyond a limit by D alone, and e points the other way or nowhere: the integral moves. */
    private static void unwinds() {
        VotingRounds x = steady(-LIMIT);
        x.tune(0, 0, 0);
        x.run(1);
        x.aim(-16);
        x.tune(0, 65536, 1048576);
        x.run(1);
        Check.due("command above", x.command(0), LIMIT);
        Check.due("integral moves, u above and e below 0", x.integral(0), -16);
        VotingRounds y = steady(LIMIT);
        y.tune(0, 0, 0);
        y.run(1);
        y.aim(16);
        y.tune(0, 65536, 1048576);
        y.run(1);
        Check.due("command below", y.command(0), -LIMIT);
        Check.due("integral moves, u below and e above 0", y.integral(0), 16);
    }

    /** u is just the limit: not above it. */
    private static void atTheLimitItself() {
        VotingRounds x = steady(LIMIT / 2);
        x.tune(65536, 65536, 0);
        x.run(1);
        Check.due("integral, u at the limit", x.integral(0), LIMIT / 2);
        VotingRounds y = steady(-LIMIT / 2);
        y.tune(65536, 65536, 0);
        y.run(1);
        Check.due("integral, u at the lower limit", y.integral(0), -LIMIT / 2);
        VotingRounds z = steady(LIMIT / 2 + 1);
        z.tune(65536, 65536, 0);
        z.run(1);
        Check.due("integral, u above the limit by 2", z.integral(0), 0);
    }

    /** e - ERROR goes beyond an int. */
    private static void derivative() {
        VotingRounds x = steady(Integer.MIN_VALUE);
        x.tune(0, 0, 0);
        x.run(1);
        x.aim(Integer.MAX_VALUE);
        x.tune(0, 0, 256);
        x.run(1);
        Check.due("command by the greatest change", x.command(0), LIMIT - 1);
        x.run(1);
        Check.due("command by no change", x.command(0), 0);
    }

    private static void positionByMoreThanHalf() {
        VotingRounds x = new VotingRounds(5, 8);
        x.aim(9);
        x.fault(0, 4, 0);
        x.fault(1, 1, 0);
        x.run(1);
        Check.due("position by three of five", x.position(), 9);
        Check.due("no safe round", x.safes(), 0);
        VotingRounds y = new VotingRounds(5, 8);
        y.aim(9);
        for (int i = 0; i < 3; i++) {
            y.fault(i, 1, 0);
        }
        y.run(1);
        Check.due("position by two of five", y.position(), 0);
        Check.due("a safe round", y.safes(), 1);
    }

    private static void positionOfHalf() {
        VotingRounds x = new VotingRounds(4, 8);
        x.aim(9);
        x.run(1);
        x.fault(0, 1, 0);
        x.fault(1, 1, 0);
        x.run(1);
        Check.due("position by two of four", x.position(), 0);
        Check.due("a safe round", x.safes(), 1);
        x.run(4);
        Check.due("safe rounds in one call", x.safes(), 5);
        VotingRounds y = new VotingRounds(6, 8);
        y.aim(9);
        for (int i = 0; i < 3; i++) {
            y.fault(i, 2, Check.soundChange(0, 0, 0, 1 << 25));
        }
        y.run(1);
        Check.due("position by three of six and three", y.position(), 0);
        Check.due("a safe round of six", y.safes(), 1);
    }

    private static void zeroIsNotSafe() {
        VotingRounds x = new VotingRounds(4, 3);
        x.run(4);
        Check.due("position 0, got from all", x.position(), 0);
        Check.due("no safe rounds", x.safes(), 0);
    }
}
