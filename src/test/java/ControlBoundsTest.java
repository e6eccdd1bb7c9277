import java.util.Arrays;

/**
 * CONTROL: each "no less than", "no more than", "above", "below" and "when n is 0", at the last value that is
 * in and at the first that is out.
 */
public final class ControlBoundsTest {
    private static final int LIMIT = 16777216;
    private static final int ONE = 65536;
    private static final int MOST = Integer.MAX_VALUE;
    private static final int LEAST = Integer.MIN_VALUE;

    public static void main(String[] args) {
        for (int n = 3; n <= 6; n++) {
            middleOf(n);
        }
        middleOfOneAndTwo();
        noneToCommandBy();
        errorAtItsEnds();
        errorIsCutBeforeTheGains();
        integralAtItsEnds();
        integralFromBeyond();
        commandAtItsEnds();
        keptJustAbove();
        keptJustBelow();
        keptByTheSignOfE();
        gainsAtTheirEnds();
        greatestOfAll();
        eachGreatTermAlone();
        eachTermIsRoundedAlone();
        keptButCommanded();
        Check.finish();
    }

    /** Six nodes, of which the last ones fell silent one by one and are out, K being 1: n are left. */
    private static VotingRounds members(int n, int... readings) {
        VotingRounds x = Check.sensing(1, readings);
        for (int out = 5; out >= n; out--) {
            x.fault(out, 1, 0);
            x.run(1);
            Check.due("members: " + out + " is out", x.member(0, out), false);
        }
        return x;
    }

    /** The place (n - 1) / 2, for each order of the n contents that a turn makes. */
    private static void middleOf(int n) {
        for (int turn = 0; turn < n; turn++) {
            int[] readings = {-1, -2, -3, -4, -5, -6};
            int[] contents = new int[n];
            for (int i = 0; i < n; i++) {
                readings[i] = 10 * ((i + turn) % n) + 1;
                contents[i] = readings[i];
            }
            Arrays.sort(contents);
            VotingRounds x = members(n, readings);
            x.run(1);
            Check.due("command by the middle one of " + n, x.command(0), -contents[(n - 1) / 2]);
        }
    }

    /** When 2 falls silent too, node 0 is alone on its list; node 1 is on it again two rounds later. */
    private static void middleOfOneAndTwo() {
        int[][] readings = {{10, 20}, {20, 10}, {10, 10}};
        for (int[] r : readings) {
            VotingRounds x = members(3, r[0], r[1], 30, 0, 0, 0);
            x.fault(2, 1, 0);
            x.run(1);
            Check.due("0 is alone on its list", x.member(0, 1), false);
            Check.due("0 is alone on its list", x.member(0, 2), false);
            x.run(1);
            Check.due("command by the only one", x.command(0), -r[0]);
            x.run(1);
            Check.due("1 is on it again", x.member(0, 1), true);
            x.run(1);
            Check.due("command by the lesser one of two", x.command(0), -Math.min(r[0], r[1]));
        }
    }

    /** Node 3 knows that it is out, and then hears nothing: of its members it agrees on nothing, n is 0. */
    private static void noneToCommandBy() {
        VotingRounds x = Check.sensing(1, 5, 6, 7, 8);
        x.tune(ONE, ONE, 0);
        x.fault(3, 1, 0);
        x.run(1);
        Check.due("node 3 is out", x.member(3, 3), false);
        Check.due("command of 3 with four members", x.command(3), -12);
        int integral = x.integral(3);
        int error = x.error(3);
        for (int i = 0; i < 3; i++) {
            x.fault(i, 1, 0);
        }
        x.aim(1000);
        x.run(1);
        Check.throwing("command when n is 0", Check.NO_ELEMENT, () -> x.command(3));
        Check.due("integral when n is 0", x.integral(3), integral);
        Check.due("error when n is 0", x.error(3), error);
        Check.due("agreed on itself when n is 0", x.agreed(3, 3), 8);
        Check.due("its count grows when n is 0", x.count(3, 3), 1);
        x.run(1);
        Check.throwing("command with no member at all", Check.NO_ELEMENT, () -> x.command(3));
        Check.due("a member again, by itself", x.member(3, 3), true);
        x.run(1);
        Check.due("error when n is 1", x.error(3), 992);
        Check.due("command when n is 1", x.command(3), 992 + 992 + integral);
    }

    /** Four nodes that all read this, with this aim, before any round. */
    private static VotingRounds reading(int value, int aim) {
        VotingRounds x = Check.sensing(3, value, value, value, value);
        x.aim(aim);
        return x;
    }

    private static void goOn(VotingRounds x, int aim, int p, int i, int d) {
        x.aim(aim);
        x.tune(p, i, d);
        x.run(1);
    }

    private static void errorAtItsEnds() {
        int[][] cases = {{-1, MOST - 1, MOST}, {-1, MOST, MOST}, {-1, MOST - 2, MOST - 1}, {0, MOST, MOST},
            {LEAST, -1, MOST}, {LEAST, 0, MOST}, {LEAST, -2, MOST - 1}, {LEAST, MOST, MOST},
            {MOST, -1, LEAST}, {MOST, -2, LEAST}, {MOST, 0, LEAST + 1}, {0, LEAST, LEAST}, {1, LEAST, LEAST},
            {1, LEAST + 1, LEAST}, {1, LEAST + 2, LEAST + 1}, {MOST, LEAST, LEAST}, {LEAST, LEAST, 0}, {MOST, MOST, 0}};
        for (int[] c : cases) {
            VotingRounds x = reading(c[0], c[1]);
            x.run(1);
            for (int i = 0; i < 4; i++) {
                Check.due("error by the aim " + c[1] + " and the reading " + c[0], x.error(i), c[2]);
            }
        }
    }

    /** What P, I and D make of e is made of the e that was cut. */
    private static void errorIsCutBeforeTheGains() {
        int[][] gains = {{256, 0, 0}, {0, 256, 0}, {0, 0, 256}};
        for (int[] g : gains) {
            VotingRounds x = reading(LEAST, MOST);
            x.tune(g[0], g[1], g[2]);
            x.run(1);
            Check.due("command by the greatest e", x.command(0), LIMIT / 2 - 1);
            VotingRounds y = reading(MOST, LEAST);
            y.tune(g[0], g[1], g[2]);
            y.run(1);
            Check.due("command by the least e", y.command(0), -LIMIT / 2);
        }
    }

    private static void integralAtItsEnds() {
        for (int sign = -1; sign <= 1; sign += 2) {
            VotingRounds x = reading(0, sign * (LIMIT - 1));
            x.tune(0, ONE, 0);
            x.run(1);
            Check.due("integral one from the limit", x.integral(0), sign * (LIMIT - 1));
            goOn(x, sign, 0, ONE, 0);
            Check.due("integral at the limit", x.integral(0), sign * LIMIT);
            Check.due("command at the limit", x.command(0), sign * LIMIT);
            goOn(x, sign, 0, ONE, 0);
            Check.due("integral beyond the limit by 1", x.integral(0), sign * LIMIT);
            goOn(x, sign * MOST, 0, 1048576, 0);
            Check.due("integral far beyond the limit", x.integral(0), sign * LIMIT);
            goOn(x, -sign, 0, ONE, 0);
            Check.due("integral from the limit back", x.integral(0), sign * (LIMIT - 1));
        }
    }

    /** Six nodes that took over such an integral and error, from states that all of them changed. */
    private static VotingRounds beyond(int bits) {
        VotingRounds x = new VotingRounds(6, 3);
        for (int i = 0; i < 6; i++) {
            x.fault(i, 2, Check.soundChange(0, 0, 0, bits));
        }
        x.run(1);
        for (int i = 0; i < 6; i++) {
            x.fault(i, 0, 0);
        }
        Check.due("an integral from beyond", x.integral(0), bits);
        Check.due("an error from beyond", x.error(0), bits);
        return x;
    }

    /** The integral may lie beyond the limit, up to where an int ends: the sum must not wrap. */
    private static void integralFromBeyond() {
        int[][] cases = {{0x7F000000, 1, LIMIT}, {0x7F000000, MOST, LIMIT}, {0x80000000, -1, -LIMIT},
            {0x80000000, LEAST, -LIMIT}, {0x80000000, MOST, -1}, {0x02000000, -LIMIT, LIMIT},
            {0x02000000, -LIMIT - 1, LIMIT - 1}, {0xFE000000, LIMIT, -LIMIT}, {0xFE000000, LIMIT + 1, 1 - LIMIT}};
        for (int[] c : cases) {
            VotingRounds x = beyond(c[0]);
            goOn(x, c[1], 0, ONE, 0);
            Check.due("integral " + c[0] + " with e = " + c[1], x.integral(0), c[2]);
            Check.due("command by the integral " + c[0] + " with e = " + c[1], x.command(0), c[2]);
        }
    }

    private static void commandAtItsEnds() {
        for (int sign = -1; sign <= 1; sign += 2) {
            int[][] cases = {{LIMIT - 1, LIMIT - 1}, {LIMIT, LIMIT}, {LIMIT + 1, LIMIT}, {MOST, LIMIT}};
            for (int[] c : cases) {
                VotingRounds x = reading(0, sign * c[0]);
                x.run(1);
                Check.due("command by P with e = " + sign * c[0], x.command(3), sign * c[1]);
                Check.due("position with e = " + sign * c[0], x.position(), sign * c[1]);
                Check.due("error isn't cut to the limit", x.error(3), sign * c[0]);
                VotingRounds y = reading(0, sign * c[0]);
                y.tune(0, 0, ONE);
                y.run(1);
                Check.due("command by D with e = " + sign * c[0], y.command(3), sign * c[1]);
            }
        }
    }

    /** e is 1 and adds 1 by I and 1 by P: u is the integral before, and 2. */
    private static void keptJustAbove() {
        int[][] cases = {{LIMIT - 3, LIMIT - 2}, {LIMIT - 2, LIMIT - 1}, {LIMIT - 1, LIMIT - 1}, {LIMIT, LIMIT}};
        for (int[] c : cases) {
            VotingRounds x = reading(0, c[0]);
            x.tune(0, ONE, 0);
            x.run(1);
            goOn(x, 1, ONE, ONE, 0);
            Check.due("integral " + c[0] + " with e = 1", x.integral(0), c[1]);
            Check.due("command, integral " + c[0] + " with e = 1", x.command(0), Math.min(LIMIT, c[0] + 2));
            Check.due("error, integral " + c[0] + " with e = 1", x.error(0), 1);
        }
    }

    private static void keptJustBelow() {
        int[][] cases = {{3 - LIMIT, 2 - LIMIT}, {2 - LIMIT, 1 - LIMIT}, {1 - LIMIT, 1 - LIMIT}, {-LIMIT, -LIMIT}};
        for (int[] c : cases) {
            VotingRounds x = reading(0, c[0]);
            x.tune(0, ONE, 0);
            x.run(1);
            goOn(x, -1, ONE, ONE, 0);
            Check.due("integral " + c[0] + " with e = -1", x.integral(0), c[1]);
            Check.due("command, integral " + c[0] + " with e = -1", x.command(0), Math.max(-LIMIT, c[0] - 2));
            Check.due("error, integral " + c[0] + " with e = -1", x.error(0), -1);
        }
    }

    /**
     * u is beyond the limit by D, and e is 1, 0 or -1. At 0 the integral can change only when it lies beyond
     * the limit itself; it is left there by a round whose u is beyond the other limit.
     */
    private static void keptByTheSignOfE() {
        for (int sign = -1; sign <= 1; sign += 2) {
            for (int e = -1; e <= 1; e++) {
                int from = sign * (1 << 25);
                VotingRounds x = beyond(from);
                goOn(x, -sign * 3 * LIMIT, 1048576, 0, 0);
                Check.due("integral " + from + " is kept", x.integral(0), from);
                Check.due("error for the next round", x.error(0), -sign * 3 * LIMIT);
                goOn(x, sign * e, 0, ONE, ONE);
                String when = "u beyond, integral " + from + ", e = " + sign * e;
                Check.due(when + ": command", x.command(0), sign * LIMIT);
                Check.due(when + ": integral", x.integral(0), e == 1 ? from : sign * LIMIT);
                Check.due(when + ": error", x.error(0), sign * e);
            }
        }
    }

    /** Each gain at 0, 1, 1048575 and 1048576. */
    private static void gainsAtTheirEnds() {
        int[][] gains = {{0, 0}, {1, 1}, {1048575, 1048575}, {1048576, 1048576}};
        for (int[] g : gains) {
            VotingRounds x = reading(0, ONE);
            x.tune(g[0], 0, 0);
            x.run(1);
            Check.due("command with P = " + g[0], x.command(0), g[1]);
            VotingRounds y = reading(0, ONE);
            y.tune(0, g[0], 0);
            y.run(1);
            Check.due("command with I = " + g[0], y.command(0), g[1]);
            Check.due("integral with I = " + g[0], y.integral(0), g[1]);
            VotingRounds z = reading(0, ONE);
            z.tune(0, 0, g[0]);
            z.run(1);
            Check.due("command with D = " + g[0], z.command(0), g[1]);
        }
    }

    /** The greatest gains and the greatest change of e: longs hold all of it. */
    private static void greatestOfAll() {
        VotingRounds x = reading(0, LEAST);
        x.tune(1048576, 1048576, 1048576);
        x.run(1);
        Check.due("the least command", x.command(0), -LIMIT);
        Check.due("the integral is kept", x.integral(0), 0);
        x.aim(MOST);
        x.run(1);
        Check.due("the greatest command", x.command(0), LIMIT);
        Check.due("the integral is kept again", x.integral(0), 0);
        Check.due("the greatest error", x.error(0), MOST);
    }

    /** What each gain makes of the greatest e goes far beyond an int. */
    private static void eachGreatTermAlone() {
        int[][] gains = {{1048576, 0, 0}, {0, 1048576, 0}, {0, 0, 1048576}};
        for (int[] g : gains) {
            VotingRounds x = reading(0, MOST);
            x.tune(g[0], g[1], g[2]);
            x.run(1);
            Check.due("the greatest command by one gain", x.command(0), LIMIT);
            VotingRounds y = reading(0, LEAST);
            y.tune(g[0], g[1], g[2]);
            y.run(1);
            Check.due("the least command by one gain", y.command(0), -LIMIT);
        }
    }

    /** Halves: each of the terms is shifted before they are added, so that two of them don't make one. */
    private static void eachTermIsRoundedAlone() {
        int half = ONE / 2;
        int[][] gains = {{half, half, 0, -2}, {half, 0, half, -2}, {0, half, half, -2}, {half, half, half, -3}};
        for (int[] g : gains) {
            VotingRounds x = reading(0, 1);
            x.tune(g[0], g[1], g[2]);
            x.run(1);
            Check.due("command by halves above 0", x.command(0), 0);
            VotingRounds y = reading(0, -1);
            y.tune(g[0], g[1], g[2]);
            y.run(1);
            Check.due("command by halves below 0", y.command(0), g[3]);
        }
    }

    /** u is beyond the limit by an i that doesn't become the integral; the command goes by that u all the same. */
    private static void keptButCommanded() {
        for (int sign = -1; sign <= 1; sign += 2) {
            VotingRounds x = reading(0, sign * (LIMIT / 4 * 3));
            x.tune(ONE, ONE, 0);
            x.run(1);
            Check.due("command by an i that isn't kept", x.command(0), sign * LIMIT);
            Check.due("integral when i isn't kept", x.integral(0), 0);
        }
    }
}
