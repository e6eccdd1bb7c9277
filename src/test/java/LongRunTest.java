/** The round's number modulo 256, and counts as far as 512 calls of one object can bring them. */
public final class LongRunTest {
    public static void main(String[] args) {
        wrapsAround(256);
        wrapsAround(512);
        wrapsAround(1024);
        otherRoundsAround();
        mostRejected();
        mostBlocked();
        mostRounds();
        Check.finish();
    }

    private static VotingRounds after(int n, int rounds) {
        VotingRounds x = new VotingRounds(n, 3);
        for (int done = 0; done < rounds; done += 4) {
            x.run(4);
        }
        return x;
    }

    /** The rounds with the numbers at - 4 .. at + 3 and what nodes agree on in each of them. */
    private static void wrapsAround(int at) {
        VotingRounds x = after(4, at - 4);
        for (int number = at - 4; number < at + 4; number++) {
            x.sense(3, number);
            x.aim(number);
            Check.due("how many rounds there were", x.run(1), number + 1);
            Check.due("agreed in the round " + number, x.agreed(0, 3), number);
            Check.due("position in the round " + number, x.position(), number);
        }
        Check.due("safes around " + at, x.safes(), 0);
        for (int r = 0; r <= 4; r++) {
            Check.due("rejected around " + at, x.rejected(r), 0);
        }
    }

    /** A frame with the number of the round before, or of that 256 rounds apart but for a bit, isn't due. */
    private static void otherRoundsAround() {
        VotingRounds x = after(4, 252);
        int[] changes = {255, 1, 128, 255, 255, 1, 128, 255};
        for (int i = 0; i < changes.length; i++) {
            x.fault(3, 2, Check.soundChange(0, 0, changes[i], 0));
            x.run(1);
            Check.due("rejected in the round " + (252 + i), x.rejected(0), 8 * (i + 1));
        }
    }

    /** Six faults, 500 calls of run, and six that ask: 512. */
    private static VotingRounds allWith(int kind) {
        VotingRounds x = new VotingRounds(6, 8);
        for (int i = 0; i < 6; i++) {
            x.fault(i, kind, 1);
        }
        for (int i = 0; i < 500; i++) {
            x.run(4);
        }
        return x;
    }

    /** Of each of five others a value, five relays and four states in each of 2000 rounds; of all six a command. */
    private static void mostRejected() {
        VotingRounds x = allWith(2);
        Check.due("most rejected at 0", x.rejected(0), 2000 * 5 * 10);
        Check.due("most rejected at 5", x.rejected(5), 2000 * 5 * 10);
        Check.due("most rejected at the actuator", x.rejected(6), 2000 * 6);
        Check.due("most safe rounds", x.safes(), 2000);
        Check.due("none blocked", x.blocked(), 0);
        Check.due("the 512th call", x.run(4), 2004);
    }

    private static void mostBlocked() {
        VotingRounds x = allWith(4);
        Check.due("most blocked", x.blocked(), 2000 * 6 * 11);
        Check.due("none rejected at 0", x.rejected(0), 0);
        Check.due("none rejected at the actuator", x.rejected(6), 0);
        Check.due("safe rounds, all blocked", x.safes(), 2000);
        Check.due("position, all blocked", x.position(), 0);
        Check.due("the 512th call, all blocked", x.run(4), 2004);
    }

    private static void mostRounds() {
        VotingRounds x = new VotingRounds(5, 8);
        for (int i = 1; i <= 512; i++) {
            Check.due("run(4), the call " + i, x.run(4), 4 * i);
        }
    }
}
