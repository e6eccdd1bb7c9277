import java.util.Random;

/**
 * The document's first sentence: whatever a single node sends or keeps back, the others stay of one mind, and
 * take it in again when it is well. One node has each fault, and is lost too at times; the others read and agree.
 */
public final class OneMindTest {
    private static final int ROUNDS = 5;

    private final Random random;
    private final int n;
    private final int bad;
    private final String name;
    private final VotingRounds x;
    private final int[] readings;

    private OneMindTest(int n, int k, int bad, int kind, long argument, int seed) {
        random = new Random(seed);
        this.n = n;
        this.bad = bad;
        name = "VotingRounds(" + n + ", " + k + "), fault(" + bad + ", " + kind + ", " + argument + ")";
        readings = new int[n];
        x = new VotingRounds(n, k);
        x.aim(random.nextInt(2000));
        x.tune(65536, 20000, 30000);
        x.fault(bad, kind, argument);
    }

    public static void main(String[] args) {
        int seed = 0;
        for (int n = 4; n <= 6; n++) {
            for (int bad = 0; bad < n; bad++) {
                for (int k = 1; k <= 3; k++) {
                    for (long argument : arguments(seed)) {
                        new OneMindTest(n, k, bad, 2, argument, seed++).go();
                        new OneMindTest(n, k, bad, 3, argument, seed++).go();
                    }
                    new OneMindTest(n, k, bad, 1, 0, seed++).go();
                    new OneMindTest(n, k, bad, 4, 0, seed++).go();
                }
            }
        }
        Check.finish();
    }

    /** Unsound frames, sound ones of another sender, kind or round, and such with another content. */
    private static long[] arguments(int seed) {
        Random random = new Random(seed);
        return new long[] {random.nextLong(), 1L << random.nextInt(64), Check.soundChange(1, 0, 0, 0),
            Check.soundChange(0, 1 + random.nextInt(15), 0, random.nextInt(8)), Check.soundChange(0, 0, 1, 0),
            Check.soundChange(0, 0, 0, 1 + random.nextInt(100)), Check.soundChange(0, 0, 0, random.nextInt())};
    }

    private void go() {
        for (int round = 0; round < ROUNDS; round++) {
            senseAnew();
            boolean isLost = random.nextInt(4) == 0 && x.restart(bad);
            x.run(1);
            areOfOneMind(name + (isLost ? ", restarted" : "") + ", round " + round);
        }
        x.fault(bad, 0, 0);
        x.run(2);
        isTakenIn(name + ", when it is well");
    }

    private void senseAnew() {
        for (int i = 0; i < n; i++) {
            readings[i] = random.nextInt(2000) - 1000;
            x.sense(i, readings[i]);
        }
    }

    private void areOfOneMind(String when) {
        int first = bad == 0 ? 1 : 0;
        Check.due(when + ": position", x.position(), x.command(first));
        Check.due(when + ": safes", x.safes(), 0);
        String onBad = Check.answerOf(() -> x.agreed(first, bad));
        for (int i = 0; i < n; i++) {
            int node = i;
            if (i != bad) {
                Check.due(when + ": same(" + first + ", " + i + ")", x.same(first, i), true);
                Check.due(when + ": command(" + i + ")", x.command(i), x.position());
                Check.due(when + ": agreed on the bad one", Check.answerOf(() -> x.agreed(node, bad)), onBad);
                Check.due(when + ": agreed on another", x.agreed(first, i), readings[i]);
                Check.due(when + ": agreed by another", x.agreed(i, first), readings[first]);
                Check.due(when + ": member(" + first + ", " + i + ")", x.member(first, i), true);
            }
        }
    }

    private void isTakenIn(String when) {
        Check.due(when + ": lost", x.lost(bad), false);
        Check.due(when + ": agreed", x.agreed(bad == 0 ? 1 : 0, bad), readings[bad]);
        for (int i = 0; i < n; i++) {
            Check.due(when + ": member(" + i + ", " + bad + ")", x.member(i, bad), true);
            Check.due(when + ": same(" + i + ", " + bad + ")", x.same(i, bad), true);
            Check.due(when + ": command(" + i + ")", x.command(i), x.position());
        }
    }
}
