import java.util.ArrayList;
import java.util.List;
import java.util.Random;

/**
 * All promises: made-up runs of calls, after each of which all that can be asked is compared with the model.
 * An object is promised for 512 calls alone, so each comparison takes a new one, which gets all calls so far.
 */
public final class ModelTest {
    private static final int RUNS = 400;
    private static final int CALLS = 40;

    private interface ProgramCall {
        Object of(VotingRounds x);
    }

    private final Random random;
    private final int n;
    private final int nodesAsked;
    private final int kAsked;
    private final Model model;
    private final String name;
    private final List<String> texts = new ArrayList<>();
    private final List<ProgramCall> calls = new ArrayList<>();
    /** Few arguments in a run, so that several nodes often lie alike. */
    private final long[] arguments = new long[3];
    private final int[] readings = new int[3];

    private ModelTest(int seed) {
        random = new Random(seed);
        n = 4 + random.nextInt(3);
        nodesAsked = n == 4 && seed % 7 == 0 ? 7 : n;
        kAsked = seed % 20 == 0 ? random.nextInt(12) - 1 : 1 + random.nextInt(3);
        model = new Model(nodesAsked, kAsked);
        name = "seed " + seed + ": VotingRounds(" + nodesAsked + ", " + kAsked + ")";
        for (int i = 0; i < 3; i++) {
            arguments[i] = argument();
            readings[i] = number();
        }
    }

    public static void main(String[] args) {
        int seed = 0;
        while (seed < RUNS && !Check.isHopeless()) {
            new ModelTest(seed).go();
            seed++;
        }
        Check.finish();
    }

    private void go() {
        for (int i = 0; i < CALLS && !Check.isHopeless(); i++) {
            doOne();
            compareAll(doneAnew());
        }
    }

    /** A new object that got all calls so far. */
    private VotingRounds doneAnew() {
        VotingRounds x = new VotingRounds(nodesAsked, kAsked);
        for (ProgramCall call : calls) {
            Check.answerOf(() -> call.of(x));
        }
        return x;
    }

    private int node() {
        return random.nextInt(30) == 0 ? random.nextInt(9) - 2 : random.nextInt(n);
    }

    private int number() {
        switch (random.nextInt(5)) {
            case 0:
                return random.nextInt();
            case 1:
                return random.nextBoolean() ? Integer.MIN_VALUE : Integer.MAX_VALUE;
            case 2:
                return random.nextInt(8);
            default:
                return random.nextInt(40000000) - 20000000;
        }
    }

    private long argument() {
        switch (random.nextInt(6)) {
            case 0:
                return 1L << random.nextInt(64);
            case 1:
                return random.nextLong();
            case 2:
                return Check.soundChange(0, 1 + random.nextInt(15), 0, random.nextBoolean() ? 0 : random.nextInt(4));
            case 3:
                return Check.soundChange(random.nextInt(2), 0, random.nextInt(2), random.nextInt(4));
            default:
                return Check.soundChange(0, 0, 0, random.nextBoolean() ? random.nextInt() : 1 << random.nextInt(32));
        }
    }

    private int gain() {
        int[] gains = {0, 0, 1, 65536, 32768, 1048576, 200000, random.nextInt(1048577)};
        return random.nextInt(25) == 0 ? random.nextInt() : gains[random.nextInt(gains.length)];
    }

    private void doOne() {
        int node = node();
        int number = random.nextInt(3) == 0 ? number() : readings[random.nextInt(3)];
        switch (random.nextInt(11)) {
            case 0:
                both("sense(" + node + ", " + number + ")", x -> x.sense(node, number), () -> model.sense(node, number));
                break;
            case 1:
                both("aim(" + number + ")", x -> deed(() -> x.aim(number)), () -> deed(() -> model.aim(number)));
                break;
            case 2:
                tune();
                break;
            case 3:
            case 4:
                fault(node);
                break;
            case 5:
                both("restart(" + node + ")", x -> x.restart(node), () -> model.restart(node));
                break;
            case 6:
                ask(node);
                break;
            default:
                int rounds = random.nextInt(20) == 0 ? random.nextInt(8) - 1 : 1 + random.nextInt(2);
                both("run(" + rounds + ")", x -> x.run(rounds), () -> model.run(rounds));
                break;
        }
    }

    private void tune() {
        int p = gain();
        int i = gain();
        int d = gain();
        both("tune(" + p + ", " + i + ", " + d + ")", x -> deed(() -> x.tune(p, i, d)),
                () -> deed(() -> model.tune(p, i, d)));
    }

    private void fault(int node) {
        int kind = random.nextInt(30) == 0 ? random.nextInt(9) - 2 : random.nextInt(5);
        long argument = random.nextInt(5) == 0 ? argument() : arguments[random.nextInt(3)];
        both("fault(" + node + ", " + kind + ", " + argument + ")", x -> deed(() -> x.fault(node, kind, argument)),
                () -> deed(() -> model.fault(node, kind, argument)));
    }

    /** A question amid the run, for it must change nothing. */
    private void ask(int node) {
        int of = node();
        switch (random.nextInt(4)) {
            case 0:
                both("agreed(" + node + ", " + of + ")", x -> x.agreed(node, of), () -> model.agreed(node, of));
                break;
            case 1:
                both("same(" + node + ", " + of + ")", x -> x.same(node, of), () -> model.same(node, of));
                break;
            case 2:
                both("command(" + node + ")", x -> x.command(node), () -> model.command(node));
                break;
            default:
                both("count(" + node + ", " + of + ")", x -> x.count(node, of), () -> model.count(node, of));
                break;
        }
    }

    private static Object deed(Check.Deed deed) {
        deed.go();
        return "nothing";
    }

    /** The object that gets the call here is a new one too, and its answer is compared. */
    private void both(String text, ProgramCall program, Check.Call due) {
        VotingRounds x = doneAnew();
        compare(text, () -> program.of(x), due);
        texts.add(text);
        calls.add(program);
    }

    private void compare(String call, Check.Call program, Check.Call due) {
        String got = Check.answerOf(program);
        String want = Check.answerOf(due);
        Check.due(got.equals(want) ? call : name + " " + texts + ", then " + call, got, want);
    }

    private void compareAll(VotingRounds x) {
        compare("position()", x::position, model::position);
        compare("safes()", x::safes, model::safes);
        compare("blocked()", x::blocked, model::blocked);
        for (int i = -1; i <= n + 1; i++) {
            compareNode(x, i);
            for (int j = -1; j <= n; j++) {
                comparePair(x, i, j);
            }
        }
    }

    private void compareNode(VotingRounds x, int i) {
        compare("rejected(" + i + ")", () -> x.rejected(i), () -> model.rejected(i));
        compare("lost(" + i + ")", () -> x.lost(i), () -> model.lost(i));
        compare("integral(" + i + ")", () -> x.integral(i), () -> model.integral(i));
        compare("error(" + i + ")", () -> x.error(i), () -> model.error(i));
        compare("command(" + i + ")", () -> x.command(i), () -> model.command(i));
    }

    private void comparePair(VotingRounds x, int i, int j) {
        compare("agreed(" + i + ", " + j + ")", () -> x.agreed(i, j), () -> model.agreed(i, j));
        compare("member(" + i + ", " + j + ")", () -> x.member(i, j), () -> model.member(i, j));
        compare("count(" + i + ", " + j + ")", () -> x.count(i, j), () -> model.count(i, j));
        compare("same(" + i + ", " + j + ")", () -> x.same(i, j), () -> model.same(i, j));
    }
}
