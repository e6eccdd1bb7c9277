import java.util.NoSuchElementException;

/** What the tests of this project share: they compare answers, print each wrong one, and end with 1 if there was one. */
final class Check {
    static final Class<? extends RuntimeException> ARGUMENT = IllegalArgumentException.class;
    static final Class<? extends RuntimeException> STATE = IllegalStateException.class;
    static final Class<? extends RuntimeException> NO_ELEMENT = NoSuchElementException.class;

    private static int wrong = 0;
    private static int compared = 0;

    interface Call {
        Object answer();
    }

    interface Deed {
        void go();
    }

    private Check() {
    }

    /** The answer as a text, or the name of what was thrown behind "throws.". */
    static String answerOf(Call call) {
        try {
            return String.valueOf(call.answer());
        } catch (RuntimeException e) {
            return "throws." + e.getClass().getSimpleName();
        }
    }

    static void due(String what, Object got, Object want) {
        compared++;
        if (!String.valueOf(got).equals(String.valueOf(want))) {
            wrong++;
            System.out.println(what + " answered " + got + ", due is " + want);
        }
    }

    static void throwing(String what, Class<? extends RuntimeException> due, Call call) {
        due(what, answerOf(call), "throws." + due.getSimpleName());
    }

    static void throwingDeed(String what, Class<? extends RuntimeException> due, Deed deed) {
        throwing(what, due, () -> {
            deed.go();
            return "nothing";
        });
    }

    /** Whether wrong answers are so many that a long test had better stop. */
    static boolean isHopeless() {
        return wrong > 20;
    }

    static void finish() {
        System.out.println(compared + " answers compared, " + wrong + " wrong");
        if (wrong != 0 || compared == 0) {
            System.exit(1);
        }
    }

    /** An object whose nodes read these values. */
    static VotingRounds sensing(int k, int... readings) {
        VotingRounds x = new VotingRounds(readings.length, k);
        for (int i = 0; i < readings.length; i++) {
            x.sense(i, readings[i]);
        }
        return x;
    }

    /** An argument for fault 2 that changes these fields of a frame and leaves it sound. */
    static long soundChange(int sender, int kind, int round, int content) {
        VotingRounds x = new VotingRounds(4, 3);
        return x.frame(0, 0, 0, 0) ^ x.frame(sender, kind, round, content);
    }
}
