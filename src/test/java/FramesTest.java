import java.util.Random;

/** Promises 20 and 21: frame, sound. */
public final class FramesTest {
    public static void main(String[] args) {
        known();
        edges();
        wrongCalls();
        madeUp();
        Check.finish();
    }

    /** The check bits, step by step as the document says them. */
    static int checkBits(long frame) {
        int c = 65535;
        for (int bit = 63; bit >= 16; bit--) {
            int former = (int) (frame >>> bit & 1) ^ c >> 15;
            c = c << 1 & 65535;
            if (former == 1) {
                c ^= 4129;
            }
        }
        return c;
    }

    private static void known() {
        VotingRounds x = new VotingRounds(5, 1);
        Check.due("frame(3, 0, 7, -1)", x.frame(3, 0, 7, -1), 3461016313634217863L);
        Check.due("frame(0, 15, 255, MIN)", x.frame(0, 15, 255, Integer.MIN_VALUE), 1152780767118511236L);
        Check.due("sound(1 << 62)", x.sound(1L << 62), false);
        Check.due("sound(frame(3, 0, 7, -1))", x.sound(3461016313634217863L), true);
    }

    private static void edges() {
        int[] nibbles = {0, 1, 7, 8, 15};
        int[] rounds = {0, 1, 127, 128, 255};
        int[] contents = {0, 1, -1, Integer.MIN_VALUE, Integer.MAX_VALUE, 65535, 65536};
        for (int sender : nibbles) {
            for (int kind : nibbles) {
                for (int round : rounds) {
                    for (int content : contents) {
                        made(sender, kind, round, content);
                    }
                }
            }
        }
    }

    private static void made(int sender, int kind, int round, int content) {
        VotingRounds x = new VotingRounds(4, 3);
        String call = "frame(" + sender + ", " + kind + ", " + round + ", " + content + ")";
        long open = (long) sender << 60 | (long) kind << 56 | (long) round << 48 | (content & 0xFFFFFFFFL) << 16;
        long frame = x.frame(sender, kind, round, content);
        Check.due(call, frame, open | checkBits(open));
        Check.due("sound(" + call + ")", x.sound(frame), true);
        for (int bit = 0; bit < 64; bit++) {
            Check.due("sound(" + call + ") with bit " + bit + " turned", x.sound(frame ^ 1L << bit), false);
        }
    }

    private static void wrongCalls() {
        VotingRounds x = new VotingRounds(4, 3);
        int[][] wrong = {{-1, 0, 0}, {16, 0, 0}, {0, -1, 0}, {0, 16, 0}, {0, 0, -1}, {0, 0, 256},
            {Integer.MIN_VALUE, 0, 0}, {0, Integer.MAX_VALUE, 0}, {0, 0, Integer.MIN_VALUE}};
        for (int[] w : wrong) {
            Check.throwing("frame(" + w[0] + ", " + w[1] + ", " + w[2] + ", 0)", Check.ARGUMENT,
                    () -> x.frame(w[0], w[1], w[2], 0));
        }
    }

    private static void madeUp() {
        Random random = new Random(21);
        for (int i = 0; i < 20000; i++) {
            VotingRounds x = new VotingRounds(4, 3);
            long frame = random.nextLong();
            long sound = frame & ~65535L | checkBits(frame);
            Check.due("sound(" + frame + ")", x.sound(frame), frame == sound);
            Check.due("sound(" + sound + ")", x.sound(sound), true);
        }
    }
}
