/** Many made-up runs of calls on all methods, with edge arguments among them: every answer and every getter is held against the Model. */
public final class CallsTest {
    private static final int ROUNDS = 500;
    private static final int CALLS = 250;
    private static final Check CHECK = new Check();
    private static final int[] EDGES = {Integer.MIN_VALUE, Integer.MIN_VALUE + 1, -256, -3, -2, -1, 0, 4, 7, 8, 9, 10, 15, 16,
        31, 32, 33, 34, 95, 96, 97, 122, 123, 126, 127, 128, 255, 256, 257, 65536, Integer.MAX_VALUE - 1, Integer.MAX_VALUE};
    // The first ones leave a text without error, wherever they are put into slot 0.
    private static final int GOOD_PIECES = 12;
    private static final String[] PIECES = {"{{a}}", "{{.}}", "{{&b}}", "{{#a}}{{.}}0123456789{{/a}}", "{{^b}}{{a}} {{/b}}", "{{!\n}}",
        "{{>1}}", "{{>2}}", "\n", " ", "x", "0123456789",
        "{{=< >=}}", "<a>", "<={{ }}=>", "{{", "}}", "{{?}}", "{{#a}}", "{{/a}}", "{{^b}}", "{{/b}}", "{{>3}}", "\n  "};
    // A plain counting generator with a fixed start: the same calls in every run.
    private long made = 5;
    private int pieces;
    private final int[] answers = new int[10];

    public static void main(String[] args) {
        CallsTest test = new CallsTest();
        for (int round = 0; round < ROUNDS; round++) {
            test.round();
        }
        System.out.println("answers 0 to -9: " + java.util.Arrays.toString(test.answers));
        for (int result = 0; result > -10; result--) {
            CHECK.due("enough answers " + result + " to be of use", test.answers[-result] > 50 ? 1 : 0, 1);
        }
        CHECK.end();
    }

    private int below(int bound) {
        made = made * 6364136223846793005L + 1442695040888963407L;
        return (int) (made >>> 33) % bound;
    }

    private int edge() {
        return EDGES[below(EDGES.length)];
    }

    /** Mostly one of the least ones, seldom an edge. */
    private int mostly(int least, int count) {
        return below(12) == 0 ? edge() : least + below(count);
    }

    private void round() {
        Twin twin = new Twin(CHECK, mostly(16, 60));
        twin.sameState();
        pieces = below(2) == 0 ? GOOD_PIECES : PIECES.length;
        for (int i = 0; i < 8; i++) {
            twin.newValue(below(3) == 0 ? 1 + below(6) : 4 + below(3), below(100));
        }
        for (int i = 0; i < CALLS; i++) {
            int answer = call(twin);
            if (answer <= 0 && answer > -10) {
                answers[-answer]++;
            }
            twin.get(edge(), edge());
            twin.sameState();
        }
    }

    private int call(Twin twin) {
        int slot = mostly(0, 4);
        int id = mostly(1, 12);
        switch (below(18)) {
            case 0:
                return twin.putChars(slot, packed());
            case 1:
            case 2:
            case 3:
                twin.put(slot, PIECES[below(pieces)]);
                return 1;
            case 4:
                return below(3) == 0 ? twin.clearTemplate(slot) : 1;
            case 5:
            case 6:
                return twin.compile(slot);
            case 7:
            case 8:
                return twin.newValue(mostly(1, 6), below(2) == 0 ? edge() : below(100));
            case 9:
            case 10:
                return twin.appendChar(id, mostly(32, 95));
            case 11:
            case 12:
                return twin.addItem(id, mostly(1, 12));
            case 13:
            case 14:
                return twin.setField(id, mostly('a', 3 + below(24)), mostly(1, 12));
            case 15:
            case 16:
                return twin.render(id);
            default:
                return twin.compile(0);
        }
    }

    private int packed() {
        int packed = 0;
        for (int i = 0; i < 4; i++) {
            int c = below(4) == 0 ? edge() & 255 : 32 + below(95);
            packed |= c << 8 * i;
        }
        return packed;
    }
}
