/** Many made-up templates and values, held against the Model. */
public final class ModelTest {
    private static final int ROUNDS = 30000;
    private static final Check CHECK = new Check();
    private static final String[] PIECES = {"{{", "}}", "{", "}", "#", "^", "/", "&", ">", "=", "!", ".", "a", "b", "c",
        " ", "  ", "\n", "\n", "1", "2", "3", "<", ">", "x", "\"", "'", "{{=< >=}}", "<={{ }}=>", "{{=<% %>=}}",
        "{{=| |=}}", "|=<< >>=|"};
    private static final String[] OPENS = {"{{", "{{", "{{", "<", "|"};
    private static final String[] CLOSES = {"}}", "}}", "}}", ">", "|"};
    // A plain counting generator with a fixed start: the same templates in every run.
    private long made = 20261115;
    private int compiled;
    private int filled;

    public static void main(String[] args) {
        ModelTest test = new ModelTest();
        for (int round = 0; round < ROUNDS; round++) {
            test.round();
        }
        System.out.println(test.compiled + " templates compiled, " + test.filled + " outputs were too small");
        CHECK.due("enough templates compile to be of use", test.compiled > ROUNDS ? 1 : 0, 1);
        CHECK.due("enough outputs overflow to be of use", test.filled > ROUNDS / 20 ? 1 : 0, 1);
        CHECK.end();
    }

    private int anyInt() {
        made = made * 6364136223846793005L + 1442695040888963407L;
        return (int) (made >>> 32);
    }

    private int below(int bound) {
        return (anyInt() >>> 1) % bound;
    }

    private void round() {
        int outCap = below(4) == 0 ? 16 + below(20) : 16 + below(241);
        Twin twin = new Twin(CHECK, outCap);
        makeValues(twin);
        for (int change = 0; change < 3; change++) {
            for (int slot = 3; slot >= 0; slot--) {
                if (below(3) != 0 || change == 0) {
                    changeTemplate(twin, slot);
                }
            }
            for (int root = 1; root <= 3; root++) {
                filled += twin.render(root) == LogicLessTemplate.ERR_OVERFLOW ? 1 : 0;
                twin.sameOutput();
            }
            makeValues(twin);
        }
        twin.sameState();
    }

    private void changeTemplate(Twin twin, int slot) {
        twin.clearTemplate(slot);
        twin.put(slot, template(slot));
        if (below(12) != 0) {
            compiled += twin.compile(slot) == LogicLessTemplate.OK ? 1 : 0;
        }
        twin.get(slot, 0);
    }

    private String template(int slot) {
        StringBuilder text = new StringBuilder();
        int kind = below(10);
        int size = below(24);
        int marks = 0;
        char[] open = new char[64];
        int depth = 0;
        for (int i = 0; i < size && text.length() < 80; i++) {
            if (kind == 0) {
                text.append(PIECES[below(PIECES.length)]);
                continue;
            }
            String o = OPENS[marks];
            String c = CLOSES[marks];
            switch (below(12)) {
                case 0:
                case 1:
                    open[depth] = name();
                    text.append(o).append(below(3) == 0 ? '^' : '#').append(spaces()).append(open[depth++]).append(c);
                    break;
                case 2:
                case 3:
                    char last = depth > 0 ? open[--depth] : name();
                    text.append(o).append('/').append(last).append(spaces()).append(c);
                    break;
                case 4:
                    text.append(o).append(slot == 0 ? ">" : "!").append(1 + below(3)).append(c);
                    break;
                case 5:
                    text.append(o).append("!").append(below(2) == 0 ? "\n" : " c").append(c);
                    break;
                case 6:
                    marks = below(OPENS.length);
                    text.append(o).append("=").append(OPENS[marks]).append(" ").append(CLOSES[marks]).append("=").append(c);
                    break;
                case 7:
                case 8:
                    text.append(o).append(below(2) == 0 ? "&" : spaces()).append(name()).append(spaces()).append(c);
                    break;
                case 9:
                    text.append(PIECES[below(PIECES.length)]);
                    break;
                default:
                    text.append(below(2) == 0 ? "\n" : spaces() + "xyz".substring(below(3)));
                    break;
            }
            text.append(below(4) == 0 ? spaces() + "\n" + spaces() : "");
        }
        while (kind > 1 && depth > 0) {
            text.append(OPENS[marks]).append('/').append(open[--depth]).append(CLOSES[marks]);
        }
        return text.substring(0, Math.min(text.length(), LogicLessTemplate.TEXT_CAP));
    }

    private char name() {
        return "aabbcd.".charAt(below(7));
    }

    private String spaces() {
        return "  ".substring(below(6) < 4 ? 2 : below(2));
    }

    private void makeValues(Twin x) {
        for (int i = 0; i < 6; i++) {
            int kind = below(2) == 0 ? LogicLessTemplate.KIND_LIST + below(2) : 1 + below(6);
            x.newValue(kind, below(3) == 0 ? anyInt() : below(20) - 10);
        }
        for (int i = 0; i < 60; i++) {
            int id = 1 + below(20);
            int other = 1 + below(20);
            x.appendChar(id, below(3) == 0 ? "&<>\"'".charAt(below(5)) : 32 + below(95));
            if (below(2) == 0) {
                x.addItem(id, other);
            } else {
                x.setField(id, 'a' + below(4), other);
            }
        }
    }
}
