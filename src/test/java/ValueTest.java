/** Promises 7 to 12: the store of values. */
public final class ValueTest {
    private static final int OK = LogicLessTemplate.OK;
    private static final int ARG = LogicLessTemplate.ERR_ARG;
    private static final int FULL = LogicLessTemplate.ERR_FULL;
    private static final int[] NO_IDS = {0, -1, 7, 33, 1000, Integer.MIN_VALUE, Integer.MAX_VALUE};
    private static final Check CHECK = new Check();

    public static void main(String[] args) {
        creating();
        creatingTooMany();
        strings();
        lists();
        maps();
        info();
        fields();
        valuesStandApart();
        CHECK.end();
    }

    /** One value of each kind: ids 1 to 6, as the kinds. */
    private static LogicLessTemplate oneOfEach() {
        LogicLessTemplate x = new LogicLessTemplate(64);
        for (int kind = 1; kind <= 6; kind++) {
            CHECK.due("P7: newValue(" + kind + ")", x.newValue(kind, 41), kind);
        }
        return x;
    }

    private static void creating() {
        LogicLessTemplate x = oneOfEach();
        for (int kind = 1; kind <= 6; kind++) {
            CHECK.due("P7: kind", x.valueInfo(kind, -2), kind);
            CHECK.due("P7: num counts for a NUM alone", x.valueInfo(kind, -1), kind == 3 ? 41 : 0);
            CHECK.due("P7: holds nothing", x.valueInfo(kind, 0), -1);
        }
        for (int kind : new int[] {0, 7, -1, Integer.MIN_VALUE, Integer.MAX_VALUE}) {
            CHECK.refused("P7: newValue(" + kind + ")", x, () -> x.newValue(kind, 0), ARG);
        }
        for (int num : new int[] {0, -1, Integer.MIN_VALUE, Integer.MAX_VALUE}) {
            int id = x.newValue(3, num);
            CHECK.due("P7: its int", x.valueInfo(id, -1), num);
        }
        CHECK.due("P7: ids go on", x.newValue(1, 0), 11);
    }

    private static void creatingTooMany() {
        LogicLessTemplate x = new LogicLessTemplate(64);
        for (int id = 1; id <= 32; id++) {
            CHECK.due("P7: id", x.newValue(1 + id % 6, id), id);
        }
        CHECK.refused("P7: a value too many", x, () -> x.newValue(1, 0), FULL);
        CHECK.refused("P7: a bad kind goes first", x, () -> x.newValue(0, 0), ARG);
        CHECK.due("P7: kind of the last", x.valueInfo(32, -2), 3);
        CHECK.due("P7: no 33rd", x.valueInfo(33, -2), 0);
    }

    private static void strings() {
        LogicLessTemplate x = oneOfEach();
        for (int id : NO_IDS) {
            CHECK.refused("P8: no value " + id, x, () -> x.appendChar(id, 'a'), ARG);
        }
        for (int id : new int[] {1, 2, 3, 5, 6}) {
            CHECK.refused("P8: another kind " + id, x, () -> x.appendChar(id, 'a'), ARG);
        }
        for (int c : new int[] {31, 127, 10, 0, -1, Integer.MIN_VALUE, Integer.MAX_VALUE, 'a' + 256}) {
            CHECK.refused("P8: character " + c, x, () -> x.appendChar(4, c), ARG);
        }
        int[] chars = {32, 126, 'a', '"', '=', 'z', '{', '0'};
        for (int i = 0; i < chars.length; i++) {
            CHECK.due("P8: appendChar", x.appendChar(4, chars[i]), OK);
            CHECK.due("P8: length", x.valueInfo(4, -1), i + 1);
        }
        for (int i = 0; i < chars.length; i++) {
            CHECK.due("P8: character " + i, x.valueInfo(4, i), chars[i]);
        }
        CHECK.refused("P8: a ninth", x, () -> x.appendChar(4, 'a'), FULL);
        CHECK.refused("P8: a bad ninth", x, () -> x.appendChar(4, 127), ARG);
    }

    private static void lists() {
        LogicLessTemplate x = oneOfEach();
        for (int id : NO_IDS) {
            CHECK.refused("P9: no list " + id, x, () -> x.addItem(id, 1), ARG);
            CHECK.refused("P9: no item " + id, x, () -> x.addItem(5, id), ARG);
        }
        for (int id : new int[] {1, 2, 3, 4, 6}) {
            CHECK.refused("P9: another kind " + id, x, () -> x.addItem(id, 1), ARG);
        }
        int[] items = {6, 5, 6, 1};
        for (int i = 0; i < items.length; i++) {
            CHECK.due("P9: addItem", x.addItem(5, items[i]), OK);
            CHECK.due("P9: count", x.valueInfo(5, -1), i + 1);
        }
        for (int i = 0; i < items.length; i++) {
            CHECK.due("P9: item " + i, x.valueInfo(5, i), items[i]);
        }
        CHECK.refused("P9: a fifth", x, () -> x.addItem(5, 2), FULL);
        CHECK.refused("P9: a missing fifth", x, () -> x.addItem(5, 7), ARG);
    }

    private static void maps() {
        LogicLessTemplate x = oneOfEach();
        for (int id : NO_IDS) {
            CHECK.refused("P10: no map " + id, x, () -> x.setField(id, 'a', 1), ARG);
            CHECK.refused("P10: no value " + id, x, () -> x.setField(6, 'a', id), ARG);
        }
        for (int id : new int[] {1, 2, 3, 4, 5}) {
            CHECK.refused("P10: another kind " + id, x, () -> x.setField(id, 'a', 1), ARG);
        }
        for (int key : new int[] {96, 123, 'A', '.', 0, -1, Integer.MIN_VALUE, Integer.MAX_VALUE}) {
            CHECK.refused("P10: key " + key, x, () -> x.setField(6, key, 1), ARG);
        }
        CHECK.due("P10: z", x.setField(6, 'z', 1), OK);
        CHECK.due("P10: a", x.setField(6, 'a', 2), OK);
        CHECK.due("P10: a again", x.setField(6, 'a', 3), OK);
        CHECK.due("P10: m", x.setField(6, 'm', 6), OK);
        CHECK.due("P10: count", x.valueInfo(6, -1), 3);
        CHECK.due("P10: b", x.setField(6, 'b', 4), OK);
        CHECK.refused("P10: a fifth", x, () -> x.setField(6, 'c', 1), FULL);
        CHECK.refused("P10: a fifth with a missing value", x, () -> x.setField(6, 'c', 7), ARG);
        CHECK.refused("P10: a fifth with a bad key", x, () -> x.setField(6, '.', 1), ARG);
        CHECK.due("P10: z in a full map", x.setField(6, 'z', 5), OK);
        CHECK.due("P10: count of a full map", x.valueInfo(6, -1), 4);
        String keys = "zamb";
        int[] values = {5, 3, 6, 4};
        for (int i = 0; i < 4; i++) {
            CHECK.due("P10: key " + i, x.valueInfo(6, i), keys.charAt(i));
            CHECK.due("P10: value " + i, x.fieldOf(6, keys.charAt(i)), values[i]);
        }
    }

    private static void info() {
        LogicLessTemplate x = oneOfEach();
        x.appendChar(4, 'x');
        x.addItem(5, 3);
        x.setField(6, 'k', 2);
        for (int id : NO_IDS) {
            CHECK.refused("P11: kind of " + id, x, () -> x.valueInfo(id, -2), 0);
            CHECK.refused("P11: amount of " + id, x, () -> x.valueInfo(id, -1), -1);
            CHECK.refused("P11: part of " + id, x, () -> x.valueInfo(id, 0), -1);
            CHECK.refused("P11: below, of " + id, x, () -> x.valueInfo(id, -3), -1);
        }
        int[] amounts = {0, 0, 41, 1, 1, 1};
        int[] firsts = {-1, -1, -1, 'x', 3, 'k'};
        for (int id = 1; id <= 6; id++) {
            int same = id;
            CHECK.refused("P11: kind", x, () -> x.valueInfo(same, -2), id);
            CHECK.refused("P11: amount", x, () -> x.valueInfo(same, -1), amounts[id - 1]);
            CHECK.refused("P11: first part", x, () -> x.valueInfo(same, 0), firsts[id - 1]);
            for (int i : new int[] {-3, Integer.MIN_VALUE, 1, 4, 8, 40, Integer.MAX_VALUE}) {
                CHECK.refused("P11: part " + i + " of " + id, x, () -> x.valueInfo(same, i), -1);
            }
        }
        int big = x.newValue(3, 100);
        CHECK.due("P11: a NUM has no parts", x.valueInfo(big, 5), -1);
    }

    private static void fields() {
        LogicLessTemplate x = oneOfEach();
        x.setField(6, 'a', 1);
        x.setField(6, 'z', 6);
        x.addItem(5, 1);
        x.appendChar(4, 'a');
        CHECK.refused("P12: a", x, () -> x.fieldOf(6, 'a'), 1);
        CHECK.refused("P12: z", x, () -> x.fieldOf(6, 'z'), 6);
        for (int key : new int[] {'b', 'y', 0, 96, 123, '.', -1, Integer.MIN_VALUE, Integer.MAX_VALUE}) {
            CHECK.refused("P12: key " + key, x, () -> x.fieldOf(6, key), 0);
        }
        for (int id : NO_IDS) {
            CHECK.refused("P12: no map " + id, x, () -> x.fieldOf(id, 'a'), 0);
        }
        for (int id : new int[] {1, 2, 3, 4, 5}) {
            CHECK.refused("P12: another kind " + id, x, () -> x.fieldOf(id, 'a'), 0);
        }
    }

    private static void valuesStandApart() {
        LogicLessTemplate x = new LogicLessTemplate(64);
        Check.put(x, 0, "t{{.}}");
        x.compile(0);
        for (int id = 1; id <= 32; id++) {
            x.newValue(4 + id % 3, 0);
        }
        x.render(1);
        String[] before = new String[33];
        for (int id = 1; id <= 32; id++) {
            for (int other = 1; other <= 32; other++) {
                before[other] = Check.value(x, other);
            }
            for (int i = 0; i < 8; i++) {
                x.appendChar(id, 'a' + i);
                x.addItem(id, 32 - i);
                x.setField(id, 'p' + i, 1 + i);
            }
            for (int other = 1; other <= 32; other++) {
                if (other != id) {
                    CHECK.due("P8 to P10: value " + other + " while " + id + " grows", Check.value(x, other), before[other]);
                }
            }
            int cap = id % 3 == 0 ? 8 : 4;
            CHECK.due("P8 to P10: count of " + id, x.valueInfo(id, -1), cap);
        }
        CHECK.due("P8 to P10: status", x.status(0), OK);
        CHECK.due("P8 to P10: output", Check.out(x), "t");
    }
}
