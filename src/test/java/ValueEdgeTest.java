/** Promises 7 to 12, sentence by sentence: what lies on, just inside and just outside each edge. */
public final class ValueEdgeTest {
    private static final int OK = LogicLessTemplate.OK;
    private static final int ARG = LogicLessTemplate.ERR_ARG;
    private static final int FULL = LogicLessTemplate.ERR_FULL;
    private static final int FALSE = LogicLessTemplate.KIND_FALSE;
    private static final int TRUE = LogicLessTemplate.KIND_TRUE;
    private static final int NUM = LogicLessTemplate.KIND_NUM;
    private static final int STR = LogicLessTemplate.KIND_STR;
    private static final int LIST = LogicLessTemplate.KIND_LIST;
    private static final int MAP = LogicLessTemplate.KIND_MAP;
    private static final int[] NO_KINDS = {Integer.MIN_VALUE, -6, -1, 0, 7, 8, 257, 65536 + 3, Integer.MAX_VALUE};
    private static final int[] NO_KEYS = {Integer.MIN_VALUE, -97, -1, 0, 10, '.', 'A', 'Z', 96, 123, 97 + 256, 97 + 65536, Integer.MAX_VALUE};
    private static final Check CHECK = new Check();

    public static void main(String[] args) {
        noKind();
        upTo32Values();
        kindBeforeStore();
        anyNum();
        numIsIgnoredElsewhere();
        newValuesAreEmpty();
        existingValuesDoNotChange();
        valuesHoldAnyValue();
        appendToNoString();
        charactersOfAString();
        upTo8Characters();
        appendChecksInOrder();
        appendChangesOneValueAlone();
        addToNoList();
        itemsThatExist();
        upTo4Items();
        addChecksInOrder();
        addChangesOneValueAlone();
        setInNoMap();
        keysOfAMap();
        fieldsThatExist();
        presentKeyKeepsItsPlace();
        upTo4Fields();
        setChecksInOrder();
        setChangesOneValueAlone();
        kindOfAValue();
        amountOfAValue();
        partsOfAValue();
        partsOfNothing();
        fieldOfNoMap();
        fieldOfNoKey();
        fieldOfEveryKey();
        fieldOfItsOwnMap();
        CHECK.end();
    }

    /** An object whose first six values are of the kinds that their ids tell, filled to this many parts. */
    private static LogicLessTemplate kinds(int parts) {
        LogicLessTemplate x = new LogicLessTemplate(64);
        for (int kind = 1; kind <= 6; kind++) {
            CHECK.due("P7: id", x.newValue(kind, 41), kind);
        }
        for (int i = 0; i < parts; i++) {
            x.appendChar(STR, 'A' + i);
            if (i < 4) {
                x.addItem(LIST, 1 + i);
                x.setField(MAP, 'd' - i, 6 - i);
            }
        }
        return x;
    }

    /** The ids on both sides of those that exist, far ones, and both ends of the ints. */
    private static int[] noIds(int count) {
        return new int[] {Integer.MIN_VALUE, Integer.MIN_VALUE + STR, -STR, -1, 0, count + 1, count + 2, 256 + LIST, 65536 + MAP, Integer.MAX_VALUE};
    }

    private static String allBut(LogicLessTemplate x, int id) {
        return Check.stateWithout(x, -1, id);
    }

    /** P7: "If kind is outside 1..6, it answers ERR_ARG." */
    private static void noKind() {
        for (int which = 0; which < 3; which++) {
            LogicLessTemplate x = which == 0 ? new LogicLessTemplate(16) : which == 1 ? Fixture.busy(CHECK).real() : Fixture.full(CHECK).real();
            for (int kind : NO_KINDS) {
                for (int num : new int[] {Integer.MIN_VALUE, 0, 3, Integer.MAX_VALUE}) {
                    CHECK.refused("P7: newValue(" + kind + ", " + num + ")", x, () -> x.newValue(kind, num), ARG);
                }
            }
        }
        LogicLessTemplate x = new LogicLessTemplate(16);
        for (int kind = 1; kind <= 6; kind++) {
            CHECK.due("P7: newValue(" + kind + ")", x.newValue(kind, 0), kind);
        }
    }

    /** P7: "If 32 values exist, it answers ERR_FULL." */
    private static void upTo32Values() {
        for (int kind = 1; kind <= 6; kind++) {
            LogicLessTemplate x = new LogicLessTemplate(16);
            for (int id = 1; id <= 32; id++) {
                CHECK.due("P7: newValue with " + (id - 1) + " values", x.newValue(kind, id), id);
            }
            for (int more = 1; more <= 6; more++) {
                int same = more;
                CHECK.refused("P7: newValue with 32 values", x, () -> x.newValue(same, Integer.MIN_VALUE), FULL);
            }
            for (int id = 1; id <= 32; id++) {
                CHECK.due("P7: kind of value " + id, x.valueInfo(id, -2), kind);
            }
        }
    }

    /** P7: "checks in order": the kind first, then the store. */
    private static void kindBeforeStore() {
        LogicLessTemplate x = Fixture.full(CHECK).real();
        for (int kind : NO_KINDS) {
            CHECK.refused("P7: a full store, kind " + kind, x, () -> x.newValue(kind, 0), ARG);
        }
    }

    /** P7: "KIND_NUM: holds num, which may be any int." */
    private static void anyNum() {
        for (int num : Fixture.EDGES) {
            LogicLessTemplate x = new LogicLessTemplate(16);
            CHECK.due("P7: newValue(3, " + num + ")", x.newValue(NUM, num), 1);
            CHECK.due("P7: kind", x.valueInfo(1, -2), NUM);
            CHECK.due("P7: its int", x.valueInfo(1, -1), num);
            CHECK.due("P7: no part", x.valueInfo(1, 0), -1);
        }
    }

    /** P7: "num is ignored for all kinds but NUM." */
    private static void numIsIgnoredElsewhere() {
        for (int num : Fixture.EDGES) {
            for (int kind : new int[] {FALSE, TRUE, STR, LIST, MAP}) {
                LogicLessTemplate x = new LogicLessTemplate(16);
                LogicLessTemplate plain = new LogicLessTemplate(16);
                x.newValue(kind, num);
                plain.newValue(kind, 0);
                CHECK.due("P7: newValue(" + kind + ", " + num + ")", Check.state(x), Check.state(plain));
                CHECK.due("P7: amount", x.valueInfo(1, -1), 0);
            }
        }
    }

    /** P7: "it starts empty": a string, a list and a map. */
    private static void newValuesAreEmpty() {
        for (int kind : new int[] {STR, LIST, MAP}) {
            LogicLessTemplate x = kinds(8);
            int id = x.newValue(kind, 8);
            CHECK.due("P7: amount of a new one", x.valueInfo(id, -1), 0);
            CHECK.due("P7: part of a new one", x.valueInfo(id, 0), -1);
            for (int key = 'a'; key <= 'z'; key++) {
                CHECK.due("P7: field of a new one", x.fieldOf(id, key), 0);
            }
        }
    }

    /** P7: "Existing values do not change." */
    private static void existingValuesDoNotChange() {
        LogicLessTemplate x = Fixture.busy(CHECK).real();
        for (int id = 7; id <= 32; id++) {
            String before = allBut(x, id);
            CHECK.due("P7: the next id", x.newValue(1 + id % 6, -id), id);
            CHECK.due("P7: all but value " + id, allBut(x, id), before);
        }
    }

    /** P7: "Values may be changed at any time, also after being put into other values. A value may hold any value, itself included." */
    private static void valuesHoldAnyValue() {
        for (int held = 1; held <= 6; held++) {
            LogicLessTemplate x = kinds(0);
            CHECK.due("P7: a list holds kind " + held, x.addItem(LIST, held), OK);
            CHECK.due("P7: a map holds kind " + held, x.setField(MAP, 'a', held), OK);
            CHECK.due("P7: the item", x.valueInfo(LIST, 0), held);
            CHECK.due("P7: the field", x.fieldOf(MAP, 'a'), held);
            CHECK.due("P7: a string changed after", x.appendChar(STR, 'x'), OK);
            CHECK.due("P7: a list changed after", x.addItem(LIST, LIST), OK);
            CHECK.due("P7: a map changed after", x.setField(MAP, 'b', MAP), OK);
            CHECK.due("P7: the item after", x.valueInfo(LIST, 0), held);
            CHECK.due("P7: itself as an item", x.valueInfo(LIST, 1), LIST);
            CHECK.due("P7: the field after", x.fieldOf(MAP, 'a'), held);
            CHECK.due("P7: itself as a field", x.fieldOf(MAP, 'b'), MAP);
        }
    }

    /** P8: "If id is not a STR value (no such id, or another kind), it answers ERR_ARG." */
    private static void appendToNoString() {
        LogicLessTemplate x = kinds(2);
        for (int id : noIds(6)) {
            CHECK.refused("P8: appendChar(" + id + ")", x, () -> x.appendChar(id, 'a'), ARG);
        }
        for (int id : new int[] {FALSE, TRUE, NUM, LIST, MAP}) {
            CHECK.refused("P8: appendChar to kind " + id, x, () -> x.appendChar(id, 'a'), ARG);
        }
        CHECK.due("P8: appendChar to a string", x.appendChar(STR, 'a'), OK);
        LogicLessTemplate fresh = new LogicLessTemplate(16);
        CHECK.refused("P8: no value at all", fresh, () -> fresh.appendChar(1, 'a'), ARG);
        LogicLessTemplate full = Fixture.full(CHECK).real();
        CHECK.refused("P8: id 33", full, () -> full.appendChar(33, 'a'), ARG);
        CHECK.due("P8: the last string of a full store", full.appendChar(28, 'a'), OK);
    }

    /** P8: "If c is outside 32..126, it answers ERR_ARG." */
    private static void charactersOfAString() {
        LogicLessTemplate x = kinds(2);
        for (int c = -400; c <= 700; c++) {
            int same = c;
            if (c < 32 || c > 126) {
                CHECK.refused("P8: appendChar of " + c, x, () -> x.appendChar(STR, same), ARG);
            } else {
                LogicLessTemplate y = kinds(2);
                CHECK.due("P8: appendChar of " + c, y.appendChar(STR, c), OK);
                CHECK.due("P8: the character", y.valueInfo(STR, 2), c);
                CHECK.due("P8: the length", y.valueInfo(STR, -1), 3);
            }
        }
        for (int c : new int[] {Integer.MIN_VALUE, Integer.MIN_VALUE + 97, 65536 + 97, Integer.MAX_VALUE}) {
            CHECK.refused("P8: appendChar of " + c, x, () -> x.appendChar(STR, c), ARG);
        }
    }

    /** P8: "If the STR has 8 characters, it answers ERR_FULL." */
    private static void upTo8Characters() {
        LogicLessTemplate x = kinds(0);
        for (int i = 0; i < 8; i++) {
            CHECK.due("P8: appendChar to " + i, x.appendChar(STR, 126 - i), OK);
            CHECK.due("P8: length", x.valueInfo(STR, -1), i + 1);
        }
        for (int c : new int[] {32, 'a', 126}) {
            CHECK.refused("P8: appendChar to 8", x, () -> x.appendChar(STR, c), FULL);
        }
        for (int i = 0; i < 8; i++) {
            CHECK.due("P8: character " + i, x.valueInfo(STR, i), 126 - i);
        }
    }

    /** P8: "checks in order": the string, the character, then the length. */
    private static void appendChecksInOrder() {
        LogicLessTemplate x = kinds(8);
        CHECK.refused("P8: full, a bad character", x, () -> x.appendChar(STR, 31), ARG);
        CHECK.refused("P8: full, a bad character", x, () -> x.appendChar(STR, 127), ARG);
        CHECK.refused("P8: full, a newline", x, () -> x.appendChar(STR, 10), ARG);
        CHECK.refused("P8: a full list", x, () -> x.appendChar(LIST, 'a'), ARG);
        CHECK.refused("P8: no value and a bad character", x, () -> x.appendChar(7, 31), ARG);
    }

    /** P8: "Nothing else changes." */
    private static void appendChangesOneValueAlone() {
        LogicLessTemplate x = Fixture.busy(CHECK).real();
        String before = allBut(x, STR);
        for (int i = 2; i < 8; i++) {
            x.appendChar(STR, 'a');
            CHECK.due("P8: all but the string", allBut(x, STR), before);
        }
        CHECK.due("P8: its length", x.valueInfo(STR, -1), 8);
    }

    /** P9: "If list is not a LIST value, it answers ERR_ARG." */
    private static void addToNoList() {
        LogicLessTemplate x = kinds(2);
        for (int id : noIds(6)) {
            CHECK.refused("P9: addItem(" + id + ")", x, () -> x.addItem(id, 1), ARG);
        }
        for (int id : new int[] {FALSE, TRUE, NUM, STR, MAP}) {
            CHECK.refused("P9: addItem to kind " + id, x, () -> x.addItem(id, 1), ARG);
        }
        LogicLessTemplate full = Fixture.full(CHECK).real();
        CHECK.refused("P9: list 33", full, () -> full.addItem(33, 1), ARG);
        CHECK.due("P9: the last list of a full store", full.addItem(29, 32), OK);
    }

    /** P9: "If item is not an existing id, it answers ERR_ARG." */
    private static void itemsThatExist() {
        LogicLessTemplate x = kinds(2);
        for (int item : noIds(6)) {
            CHECK.refused("P9: addItem of " + item, x, () -> x.addItem(LIST, item), ARG);
        }
        CHECK.due("P9: addItem of the first", x.addItem(LIST, 1), OK);
        CHECK.due("P9: addItem of the last", x.addItem(LIST, 6), OK);
        CHECK.due("P9: the last item", x.valueInfo(LIST, 3), 6);
        LogicLessTemplate full = Fixture.full(CHECK).real();
        CHECK.refused("P9: item 33", full, () -> full.addItem(29, 33), ARG);
        CHECK.due("P9: item 32", full.addItem(29, 32), OK);
        CHECK.due("P9: the item", full.valueInfo(29, 0), 32);
    }

    /** P9: "If the LIST has 4 items, it answers ERR_FULL." "The same id may appear several times, and a list may hold itself." */
    private static void upTo4Items() {
        for (int item = 1; item <= 6; item++) {
            LogicLessTemplate x = kinds(0);
            int same = item;
            for (int i = 0; i < 4; i++) {
                CHECK.due("P9: addItem to " + i, x.addItem(LIST, item), OK);
                CHECK.due("P9: count", x.valueInfo(LIST, -1), i + 1);
                CHECK.due("P9: item " + i, x.valueInfo(LIST, i), item);
            }
            CHECK.refused("P9: addItem to 4", x, () -> x.addItem(LIST, same), FULL);
            CHECK.refused("P9: another one to 4", x, () -> x.addItem(LIST, 7 - same), FULL);
        }
    }

    /** P9: "checks in order": the list, the item, then the count. */
    private static void addChecksInOrder() {
        LogicLessTemplate x = kinds(4);
        for (int item : noIds(6)) {
            CHECK.refused("P9: full, item " + item, x, () -> x.addItem(LIST, item), ARG);
            CHECK.refused("P9: no list, item " + item, x, () -> x.addItem(MAP, item), ARG);
        }
    }

    /** P9: "item is appended as the last item", "Nothing else changes." */
    private static void addChangesOneValueAlone() {
        LogicLessTemplate x = Fixture.busy(CHECK).real();
        String before = allBut(x, LIST);
        for (int i = 2; i < 4; i++) {
            x.addItem(LIST, 7 - i);
            CHECK.due("P9: all but the list", allBut(x, LIST), before);
            CHECK.due("P9: the last item", x.valueInfo(LIST, i), 7 - i);
        }
        CHECK.due("P9: the first item", x.valueInfo(LIST, 0), 3);
        CHECK.due("P9: the second item", x.valueInfo(LIST, 1), 4);
    }

    /** P10: "If map is not a MAP value, it answers ERR_ARG." */
    private static void setInNoMap() {
        LogicLessTemplate x = kinds(2);
        for (int id : noIds(6)) {
            CHECK.refused("P10: setField(" + id + ")", x, () -> x.setField(id, 'a', 1), ARG);
        }
        for (int id : new int[] {FALSE, TRUE, NUM, STR, LIST}) {
            CHECK.refused("P10: setField of kind " + id, x, () -> x.setField(id, 'a', 1), ARG);
        }
        LogicLessTemplate full = Fixture.full(CHECK).real();
        CHECK.refused("P10: map 33", full, () -> full.setField(33, 'a', 1), ARG);
        CHECK.due("P10: the last map of a full store", full.setField(30, 'a', 32), OK);
    }

    /** P10: "If key is outside 97..122, it answers ERR_ARG." */
    private static void keysOfAMap() {
        LogicLessTemplate x = kinds(2);
        for (int key : NO_KEYS) {
            CHECK.refused("P10: key " + key, x, () -> x.setField(MAP, key, 1), ARG);
        }
        CHECK.due("P10: key 97", x.setField(MAP, 97, 1), OK);
        CHECK.due("P10: key 122", x.setField(MAP, 122, 2), OK);
        CHECK.due("P10: field 97", x.fieldOf(MAP, 97), 1);
        CHECK.due("P10: field 122", x.fieldOf(MAP, 122), 2);
    }

    /** P10: "If val is not an existing id, it answers ERR_ARG": for a new key and for a present one. */
    private static void fieldsThatExist() {
        LogicLessTemplate x = kinds(2);
        for (int val : noIds(6)) {
            CHECK.refused("P10: a new key, value " + val, x, () -> x.setField(MAP, 'z', val), ARG);
            CHECK.refused("P10: a present key, value " + val, x, () -> x.setField(MAP, 'd', val), ARG);
        }
        CHECK.due("P10: the first value", x.setField(MAP, 'y', 1), OK);
        CHECK.due("P10: the last value", x.setField(MAP, 'z', 6), OK);
        LogicLessTemplate full = Fixture.full(CHECK).real();
        CHECK.refused("P10: value 33", full, () -> full.setField(30, 'a', 33), ARG);
        CHECK.due("P10: value 32", full.setField(30, 'a', 32), OK);
    }

    /** P10: "If key is present, its value becomes val and its place is kept. It answers OK. This holds even when the map has 4 fields." */
    private static void presentKeyKeepsItsPlace() {
        for (int fields = 1; fields <= 4; fields++) {
            for (int changed = 0; changed < fields; changed++) {
                LogicLessTemplate x = kinds(fields);
                CHECK.due("P10: a present key of " + fields, x.setField(MAP, 'd' - changed, 2), OK);
                CHECK.due("P10: the same once more", x.setField(MAP, 'd' - changed, 2), OK);
                CHECK.due("P10: count", x.valueInfo(MAP, -1), fields);
                for (int i = 0; i < fields; i++) {
                    CHECK.due("P10: key " + i, x.valueInfo(MAP, i), 'd' - i);
                    CHECK.due("P10: value " + i, x.fieldOf(MAP, 'd' - i), i == changed ? 2 : 6 - i);
                }
            }
        }
    }

    /** P10: "If the MAP has 4 fields, it answers ERR_FULL." "Otherwise a field (key, val) is added at the end" */
    private static void upTo4Fields() {
        LogicLessTemplate x = kinds(0);
        String keys = "zamb";
        for (int i = 0; i < 4; i++) {
            CHECK.due("P10: field " + i, x.setField(MAP, keys.charAt(i), 6 - i), OK);
            CHECK.due("P10: count", x.valueInfo(MAP, -1), i + 1);
            CHECK.due("P10: the last key", x.valueInfo(MAP, i), keys.charAt(i));
        }
        for (int key = 'a'; key <= 'z'; key++) {
            int same = key;
            if (keys.indexOf(key) < 0) {
                CHECK.refused("P10: a fifth key " + key, x, () -> x.setField(MAP, same, 1), FULL);
                CHECK.due("P10: no such field", x.fieldOf(MAP, key), 0);
            }
        }
    }

    /** P10: "checks in order": the map, the key, the value, then the count. */
    private static void setChecksInOrder() {
        LogicLessTemplate x = kinds(4);
        for (int key : NO_KEYS) {
            CHECK.refused("P10: full, key " + key, x, () -> x.setField(MAP, key, 1), ARG);
        }
        for (int val : noIds(6)) {
            CHECK.refused("P10: full, a new key, value " + val, x, () -> x.setField(MAP, 'z', val), ARG);
            CHECK.refused("P10: full, a present key, value " + val, x, () -> x.setField(MAP, 'a', val), ARG);
            CHECK.refused("P10: no map, value " + val, x, () -> x.setField(LIST, 'a', val), ARG);
        }
    }

    /** P10: "Nothing else changes." */
    private static void setChangesOneValueAlone() {
        LogicLessTemplate x = Fixture.busy(CHECK).real();
        String before = allBut(x, MAP);
        for (char key : new char[] {'a', 'b', 'z', 'l', 'b'}) {
            CHECK.due("P10: setField", x.setField(MAP, key, 1), OK);
            CHECK.due("P10: all but the map", allBut(x, MAP), before);
        }
        CHECK.due("P10: count", x.valueInfo(MAP, -1), 4);
    }

    /** P11: "When i == -2, it answers the kind of value id, or 0 if there is no such value." */
    private static void kindOfAValue() {
        for (int parts : new int[] {0, 1, 8}) {
            LogicLessTemplate x = kinds(parts);
            for (int id = 1; id <= 6; id++) {
                int same = id;
                CHECK.refused("P11: kind of " + id, x, () -> x.valueInfo(same, -2), id);
            }
            for (int id : noIds(6)) {
                CHECK.refused("P11: kind of " + id, x, () -> x.valueInfo(id, -2), 0);
            }
        }
        LogicLessTemplate full = Fixture.full(CHECK).real();
        CHECK.due("P11: kind of value 32", full.valueInfo(32, -2), TRUE);
        CHECK.due("P11: kind of value 33", full.valueInfo(33, -2), 0);
    }

    /** P11: "When i == -1, it answers": the int, the count, 0, or -1 where there is no such value. */
    private static void amountOfAValue() {
        for (int parts = 0; parts <= 8; parts++) {
            LogicLessTemplate x = kinds(parts);
            int[] want = {0, 0, 41, parts, Math.min(parts, 4), Math.min(parts, 4)};
            for (int id = 1; id <= 6; id++) {
                int same = id;
                CHECK.refused("P11: amount of kind " + id, x, () -> x.valueInfo(same, -1), want[id - 1]);
            }
            for (int id : noIds(6)) {
                CHECK.refused("P11: amount of no value " + id, x, () -> x.valueInfo(id, -1), -1);
            }
        }
    }

    /** P11: "For STR, LIST and MAP with 0 <= i < that count", "i below -2, i at or past the count" */
    private static void partsOfAValue() {
        for (int parts = 0; parts <= 8; parts++) {
            LogicLessTemplate x = kinds(parts);
            for (int i : Fixture.EDGES) {
                if (i != -1 && i != -2) {
                    boolean string = i >= 0 && i < parts;
                    boolean other = string && i < 4;
                    CHECK.refused("P11: character " + i + " of " + parts, x, () -> x.valueInfo(STR, i), string ? 'A' + i : -1);
                    CHECK.refused("P11: item " + i + " of " + parts, x, () -> x.valueInfo(LIST, i), other ? 1 + i : -1);
                    CHECK.refused("P11: key " + i + " of " + parts, x, () -> x.valueInfo(MAP, i), other ? 'd' - i : -1);
                }
            }
        }
    }

    /** P11: "any i >= 0 for NUM, TRUE, FALSE or a missing value", and i below -2 */
    private static void partsOfNothing() {
        for (int num : new int[] {Integer.MIN_VALUE, -1, 0, 1, 8, 100, Integer.MAX_VALUE}) {
            LogicLessTemplate x = new LogicLessTemplate(16);
            x.newValue(FALSE, num);
            x.newValue(TRUE, num);
            x.newValue(NUM, num);
            for (int i : Fixture.EDGES) {
                if (i != -1 && i != -2) {
                    for (int id : new int[] {1, 2, 3, 0, 4, 33, -1, Integer.MIN_VALUE, Integer.MAX_VALUE}) {
                        CHECK.due("P11: part " + i + " of " + id + ", num " + num, x.valueInfo(id, i), -1);
                    }
                }
            }
        }
    }

    /** P12: "It answers 0 if map is not a MAP value" */
    private static void fieldOfNoMap() {
        for (int parts : new int[] {0, 1, 8}) {
            LogicLessTemplate x = kinds(parts);
            for (int key = 'a' - 1; key <= 'z' + 1; key++) {
                for (int id : new int[] {FALSE, TRUE, NUM, STR, LIST}) {
                    CHECK.due("P12: field " + key + " of kind " + id, x.fieldOf(id, key), 0);
                }
                for (int id : noIds(6)) {
                    CHECK.due("P12: field " + key + " of " + id, x.fieldOf(id, key), 0);
                }
            }
            for (int id : noIds(6)) {
                CHECK.refused("P12: field of " + id, x, () -> x.fieldOf(id, 'a'), 0);
            }
        }
    }

    /** P12: "or if the map has no field with that key (including any key outside 97..122)" */
    private static void fieldOfNoKey() {
        for (int fields = 0; fields <= 4; fields++) {
            LogicLessTemplate x = kinds(fields);
            for (int key : NO_KEYS) {
                CHECK.refused("P12: field " + key + " of " + fields, x, () -> x.fieldOf(MAP, key), 0);
            }
            for (int key : Fixture.EDGES) {
                boolean present = key <= 'd' && key > 'd' - fields;
                CHECK.due("P12: field " + key + " of " + fields, x.fieldOf(MAP, key), present ? 6 - ('d' - key) : 0);
            }
            for (int key = 'a'; key <= 'z'; key++) {
                boolean present = key <= 'd' && key > 'd' - fields;
                CHECK.due("P12: field " + key + " of " + fields, x.fieldOf(MAP, key), present ? 6 - ('d' - key) : 0);
            }
        }
    }

    /** P12: "answers the value id of the field with that key": for every key, and for ids 1 and 32. */
    private static void fieldOfEveryKey() {
        for (int key = 'a'; key <= 'z'; key++) {
            LogicLessTemplate x = Fixture.full(CHECK).real();
            x.setField(12, key, 1);
            x.setField(30, key, 32);
            int same = key;
            CHECK.refused("P12: field " + key + " with value 1", x, () -> x.fieldOf(12, same), 1);
            CHECK.refused("P12: field " + key + " with value 32", x, () -> x.fieldOf(30, same), 32);
        }
    }

    /** P12: "in MAP map": full strings, lists and maps around it lend it nothing. */
    private static void fieldOfItsOwnMap() {
        LogicLessTemplate x = new LogicLessTemplate(16);
        Check.str(x, "abcdwxyz");
        int first = Check.map(x, "wxyz", 1, 1, 1, 1);
        int second = Check.map(x, "zyxw", 1, 2, 2, 1);
        Check.str(x, "abcdwxyz");
        int third = Check.map(x, "a", second);
        Check.list(x, first, first, first, first);
        int empty = Check.map(x, "");
        Check.str(x, "abcdwxyz");
        for (int key = 0; key <= 130; key++) {
            boolean outer = key == 'w' || key == 'z';
            boolean inner = key == 'x' || key == 'y';
            CHECK.due("P12: field " + key + " of the first map", x.fieldOf(first, key), outer || inner ? 1 : 0);
            CHECK.due("P12: field " + key + " of the second map", x.fieldOf(second, key), outer ? 1 : inner ? 2 : 0);
            CHECK.due("P12: field " + key + " of the third map", x.fieldOf(third, key), key == 'a' ? second : 0);
            CHECK.due("P12: field " + key + " of an empty map", x.fieldOf(empty, key), 0);
        }
    }
}
