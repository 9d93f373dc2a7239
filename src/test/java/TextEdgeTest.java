/** Promises 1 to 4, sentence by sentence: what lies on, just inside and just outside each edge. */
public final class TextEdgeTest {
    private static final int OK = LogicLessTemplate.OK;
    private static final int ARG = LogicLessTemplate.ERR_ARG;
    private static final int FULL = LogicLessTemplate.ERR_FULL;
    private static final int NOT_COMPILED = LogicLessTemplate.ERR_NOT_COMPILED;
    private static final Check CHECK = new Check();

    public static void main(String[] args) {
        below16Becomes16();
        above256Becomes256();
        between16And256IsKept();
        capacityNeverChanges();
        freshObject();
        valuesAreNeverRemoved();
        objectsStandApart();
        putToNoSlot();
        upToTheFirstZero();
        badBytes();
        negativePacked();
        noCharacters();
        upTo96();
        checksOfPutInOrder();
        putUndoesEveryStatus();
        refusedPutKeepsEveryStatus();
        putChangesOneSlotAlone();
        clearNoSlot();
        clearUndoesEveryStatus();
        clearChangesOneSlotAlone();
        lengthFrom0To96();
        lengthOfNoSlot();
        charactersOfATextOnly();
        charactersOfAnEmptyText();
        CHECK.end();
    }

    private static void capacityIs(LogicLessTemplate x, int given, int kept) {
        int self = Check.list(x);
        for (int i = 0; i < 4; i++) {
            x.addItem(self, self);
        }
        Check.set(x, 0, "{{#.}}{{#.}}" + "x".repeat(24) + "{{/.}}{{/.}}");
        x.compile(0);
        CHECK.due("P1: render with capacity " + given, x.render(self), LogicLessTemplate.ERR_OVERFLOW);
        CHECK.due("P1: capacity " + given, x.outLength(), kept);
    }

    /** "any value below 16 becomes 16", "This includes Integer.MIN_VALUE" */
    private static void below16Becomes16() {
        for (int given = -300; given < 16; given++) {
            capacityIs(new LogicLessTemplate(given), given, 16);
        }
        for (int given : new int[] {Integer.MIN_VALUE, Integer.MIN_VALUE + 1, Integer.MIN_VALUE + 64, -65536 + 64, -256 + 64}) {
            capacityIs(new LogicLessTemplate(given), given, 16);
        }
    }

    /** "any value above 256 becomes 256", "This includes .. Integer.MAX_VALUE" */
    private static void above256Becomes256() {
        for (int given = 257; given < 600; given++) {
            capacityIs(new LogicLessTemplate(given), given, 256);
        }
        for (int given : new int[] {Integer.MAX_VALUE, Integer.MAX_VALUE - 1, 65536 + 64, 65536}) {
            capacityIs(new LogicLessTemplate(given), given, 256);
        }
    }

    /** "values in 16..256 are kept as given" */
    private static void between16And256IsKept() {
        for (int given = 16; given <= 256; given++) {
            capacityIs(new LogicLessTemplate(given), given, given);
        }
    }

    /** "The capacity never changes afterwards." */
    private static void capacityNeverChanges() {
        for (int given : new int[] {16, 17, 100, 256}) {
            LogicLessTemplate x = new LogicLessTemplate(given);
            capacityIs(x, given, given);
            x.render(0);
            Check.set(x, 0, "ab");
            x.compile(0);
            x.render(1);
            capacityIs(x, given, given);
            for (int slot = 0; slot < 4; slot++) {
                x.clearTemplate(slot);
                x.compile(slot);
                Check.put(x, slot, "y".repeat(96));
                x.putChars(slot, 'z');
            }
            x.render(1);
            for (int id = 3; id <= 30; id++) {
                x.newValue(3, id);
            }
            capacityIs(x, given, given);
        }
    }

    /** "A fresh object has: all four texts empty; all statuses ERR_NOT_COMPILED; all error positions -1; no values; an empty output." */
    private static void freshObject() {
        for (int outCap : new int[] {Integer.MIN_VALUE, 0, 16, 100, 256, Integer.MAX_VALUE}) {
            LogicLessTemplate x = new LogicLessTemplate(outCap);
            for (int slot = 0; slot < 4; slot++) {
                CHECK.due("P1: text of slot " + slot, x.templateLength(slot), 0);
                CHECK.due("P1: character of slot " + slot, x.templateChar(slot, 0), -1);
                CHECK.due("P1: status of slot " + slot, x.status(slot), NOT_COMPILED);
                CHECK.due("P1: error position of slot " + slot, x.errorAt(slot), -1);
            }
            for (int id = -2; id <= 40; id++) {
                CHECK.due("P1: kind of value " + id, x.valueInfo(id, -2), 0);
                CHECK.due("P1: amount of value " + id, x.valueInfo(id, -1), -1);
            }
            CHECK.due("P1: length of the output", x.outLength(), 0);
            CHECK.due("P1: character of the output", x.outChar(0), -1);
        }
    }

    /** "The store holds 0..32 values with ids 1, 2, 3, .. in creation order. Values are never removed." */
    private static void valuesAreNeverRemoved() {
        LogicLessTemplate x = new LogicLessTemplate(16);
        for (int id = 1; id <= 32; id++) {
            CHECK.due("P1: id", x.newValue(3, 100 + id), id);
            for (int slot = 0; slot < 4; slot++) {
                x.clearTemplate(slot);
                x.compile(slot);
            }
            x.render(id);
            x.newValue(0, 0);
        }
        x.newValue(3, 1);
        for (int id = 1; id <= 32; id++) {
            CHECK.due("P1: value " + id, x.valueInfo(id, -1), 100 + id);
        }
        CHECK.due("P1: value 0", x.valueInfo(0, -2), 0);
        CHECK.due("P1: value 33", x.valueInfo(33, -2), 0);
    }

    /** What one object was told, no other one knows. */
    private static void objectsStandApart() {
        LogicLessTemplate first = Fixture.full(CHECK).real();
        String before = Check.state(first);
        LogicLessTemplate fresh = new LogicLessTemplate(256);
        CHECK.due("P1: a fresh object beside a full one", Check.state(fresh), Check.state(new LogicLessTemplate(16)));
        Fixture.busy(CHECK);
        capacityIs(fresh, 256, 256);
        CHECK.due("P1: a full object beside others", Check.state(first), before);
    }

    /** P2: "If slot is outside 0..3, it answers ERR_ARG." */
    private static void putToNoSlot() {
        LogicLessTemplate x = Fixture.busy(CHECK).real();
        for (int slot : Fixture.NO_SLOTS) {
            for (int packed : new int[] {'a', 0, 9, Check.pack('a', 'b', 'c', 'd'), -1, Integer.MIN_VALUE}) {
                CHECK.refused("P2: putChars(" + slot + ", " + packed + ")", x, () -> x.putChars(slot, packed), ARG);
            }
        }
        for (int slot = 0; slot < 4; slot++) {
            CHECK.due("P2: putChars to slot " + slot, x.putChars(slot, 'a'), 1);
        }
    }

    /** P2: "up to but not including the first byte that is 0. Bytes after that byte are ignored, whatever they hold." */
    private static void upToTheFirstZero() {
        int[] after = {0, 'z', 9, 31, 127, 128, 255};
        for (int a : after) {
            puts(Check.pack('p', 'q', 'r', 0), "pqr");
            for (int b : after) {
                puts(Check.pack('p', 'q', 0, b), "pq");
                puts(Check.pack('p', 0, a, b), "p");
                puts(Check.pack(0, a, b, 'z'), "");
                puts(Check.pack(0, a, b, 255), "");
            }
        }
        puts(Check.pack('p', 'q', 'r', 's'), "pqrs");
    }

    private static void puts(int packed, String want) {
        LogicLessTemplate x = new LogicLessTemplate(16);
        Check.put(x, 1, "<");
        CHECK.due("P2: putChars(1, " + packed + ")", x.putChars(1, packed), want.length());
        CHECK.due("P2: text after putChars(1, " + packed + ")", Check.text(x, 1), "<" + want);
    }

    /** P2: "If one of the characters to add is neither 10 nor in 32..126, it answers ERR_ARG." None of them is added then. */
    private static void badBytes() {
        LogicLessTemplate x = Fixture.busy(CHECK).real();
        for (int bad : new int[] {1, 9, 11, 13, 31, 127, 128, 138, 160, 255}) {
            CHECK.refused("P2: " + bad + " alone", x, () -> x.putChars(0, bad), ARG);
            CHECK.refused("P2: " + bad + " first", x, () -> x.putChars(0, Check.pack(bad, 'b', 'c', 'd')), ARG);
            CHECK.refused("P2: " + bad + " second", x, () -> x.putChars(0, Check.pack('a', bad, 0, 0)), ARG);
            CHECK.refused("P2: " + bad + " third", x, () -> x.putChars(0, Check.pack('a', 'b', bad, 0)), ARG);
            CHECK.refused("P2: " + bad + " fourth", x, () -> x.putChars(0, Check.pack('a', 'b', 'c', bad)), ARG);
        }
        for (int good : new int[] {10, 32, 33, 125, 126}) {
            puts(Check.pack(good, good, good, good), ("" + (char) good).repeat(4));
        }
    }

    /** P2: "Negative packed values are split the same way." */
    private static void negativePacked() {
        LogicLessTemplate x = Fixture.busy(CHECK).real();
        CHECK.refused("P2: -1", x, () -> x.putChars(0, -1), ARG);
        CHECK.refused("P2: the greatest int", x, () -> x.putChars(0, Integer.MAX_VALUE), ARG);
        CHECK.refused("P2: the least int and a character", x, () -> x.putChars(0, Integer.MIN_VALUE | 'a' | 'b' << 8 | 'c' << 16), ARG);
        CHECK.refused("P2: the least int", x, () -> x.putChars(0, Integer.MIN_VALUE), 0);
        puts(Integer.MIN_VALUE | 'a', "a");
        puts(Integer.MIN_VALUE | 'a' | 'b' << 8, "ab");
        puts(-1 << 24 | 'a', "a");
        puts(-1 << 16 | 'a', "a");
    }

    /** P2: "If there are no characters to add (c0 is 0), it answers 0 and nothing changes. The status and error position are kept." */
    private static void noCharacters() {
        for (int slot = 0; slot < 4; slot++) {
            for (int status : Fixture.STATUSES) {
                if (Fixture.possible(slot, status)) {
                    LogicLessTemplate x = Fixture.busy(CHECK).real();
                    Fixture.give(x, slot, status);
                    int same = slot;
                    CHECK.refused("P2: no characters in status " + status, x, () -> x.putChars(same, 0), 0);
                    CHECK.refused("P2: no characters, more after", x, () -> x.putChars(same, 'a' << 8), 0);
                    CHECK.due("P2: the status is kept", x.status(slot), status);
                    CHECK.due("P2: the error position is kept", x.errorAt(slot), Fixture.errorAt(status));
                }
            }
        }
    }

    /** P2: "If the length plus the count exceeds 96, it answers ERR_FULL." */
    private static void upTo96() {
        int[] packed = {0, 'a', Check.pack('a', 'b', 0, 0), Check.pack('a', 'b', 'c', 0), Check.pack('a', 'b', 'c', 'd')};
        for (int slot = 0; slot < 4; slot++) {
            for (int length = 90; length <= 96; length++) {
                for (int count = 0; count <= 4; count++) {
                    LogicLessTemplate x = new LogicLessTemplate(16);
                    Check.put(x, slot, "x".repeat(length));
                    x.compile(slot);
                    int same = slot;
                    int chars = packed[count];
                    String call = "P2: " + count + " to " + length + " in slot " + slot;
                    if (length + count > 96) {
                        CHECK.refused(call, x, () -> x.putChars(same, chars), FULL);
                        CHECK.due(call + ", the status is kept", x.status(slot), OK);
                    } else {
                        CHECK.due(call, x.putChars(slot, chars), count);
                        CHECK.due(call + ", the text", Check.text(x, slot), "x".repeat(length) + "abcd".substring(0, count));
                    }
                }
            }
        }
    }

    /** P2: "checks in order": the slot, then the characters, then whether there are any, then the length. */
    private static void checksOfPutInOrder() {
        LogicLessTemplate x = Fixture.full(CHECK).real();
        CHECK.refused("P2: no slot, no characters", x, () -> x.putChars(4, 0), ARG);
        for (int slot = 0; slot < 4; slot++) {
            int same = slot;
            CHECK.refused("P2: full, a bad character", x, () -> x.putChars(same, 127), ARG);
            CHECK.refused("P2: full, a bad last character", x, () -> x.putChars(same, Check.pack('a', 'b', 'c', 31)), ARG);
            CHECK.refused("P2: full, no characters", x, () -> x.putChars(same, 0), 0);
            CHECK.refused("P2: full, no characters before bad ones", x, () -> x.putChars(same, Check.pack(0, 31, 127, 255)), 0);
            CHECK.refused("P2: full, one character", x, () -> x.putChars(same, 'a'), FULL);
            CHECK.refused("P2: full, one character before bad ones", x, () -> x.putChars(same, Check.pack('a', 0, 127, 255)), FULL);
        }
    }

    /** P2: "the slot's status becomes ERR_NOT_COMPILED; its error position becomes -1; the answer is the count (1..4)" */
    private static void putUndoesEveryStatus() {
        for (int slot = 0; slot < 4; slot++) {
            for (int status : Fixture.STATUSES) {
                for (int count = 1; count <= 4 && Fixture.possible(slot, status); count++) {
                    LogicLessTemplate x = new LogicLessTemplate(16);
                    Fixture.give(x, slot, status);
                    CHECK.due("P2: the status before", x.status(slot), status);
                    CHECK.due("P2: the error position before", x.errorAt(slot), Fixture.errorAt(status));
                    String text = Check.text(x, slot);
                    int packed = Check.pack('p', 'q', 'r', 's') & (int) ((1L << 8 * count) - 1);
                    CHECK.due("P2: the answer", x.putChars(slot, packed), count);
                    CHECK.due("P2: the text", Check.text(x, slot), text + "pqrs".substring(0, count));
                    CHECK.due("P2: the status after " + status, x.status(slot), NOT_COMPILED);
                    CHECK.due("P2: the error position after " + status, x.errorAt(slot), -1);
                }
            }
        }
    }

    /** P2: "On ERR_ARG or ERR_FULL nothing changes." */
    private static void refusedPutKeepsEveryStatus() {
        for (int slot = 0; slot < 4; slot++) {
            for (int status : Fixture.STATUSES) {
                if (Fixture.possible(slot, status)) {
                    LogicLessTemplate x = Fixture.busy(CHECK).real();
                    Fixture.give(x, slot, status);
                    int same = slot;
                    CHECK.refused("P2: ERR_ARG in status " + status, x, () -> x.putChars(same, 31), ARG);
                    CHECK.refused("P2: ERR_ARG at the fourth", x, () -> x.putChars(same, Check.pack('{', '{', 'a', 200)), ARG);
                }
            }
        }
        LogicLessTemplate x = Fixture.full(CHECK).real();
        for (int slot = 0; slot < 4; slot++) {
            int same = slot;
            CHECK.refused("P2: ERR_FULL in status " + x.status(slot), x, () -> x.putChars(same, Check.pack('a', 'b', 'c', 'd')), FULL);
        }
    }

    /** P2: "Other slots, the values and the output do not change." */
    private static void putChangesOneSlotAlone() {
        for (int slot = 0; slot < 4; slot++) {
            LogicLessTemplate x = Fixture.busy(CHECK).real();
            String before = Check.stateWithout(x, slot, -1);
            for (int left = 96 - x.templateLength(slot); left > 0; left--) {
                CHECK.due("P2: the answer", x.putChars(slot, '{'), 1);
                CHECK.due("P2: all but slot " + slot, Check.stateWithout(x, slot, -1), before);
            }
            CHECK.due("P2: a full slot beside others", x.templateLength(slot), 96);
        }
    }

    /** P3: "If slot is outside 0..3, it answers ERR_ARG and nothing changes." */
    private static void clearNoSlot() {
        LogicLessTemplate x = Fixture.busy(CHECK).real();
        for (int slot : Fixture.NO_SLOTS) {
            CHECK.refused("P3: clearTemplate(" + slot + ")", x, () -> x.clearTemplate(slot), ARG);
        }
    }

    /**
     * P3: "the slot's text becomes empty, its status becomes ERR_NOT_COMPILED and its error position becomes -1. It answers OK.
     * This happens even if the text was already empty."
     */
    private static void clearUndoesEveryStatus() {
        for (int slot = 0; slot < 4; slot++) {
            for (int status : Fixture.STATUSES) {
                if (Fixture.possible(slot, status)) {
                    LogicLessTemplate x = new LogicLessTemplate(16);
                    Fixture.give(x, slot, status);
                    cleared(x, slot);
                    CHECK.due("P3: an empty text compiles", x.compile(slot), OK);
                    cleared(x, slot);
                    cleared(x, slot);
                }
            }
            LogicLessTemplate full = Fixture.full(CHECK).real();
            cleared(full, slot);
            Check.put(full, slot, "y".repeat(96));
            CHECK.due("P3: a slot filled anew", Check.text(full, slot), "y".repeat(96));
        }
    }

    private static void cleared(LogicLessTemplate x, int slot) {
        CHECK.due("P3: clearTemplate(" + slot + ")", x.clearTemplate(slot), OK);
        CHECK.due("P3: length", x.templateLength(slot), 0);
        CHECK.due("P3: first character", x.templateChar(slot, 0), -1);
        CHECK.due("P3: status", x.status(slot), NOT_COMPILED);
        CHECK.due("P3: error position", x.errorAt(slot), -1);
    }

    /** P3: "Nothing else changes." */
    private static void clearChangesOneSlotAlone() {
        for (int slot = 0; slot < 4; slot++) {
            LogicLessTemplate x = Fixture.full(CHECK).real();
            String before = Check.stateWithout(x, slot, -1);
            x.clearTemplate(slot);
            CHECK.due("P3: all but slot " + slot, Check.stateWithout(x, slot, -1), before);
        }
    }

    /** P4: "the length of the slot's text (0..96)" */
    private static void lengthFrom0To96() {
        for (int slot = 0; slot < 4; slot++) {
            LogicLessTemplate x = new LogicLessTemplate(16);
            for (int length = 0; length <= 96; length++) {
                CHECK.due("P4: templateLength(" + slot + ")", x.templateLength(slot), length);
                x.putChars(slot, 'x');
            }
            CHECK.due("P4: templateLength(" + slot + ") of a full one", x.templateLength(slot), 96);
            for (int other = 0; other < 4; other++) {
                CHECK.due("P4: templateLength(" + other + ")", x.templateLength(other), other == slot ? 96 : 0);
            }
        }
    }

    /** P4: "It answers -1 if slot is outside 0..3." "Both change nothing." */
    private static void lengthOfNoSlot() {
        for (int which = 0; which < 2; which++) {
            LogicLessTemplate x = which == 0 ? Fixture.busy(CHECK).real() : Fixture.full(CHECK).real();
            for (int slot : Fixture.NO_SLOTS) {
                CHECK.refused("P4: templateLength(" + slot + ")", x, () -> x.templateLength(slot), -1);
                for (int i : Fixture.EDGES) {
                    CHECK.due("P4: templateChar(" + slot + ", " + i + ")", x.templateChar(slot, i), -1);
                }
                CHECK.refused("P4: templateChar(" + slot + ", 0)", x, () -> x.templateChar(slot, 0), -1);
            }
        }
    }

    /** P4: "It answers -1 .. if i is outside 0..length-1": at every length, beside slots that are full. */
    private static void charactersOfATextOnly() {
        for (int slot = 0; slot < 4; slot++) {
            LogicLessTemplate x = Fixture.full(CHECK).real();
            x.clearTemplate(slot);
            for (int length = 1; length <= 96; length++) {
                x.putChars(slot, 32 + length % 95);
                CHECK.due("P4: the first", x.templateChar(slot, 0), 33);
                CHECK.due("P4: the last", x.templateChar(slot, length - 1), 32 + length % 95);
                CHECK.due("P4: after the last", x.templateChar(slot, length), -1);
                CHECK.due("P4: before the first", x.templateChar(slot, -1), -1);
            }
            int same = slot;
            for (int i : new int[] {Integer.MIN_VALUE, -96, 96, 97, 192, 1000, Integer.MAX_VALUE}) {
                CHECK.refused("P4: templateChar(" + slot + ", " + i + ")", x, () -> x.templateChar(same, i), -1);
            }
        }
    }

    /** P4: "an empty text answers -1 for every i" */
    private static void charactersOfAnEmptyText() {
        for (int slot = 0; slot < 4; slot++) {
            LogicLessTemplate fresh = new LogicLessTemplate(16);
            LogicLessTemplate cleared = Fixture.full(CHECK).real();
            cleared.clearTemplate(slot);
            for (int i = -400; i <= 400; i++) {
                CHECK.due("P4: of a fresh slot at " + i, fresh.templateChar(slot, i), -1);
                CHECK.due("P4: of a cleared slot at " + i, cleared.templateChar(slot, i), -1);
            }
            for (int i : Fixture.EDGES) {
                CHECK.due("P4: of a fresh slot at " + i, fresh.templateChar(slot, i), -1);
                CHECK.due("P4: of a cleared slot at " + i, cleared.templateChar(slot, i), -1);
            }
        }
    }
}
