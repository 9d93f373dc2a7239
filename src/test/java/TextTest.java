/** Promises 1 to 4: construction, putChars, clearTemplate, and reading a text. */
public final class TextTest {
    private static final Check CHECK = new Check();

    public static void main(String[] args) {
        capacity();
        freshState();
        putCharsSplits();
        putCharsRefuses();
        putCharsFills();
        putCharsUndoesCompile();
        clearing();
        reading();
        CHECK.end();
    }

    private static void capacity() {
        int[][] givenAndKept = {{Integer.MIN_VALUE, 16}, {-1, 16}, {0, 16}, {15, 16}, {16, 16}, {17, 17}, {100, 100},
            {255, 255}, {256, 256}, {257, 256}, {Integer.MAX_VALUE, 256}};
        for (int[] pair : givenAndKept) {
            LogicLessTemplate x = new LogicLessTemplate(pair[0]);
            fillOutput(x);
            CHECK.due("P1: output of capacity " + pair[0], x.outLength(), pair[1]);
            x.render(3);
            CHECK.due("P1: output of capacity " + pair[0] + ", again", x.outLength(), pair[1]);
        }
    }

    /** Sixteen times 24 characters: more than any output holds. */
    private static void fillOutput(LogicLessTemplate x) {
        int one = Check.num(x, 1);
        int four = Check.list(x, one, one, one, one);
        int root = Check.map(x, "a", four);
        Check.put(x, 0, "{{#a}}{{#a}}" + "x".repeat(24) + "{{/a}}{{/a}}");
        CHECK.due("P1: compile", x.compile(0), LogicLessTemplate.OK);
        CHECK.due("P1: render", x.render(root), LogicLessTemplate.ERR_OVERFLOW);
    }

    private static void freshState() {
        LogicLessTemplate x = new LogicLessTemplate(64);
        for (int slot = 0; slot < 4; slot++) {
            CHECK.due("P1: templateLength of a fresh slot", x.templateLength(slot), 0);
            CHECK.due("P1: status of a fresh slot", x.status(slot), LogicLessTemplate.ERR_NOT_COMPILED);
            CHECK.due("P1: errorAt of a fresh slot", x.errorAt(slot), -1);
        }
        for (int id = -1; id <= 33; id++) {
            CHECK.due("P1: kind of value " + id, x.valueInfo(id, -2), 0);
        }
        CHECK.due("P1: outLength", x.outLength(), 0);
        CHECK.due("P1: first id", x.newValue(LogicLessTemplate.KIND_TRUE, 0), 1);
        CHECK.due("P1: status of slot 0 is not OK", x.render(1), LogicLessTemplate.ERR_NOT_COMPILED);
    }

    private static void putCharsSplits() {
        LogicLessTemplate x = new LogicLessTemplate(64);
        CHECK.due("P2: four", x.putChars(2, Check.pack('a', 'b', 'c', 'd')), 4);
        CHECK.due("P2: three", x.putChars(2, Check.pack('e', 'f', 'g', 0)), 3);
        CHECK.due("P2: two, then a zero, then a bad byte", x.putChars(2, Check.pack('h', 'i', 0, 200)), 2);
        CHECK.due("P2: one, then a zero, then good bytes", x.putChars(2, Check.pack('j', 0, 'x', 'y')), 1);
        CHECK.due("P2: edges", x.putChars(2, Check.pack(10, 32, 126, 33)), 4);
        CHECK.due("P2: text", Check.text(x, 2), "abcdefghij\n ~!");
        CHECK.due("P2: slot 0 is as before", x.templateLength(0), 0);
        CHECK.due("P2: slot 1 is as before", x.templateLength(1), 0);
        CHECK.due("P2: slot 3 is as before", x.templateLength(3), 0);
    }

    private static void putCharsRefuses() {
        LogicLessTemplate x = new LogicLessTemplate(64);
        Check.put(x, 0, "{{");
        x.compile(0);
        for (int slot : new int[] {-1, 4, Integer.MIN_VALUE, Integer.MAX_VALUE}) {
            CHECK.refused("P2: slot " + slot, x, () -> x.putChars(slot, 'a'), LogicLessTemplate.ERR_ARG);
            CHECK.refused("P2: nothing into slot " + slot, x, () -> x.putChars(slot, 0), LogicLessTemplate.ERR_ARG);
        }
        for (int c = 1; c < 256; c++) {
            int bad = c;
            if (c != 10 && (c < 32 || c > 126)) {
                for (int place = 0; place < 4; place++) {
                    int packed = Check.pack('a', 'b', 'c', 'd') & ~(255 << 8 * place) | bad << 8 * place;
                    CHECK.refused("P2: byte " + c + " at " + place, x, () -> x.putChars(0, packed), LogicLessTemplate.ERR_ARG);
                }
            }
        }
        CHECK.refused("P2: no character", x, () -> x.putChars(0, 0), 0);
        CHECK.refused("P2: no character, others after it", x, () -> x.putChars(0, Check.pack(0, 'a', 200, 255)), 0);
        CHECK.refused("P2: the least int", x, () -> x.putChars(0, Integer.MIN_VALUE), 0);
        CHECK.due("P2: status is kept", x.status(0), LogicLessTemplate.ERR_UNCLOSED);
        CHECK.due("P2: error position is kept", x.errorAt(0), 0);
    }

    private static void putCharsFills() {
        for (int slot = 0; slot < 4; slot++) {
            int s = slot;
            LogicLessTemplate x = new LogicLessTemplate(64);
            Check.put(x, slot, "x".repeat(94));
            x.compile(slot);
            CHECK.refused("P2: 94 and 3", x, () -> x.putChars(s, Check.pack('a', 'b', 'c', 0)), LogicLessTemplate.ERR_FULL);
            CHECK.refused("P2: 94 and 4", x, () -> x.putChars(s, Check.pack('a', 'b', 'c', 'd')), LogicLessTemplate.ERR_FULL);
            CHECK.due("P2: 94 and 2", x.putChars(slot, Check.pack('a', 'b', 0, 0)), 2);
            CHECK.refused("P2: 96 and 1", x, () -> x.putChars(s, 'a'), LogicLessTemplate.ERR_FULL);
            CHECK.refused("P2: 96 and a bad one", x, () -> x.putChars(s, 9), LogicLessTemplate.ERR_ARG);
            CHECK.refused("P2: 96 and none", x, () -> x.putChars(s, 0), 0);
            CHECK.due("P2: full text", Check.text(x, slot), "x".repeat(94) + "ab");
        }
    }

    private static void putCharsUndoesCompile() {
        LogicLessTemplate x = new LogicLessTemplate(64);
        int root = Check.num(x, 7);
        Check.put(x, 0, "a");
        Check.put(x, 1, "{{?");
        x.compile(0);
        x.compile(1);
        x.render(root);
        x.putChars(1, '}');
        CHECK.due("P2: status after a change", x.status(1), LogicLessTemplate.ERR_NOT_COMPILED);
        CHECK.due("P2: error position after a change", x.errorAt(1), -1);
        CHECK.due("P2: status of another slot", x.status(0), LogicLessTemplate.OK);
        x.putChars(0, 'b');
        CHECK.due("P2: status of slot 0", x.status(0), LogicLessTemplate.ERR_NOT_COMPILED);
        CHECK.due("P2: the output is kept", Check.out(x), "a");
        CHECK.due("P2: the values are kept", x.valueInfo(root, -1), 7);
    }

    private static void clearing() {
        LogicLessTemplate x = new LogicLessTemplate(64);
        int root = Check.num(x, 7);
        Check.put(x, 0, "a");
        Check.put(x, 1, "b{{");
        x.compile(0);
        x.compile(1);
        x.render(root);
        for (int slot : new int[] {-1, 4, Integer.MIN_VALUE, Integer.MAX_VALUE}) {
            CHECK.refused("P3: slot " + slot, x, () -> x.clearTemplate(slot), LogicLessTemplate.ERR_ARG);
        }
        CHECK.due("P3: error position before", x.errorAt(1), 1);
        CHECK.due("P3: clear", x.clearTemplate(1), LogicLessTemplate.OK);
        CHECK.due("P3: text", Check.text(x, 1), "");
        CHECK.due("P3: status", x.status(1), LogicLessTemplate.ERR_NOT_COMPILED);
        CHECK.due("P3: error position", x.errorAt(1), -1);
        CHECK.due("P3: another slot's text", Check.text(x, 0), "a");
        CHECK.due("P3: another slot's status", x.status(0), LogicLessTemplate.OK);
        CHECK.due("P3: the output", Check.out(x), "a");
        CHECK.due("P3: the values", x.valueInfo(root, -1), 7);
        CHECK.due("P3: an empty text compiles", x.compile(1), LogicLessTemplate.OK);
        CHECK.due("P3: clear an empty text", x.clearTemplate(1), LogicLessTemplate.OK);
        CHECK.due("P3: status of the empty text", x.status(1), LogicLessTemplate.ERR_NOT_COMPILED);
        Check.put(x, 1, "new");
        CHECK.due("P3: text put after a clear", Check.text(x, 1), "new");
    }

    private static void reading() {
        LogicLessTemplate x = new LogicLessTemplate(64);
        Check.put(x, 0, "zero");
        Check.put(x, 3, "three");
        for (int slot : new int[] {-1, 4, Integer.MIN_VALUE, Integer.MAX_VALUE}) {
            CHECK.refused("P4: templateLength", x, () -> x.templateLength(slot), -1);
            CHECK.refused("P4: templateChar", x, () -> x.templateChar(slot, 0), -1);
        }
        for (int i : new int[] {Integer.MIN_VALUE, -1, 5, 96, 100, Integer.MAX_VALUE}) {
            CHECK.refused("P4: templateChar " + i, x, () -> x.templateChar(3, i), -1);
        }
        for (int i = -2; i < 100; i++) {
            CHECK.due("P4: an empty text at " + i, x.templateChar(1, i), -1);
        }
        CHECK.due("P4: length", x.templateLength(3), 5);
        CHECK.due("P4: first", x.templateChar(3, 0), 't');
        CHECK.due("P4: last", x.templateChar(3, 4), 'e');
        CHECK.due("P4: text of slot 0", Check.text(x, 0), "zero");
        x.clearTemplate(3);
        CHECK.due("P4: a cleared text", x.templateChar(3, 0), -1);
    }
}
