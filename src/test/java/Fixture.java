/** Objects in which every part holds something, so that a change anywhere shows. */
final class Fixture {
    static final int MAP = LogicLessTemplate.KIND_MAP;
    /** One past, at and around what any argument may name, and the ends of the ints. */
    static final int[] EDGES = {Integer.MIN_VALUE, Integer.MIN_VALUE + 1, -97, -4, -3, -2, -1, 0, 1, 2, 3, 4, 5, 6, 7, 8, 9, 10, 11,
        31, 32, 33, 34, 95, 96, 97, 98, 122, 123, 126, 127, 255, 256, 257, 65536 + 97, Integer.MAX_VALUE - 1, Integer.MAX_VALUE};
    static final int[] NO_SLOTS = {Integer.MIN_VALUE, -4, -1, 4, 5, 96, 256, 65536, Integer.MAX_VALUE};
    static final int[] STATUSES = {LogicLessTemplate.ERR_NOT_COMPILED, LogicLessTemplate.OK, LogicLessTemplate.ERR_UNCLOSED,
        LogicLessTemplate.ERR_TAG, LogicLessTemplate.ERR_NESTING, LogicLessTemplate.ERR_PARTIAL};
    private static final String[] TEXTS = {"n{{a}}", "o{{a}}", "u{{", "{{?}}", "nn{{/a}}", "ppp{{>1}}"};
    private static final int[] ERRORS_AT = {-1, -1, 1, 0, 2, 3};

    private Fixture() {
    }

    /** Values 1 to 6, of the kind that their id tells; all parts in use, none full. */
    static Twin busy(Check check) {
        Twin twin = new Twin(check, 40);
        for (int kind = 1; kind <= 6; kind++) {
            twin.newValue(kind, 41);
        }
        twin.appendChar(4, 's');
        twin.appendChar(4, '<');
        twin.addItem(5, 3);
        twin.addItem(5, 4);
        twin.setField(MAP, 'a', 3);
        twin.setField(MAP, 'l', 5);
        twin.put(0, "v{{a}}\n {{#l}}[{{.}}]{{/l}}{{>1}}");
        twin.put(1, "p{{a}}");
        twin.put(2, "xy{{");
        twin.put(3, "z");
        for (int slot = 0; slot < 3; slot++) {
            twin.compile(slot);
        }
        twin.render(MAP);
        return twin;
    }

    /** Texts, store, string 4, list 5, map 6 and output are full; the last render overflowed. */
    static Twin full(Check check) {
        Twin twin = new Twin(check, 16);
        for (int id = 1; id <= 32; id++) {
            twin.newValue(1 + (id - 1) % 6, id);
        }
        for (int i = 0; i < 8; i++) {
            twin.appendChar(4, '0' + i);
        }
        for (int i = 0; i < 4; i++) {
            twin.addItem(5, 3 + i);
            twin.setField(MAP, 'a' + i, 32 - i);
        }
        twin.put(0, "{{a}}{{>1}}" + "x".repeat(85));
        twin.put(1, "{{d}}" + "y".repeat(91));
        twin.put(2, "z".repeat(91) + "{{?}}");
        twin.put(3, "{{#a}}" + "w".repeat(90));
        for (int slot = 0; slot < 4; slot++) {
            twin.compile(slot);
        }
        twin.render(MAP);
        return twin;
    }

    /** A text that a compile gives this status; for ERR_NOT_COMPILED, one that is not to be compiled. */
    static String text(int status) {
        return TEXTS[place(status)];
    }

    /** Sets a slot to a text with this status. */
    static void give(LogicLessTemplate x, int slot, int status) {
        Check.set(x, slot, text(status));
        if (status != LogicLessTemplate.ERR_NOT_COMPILED) {
            x.compile(slot);
        }
    }

    /** The error position that comes with a status given by give. */
    static int errorAt(int status) {
        return ERRORS_AT[place(status)];
    }

    /** Only the slots 1 to 3 can have the status ERR_PARTIAL. */
    static boolean possible(int slot, int status) {
        return slot != 0 || status != LogicLessTemplate.ERR_PARTIAL;
    }

    private static int place(int status) {
        int place = 0;
        while (STATUSES[place] != status) {
            place++;
        }
        return place;
    }
}
