/** The sentences under 'What it is' that all promises share, each with a test of its own. */
public final class SharedTest {
    private static final int OK = LogicLessTemplate.OK;
    private static final int ARG = LogicLessTemplate.ERR_ARG;
    private static final int FULL = LogicLessTemplate.ERR_FULL;
    private static final int TAG = LogicLessTemplate.ERR_TAG;
    private static final int MAP = Fixture.MAP;
    private static final Check CHECK = new Check();

    public static void main(String[] args) {
        charactersOfATemplate();
        aSpaceIsNoOtherCharacter();
        aLetterInATag();
        aLetterAsAKey();
        argumentsMayBeAnyInts();
        gettersChangeNothing();
        errArgChangesNothing();
        errFullChangesNothing();
        errNotCompiledChangesNothing();
        errValueChangesNothing();
        fillingExactlyIsOk();
        oneCharacterMoreOverflows();
        CHECK.end();
    }

    /** "Characters of a template are codes 10 (newline) and 32..126." */
    private static void charactersOfATemplate() {
        for (int slot = 0; slot < 4; slot++) {
            for (int c = 1; c < 256; c++) {
                for (int place = 0; place < 4; place++) {
                    characterAt(slot, c, place);
                }
            }
        }
    }

    private static void characterAt(int slot, int c, int place) {
        LogicLessTemplate x = new LogicLessTemplate(16);
        int packed = Check.pack('p', 'q', 'r', 's') & ~(255 << 8 * place) | c << 8 * place;
        String call = "what it is: code " + c + " at " + place;
        if (c == 10 || c >= 32 && c <= 126) {
            CHECK.due(call, x.putChars(slot, packed), 4);
            CHECK.due(call + " is read back", x.templateChar(slot, place), c);
        } else {
            CHECK.refused(call, x, () -> x.putChars(slot, packed), ARG);
        }
    }

    private static boolean isLetter(int c) {
        return c >= 97 && c <= 122;
    }

    private static void compiles(String text, int want) {
        LogicLessTemplate x = new LogicLessTemplate(16);
        Check.put(x, 0, text);
        CHECK.due("what it is: compile of " + text, x.compile(0), want);
    }

    private static void renders(String text, String want) {
        LogicLessTemplate x = new LogicLessTemplate(64);
        int root = Check.num(x, 5);
        Check.put(x, 0, text);
        CHECK.due("what it is: compile of " + text, x.compile(0), OK);
        CHECK.due("what it is: render of " + text, x.render(root), OK);
        CHECK.due("what it is: output of " + text, Check.out(x), want);
    }

    /** "A SPACE is code 32 only": nothing else is trimmed, parts two delimiters or leaves a tag alone on its line. */
    private static void aSpaceIsNoOtherCharacter() {
        for (char c = 10; c <= 126; c = c == 10 ? ' ' : (char) (c + 1)) {
            boolean space = c == ' ';
            compiles("{{a" + c + "}}", space || c == '}' ? OK : TAG);
            compiles("{{&" + c + "a}}", space ? OK : TAG);
            compiles("{{>1" + c + "}}", space || c == '}' ? OK : TAG);
            compiles("{{>" + c + "1}}", space ? OK : TAG);
            compiles("{{=ab" + c + "cd=}}", space ? OK : TAG);
            compiles("{{=abc" + c + " d=}}", space ? OK : TAG);
            if (c != 10) {
                renders("p\n" + c + " {{!}}\nq", space ? "p\nq" : "p\n" + c + " \nq");
                renders("p\n{{!}}" + c + "\nq", space ? "p\nq" : "p\n" + c + "\nq");
            }
        }
    }

    /** "A LETTER is one of 'a'..'z' (97..122)": as the NAME of a tag, where '.' may stand too. */
    private static void aLetterInATag() {
        for (char c = 10; c <= 126; c = c == 10 ? ' ' : (char) (c + 1)) {
            int named = isLetter(c) || c == '.' ? OK : TAG;
            compiles("{{" + c + "}}", c == '!' ? OK : named);
            compiles("{{ " + c + "}}", named);
            compiles("{{&" + c + "}}", named);
            compiles("{{#" + c + "}}{{/" + c + "}}", named);
            compiles("{{^" + c + "}}{{/" + c + "}}", named);
            compiles("{{/" + c + "}}", named == OK ? LogicLessTemplate.ERR_NESTING : TAG);
        }
    }

    /** "A LETTER is one of 'a'..'z' (97..122)": as the key of a field. */
    private static void aLetterAsAKey() {
        LogicLessTemplate x = new LogicLessTemplate(16);
        int map = Check.map(x, "");
        for (int key = -1000; key <= 1000; key++) {
            int same = key;
            if (!isLetter(key)) {
                CHECK.refused("what it is: setField with key " + key, x, () -> x.setField(map, same, map), ARG);
            }
        }
        for (int far : new int[] {1 << 16, 1 << 24, 1 << 31}) {
            CHECK.refused("what it is: setField with key " + (far + 97), x, () -> x.setField(map, far + 97, map), ARG);
        }
        for (int key = 97; key <= 122; key++) {
            LogicLessTemplate y = new LogicLessTemplate(16);
            int other = Check.map(y, "");
            CHECK.due("what it is: setField with key " + key, y.setField(other, key, other), OK);
            CHECK.due("what it is: fieldOf with key " + key, y.fieldOf(other, key), other);
        }
    }

    private static Twin state(int which) {
        return which == 0 ? new Twin(CHECK, 16) : which == 1 ? Fixture.busy(CHECK) : Fixture.full(CHECK);
    }

    /** "Arguments may be any ints." Each call is made on a fresh, a busy and a full object. */
    private static void argumentsMayBeAnyInts() {
        for (int which = 0; which < 3; which++) {
            for (int a : Fixture.EDGES) {
                oneArgument(which, a);
                for (int b : Fixture.EDGES) {
                    twoArguments(which, a, b);
                }
            }
            int[] few = {Integer.MIN_VALUE, -1, 0, 1, 6, 7, 32, 33, 96, 97, 98, 122, 123, Integer.MAX_VALUE};
            for (int map : few) {
                for (int key : few) {
                    for (int val : few) {
                        Twin twin = state(which);
                        twin.setField(map, key, val);
                        twin.sameState();
                    }
                }
            }
        }
        for (int outCap : Fixture.EDGES) {
            new Twin(CHECK, outCap).sameState();
        }
    }

    private static void oneArgument(int which, int a) {
        Twin twin = state(which);
        twin.render(a);
        twin.sameState();
        twin.compile(a);
        twin.sameState();
        twin.clearTemplate(a);
        twin.sameState();
    }

    private static void twoArguments(int which, int a, int b) {
        Twin twin = state(which);
        twin.get(a, b);
        twin.putChars(a, b);
        twin.newValue(a, b);
        twin.appendChar(a, b);
        twin.addItem(a, b);
        twin.sameState();
    }

    /** "Getters change nothing." Nor do they change what a render makes of the texts. */
    private static void gettersChangeNothing() {
        for (int which = 0; which < 3; which++) {
            LogicLessTemplate x = state(which).real();
            String before = Check.state(x);
            for (int a : Fixture.EDGES) {
                CHECK.refused("what it is: templateLength(" + a + ")", x, () -> x.templateLength(a), x.templateLength(a));
                CHECK.refused("what it is: status(" + a + ")", x, () -> x.status(a), x.status(a));
                CHECK.refused("what it is: errorAt(" + a + ")", x, () -> x.errorAt(a), x.errorAt(a));
                CHECK.refused("what it is: outChar(" + a + ")", x, () -> x.outChar(a), x.outChar(a));
                for (int b : Fixture.EDGES) {
                    x.templateChar(a, b);
                    x.valueInfo(a, b);
                    x.fieldOf(a, b);
                }
                CHECK.due("what it is: the state after getters with " + a, Check.state(x), before);
            }
            CHECK.refused("what it is: outLength()", x, x::outLength, x.outLength());
            sameRender("getters", x, which);
        }
    }

    /** Rendered once more, the output is the one that was there before. */
    private static void sameRender(String after, LogicLessTemplate x, int which) {
        if (which > 0) {
            String before = Check.state(x);
            CHECK.due("what it is: render after " + after, x.render(MAP), which == 1 ? OK : LogicLessTemplate.ERR_OVERFLOW);
            CHECK.due("what it is: the state of a render after " + after, Check.state(x), before);
        }
    }

    /** "A call answering ERR_ARG .. changes nothing": every method that can answer it, for every cause. */
    private static void errArgChangesNothing() {
        for (int which = 1; which < 3; which++) {
            LogicLessTemplate x = state(which).real();
            int none = which == 1 ? 7 : 33;
            for (int slot : Fixture.NO_SLOTS) {
                CHECK.refused("what it is: putChars(" + slot + ")", x, () -> x.putChars(slot, 'a'), ARG);
                CHECK.refused("what it is: clearTemplate(" + slot + ")", x, () -> x.clearTemplate(slot), ARG);
                CHECK.refused("what it is: compile(" + slot + ")", x, () -> x.compile(slot), ARG);
                CHECK.refused("what it is: status(" + slot + ")", x, () -> x.status(slot), ARG);
            }
            for (int slot = 0; slot < 4; slot++) {
                int same = slot;
                CHECK.refused("what it is: putChars of a bad byte", x, () -> x.putChars(same, Check.pack('a', 'b', 'c', 31)), ARG);
            }
            for (int kind : new int[] {Integer.MIN_VALUE, 0, 7, Integer.MAX_VALUE}) {
                CHECK.refused("what it is: newValue(" + kind + ")", x, () -> x.newValue(kind, 1), ARG);
            }
            for (int id : new int[] {Integer.MIN_VALUE, 0, none, Integer.MAX_VALUE, 3}) {
                CHECK.refused("what it is: appendChar to " + id, x, () -> x.appendChar(id, 'a'), ARG);
                CHECK.refused("what it is: addItem to " + id, x, () -> x.addItem(id, 1), ARG);
                CHECK.refused("what it is: setField of " + id, x, () -> x.setField(id, 'a', 1), ARG);
                if (id != 3) {
                    CHECK.refused("what it is: addItem of item " + id, x, () -> x.addItem(5, id), ARG);
                    CHECK.refused("what it is: setField with value " + id, x, () -> x.setField(MAP, 'a', id), ARG);
                    CHECK.refused("what it is: setField, new, with value " + id, x, () -> x.setField(MAP, 'z', id), ARG);
                }
            }
            CHECK.refused("what it is: appendChar of 31", x, () -> x.appendChar(4, 31), ARG);
            CHECK.refused("what it is: appendChar of 127", x, () -> x.appendChar(4, 127), ARG);
            CHECK.refused("what it is: setField with key 96", x, () -> x.setField(MAP, 96, 1), ARG);
            CHECK.refused("what it is: setField with key 123", x, () -> x.setField(MAP, 123, 1), ARG);
            sameRender("ERR_ARG", x, which);
        }
    }

    /** "A call answering .. ERR_FULL .. changes nothing": every method that can answer it. */
    private static void errFullChangesNothing() {
        LogicLessTemplate x = Fixture.full(CHECK).real();
        for (int slot = 0; slot < 4; slot++) {
            int same = slot;
            CHECK.refused("what it is: putChars to full slot " + slot, x, () -> x.putChars(same, '}'), FULL);
        }
        for (int kind = 1; kind <= 6; kind++) {
            int same = kind;
            CHECK.refused("what it is: newValue to a full store", x, () -> x.newValue(same, 99), FULL);
        }
        CHECK.refused("what it is: appendChar to a full string", x, () -> x.appendChar(4, 'z'), FULL);
        CHECK.refused("what it is: addItem to a full list", x, () -> x.addItem(5, 1), FULL);
        CHECK.refused("what it is: setField of a full map", x, () -> x.setField(MAP, 'z', 1), FULL);
        sameRender("ERR_FULL", x, 2);
    }

    /** "A call answering .. ERR_NOT_COMPILED .. changes nothing": render, for every status of slot 0 that is not OK. */
    private static void errNotCompiledChangesNothing() {
        for (int which = 1; which < 3; which++) {
            for (int status : Fixture.STATUSES) {
                if (status != OK && Fixture.possible(0, status)) {
                    LogicLessTemplate x = state(which).real();
                    Fixture.give(x, 0, status);
                    CHECK.due("what it is: status", x.status(0), status);
                    for (int root : new int[] {1, MAP, 33, 0, Integer.MIN_VALUE, Integer.MAX_VALUE}) {
                        CHECK.refused("what it is: render(" + root + ") in status " + status, x, () -> x.render(root),
                            LogicLessTemplate.ERR_NOT_COMPILED);
                    }
                    CHECK.due("what it is: the output is kept", x.outLength() > 0 ? 1 : 0, 1);
                }
            }
        }
    }

    /** "A call answering .. ERR_VALUE changes nothing": render, for roots on both sides of the store. */
    private static void errValueChangesNothing() {
        for (int which = 1; which < 3; which++) {
            LogicLessTemplate x = state(which).real();
            int none = which == 1 ? 7 : 33;
            for (int root : new int[] {Integer.MIN_VALUE, -1, 0, none, none + 1, 34, 256, Integer.MAX_VALUE}) {
                CHECK.refused("what it is: render(" + root + ")", x, () -> x.render(root), LogicLessTemplate.ERR_VALUE);
            }
            CHECK.due("what it is: the output is kept", x.outLength() > 0 ? 1 : 0, 1);
            sameRender("ERR_VALUE", x, which);
        }
    }

    // Ways to emit the last characters, and what they emit.
    private static final String[] LAST = {"z", "\n", "{{n}}", "{{&n}}", "{{e}}", "{{&e}}", "{{t}}", "{{#l}}z{{/l}}", "{{^m}}z{{/m}}", "{{>1}}"};
    private static final String[] SHOWN = {"z", "\n", "-7", "-7", "&quot;", "\"", "true", "zzzz", "z", "part"};

    /** Renders a template that is to emit this many characters, and answers what it is to emit. */
    private static String fill(LogicLessTemplate x, int count, int last, int due) {
        int num = Check.num(x, -7);
        int mark = Check.str(x, "\"");
        int list = Check.list(x, num, num, num, num);
        int root = Check.map(x, "nelt", num, mark, list, x.newValue(LogicLessTemplate.KIND_TRUE, 0));
        String before = "0123456789abcdefghijklmnop".repeat(10).substring(0, count - SHOWN[last].length());
        int inTwo = Math.min(96, before.length());
        int inThree = Math.min(96, before.length() - inTwo);
        Check.set(x, 1, "part");
        Check.set(x, 2, before.substring(0, inTwo));
        Check.set(x, 3, before.substring(inTwo, inTwo + inThree));
        Check.set(x, 0, "{{>2}}{{>3}}" + before.substring(inTwo + inThree) + LAST[last]);
        for (int slot = 0; slot < 4; slot++) {
            CHECK.due("what it is: compile", x.compile(slot), OK);
        }
        CHECK.due("what it is: render of " + count + " characters with " + LAST[last], x.render(root), due);
        return before + SHOWN[last];
    }

    /** "filling the output exactly is still OK" */
    private static void fillingExactlyIsOk() {
        for (int outCap : new int[] {16, 17, 64, 255, 256}) {
            for (int last = 0; last < LAST.length; last++) {
                LogicLessTemplate x = new LogicLessTemplate(outCap);
                String all = fill(x, outCap, last, OK);
                CHECK.due("what it is: an output of " + outCap + " filled exactly", Check.out(x), all);
                String less = fill(x, outCap - 1, last, OK);
                CHECK.due("what it is: an output of " + outCap + " filled but for one", Check.out(x), less);
            }
        }
    }

    /** "Rendering stops cleanly with ERR_OVERFLOW when a further character is to be emitted while the output is already full" */
    private static void oneCharacterMoreOverflows() {
        for (int outCap : new int[] {16, 17, 64, 255, 256}) {
            for (int last = 0; last < LAST.length; last++) {
                LogicLessTemplate x = new LogicLessTemplate(outCap);
                String all = fill(x, outCap + 1, last, LogicLessTemplate.ERR_OVERFLOW);
                CHECK.due("what it is: an output of " + outCap + " and one too many", Check.out(x), all.substring(0, outCap));
                String fits = fill(x, outCap, last, OK);
                CHECK.due("what it is: an output of " + outCap + " after an overflow", Check.out(x), fits);
            }
        }
    }
}
