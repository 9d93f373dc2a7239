/** Promises 13 and 14, sentence by sentence: what lies on, just inside and just outside each edge. */
public final class RenderEdgeTest {
    private static final int OK = LogicLessTemplate.OK;
    private static final int OVERFLOW = LogicLessTemplate.ERR_OVERFLOW;
    private static final int NOT_COMPILED = LogicLessTemplate.ERR_NOT_COMPILED;
    private static final int VALUE = LogicLessTemplate.ERR_VALUE;
    private static final int FALSE = LogicLessTemplate.KIND_FALSE;
    private static final int TRUE = LogicLessTemplate.KIND_TRUE;
    private static final String SIXTEEN = "0123456789abcdef";
    private static final Check CHECK = new Check();

    public static void main(String[] args) {
        slot0IsNotOk();
        noRoot();
        statusBeforeRoot();
        outputIsEmptiedFirst();
        stopsAtOnceInLiteralText();
        stopsAtOnceInAValue();
        stopsAtOnceInAnEntity();
        stopsAtOnceInABody();
        nothingIsEmittedIntoAFullOutput();
        renderChangesTheOutputAlone();
        textOfANum();
        textOfAString();
        textOfTheOthers();
        falsey();
        topFrame();
        fromTopToBottom();
        foundThoughFalsey();
        asTheMapHoldsItNow();
        missingInEveryFrame();
        fiveEscapes();
        listsOf0To4();
        itemsArePushedAsTheyAre();
        invertedPushesNothing();
        bodyAndAfter();
        partialOfEveryStatus();
        partialOfAFullAndAnEmptySlot();
        partialWithTheCurrentStack();
        deepestStack();
        outLengthFrom0ToCap();
        outCharOfTheOutputOnly();
        onlyARenderChangesTheOutput();
        CHECK.end();
    }

    private static void shows(LogicLessTemplate x, int root, String template, int result, String want) {
        Check.set(x, 0, template);
        CHECK.due("P13: compile of " + template, x.compile(0), OK);
        CHECK.due("P13: render of " + template, x.render(root), result);
        CHECK.due("P13: output of " + template, Check.out(x), want);
    }

    private static void shows(LogicLessTemplate x, int root, String template, String want) {
        shows(x, root, template, OK, want);
    }

    /** "If the status of slot 0 is not OK, it answers ERR_NOT_COMPILED": the output keeps its former contents, whatever the other slots hold. */
    private static void slot0IsNotOk() {
        for (int status : Fixture.STATUSES) {
            if (Fixture.possible(0, status) && status != OK) {
                LogicLessTemplate x = Fixture.busy(CHECK).real();
                String before = Check.out(x);
                Fixture.give(x, 0, status);
                for (int slot = 1; slot < 4; slot++) {
                    Fixture.give(x, slot, OK);
                }
                for (int root = 1; root <= 6; root++) {
                    int same = root;
                    CHECK.refused("P13: render in status " + status, x, () -> x.render(same), NOT_COMPILED);
                }
                CHECK.due("P13: the former output", Check.out(x), before);
            }
        }
        LogicLessTemplate fresh = new LogicLessTemplate(16);
        int root = Check.num(fresh, 1);
        CHECK.refused("P13: render of a fresh slot", fresh, () -> fresh.render(root), NOT_COMPILED);
        fresh.compile(0);
        for (int slot = 1; slot < 4; slot++) {
            Fixture.give(fresh, slot, LogicLessTemplate.ERR_TAG);
        }
        CHECK.due("P13: render of an empty slot 0, all others in error", fresh.render(root), OK);
    }

    /** "If root is not an existing id, it answers ERR_VALUE": on both sides of 0, 1, 31 and 32 values. */
    private static void noRoot() {
        LogicLessTemplate x = new LogicLessTemplate(16);
        Check.put(x, 0, "r{{.}}");
        x.compile(0);
        for (int count = 0; count <= 32; count++) {
            int past = count + 1;
            CHECK.refused("P13: root " + past + " of " + count, x, () -> x.render(past), VALUE);
            CHECK.refused("P13: root 0 of " + count, x, () -> x.render(0), VALUE);
            CHECK.refused("P13: root -1 of " + count, x, () -> x.render(-1), VALUE);
            if (count > 0) {
                CHECK.due("P13: root " + count + " of " + count, x.render(count), OK);
                CHECK.due("P13: its output", Check.out(x), "r" + count);
                CHECK.due("P13: root 1 of " + count, x.render(1), OK);
                CHECK.due("P13: its output", Check.out(x), "r1");
            }
            Check.num(x, count + 1);
        }
        for (int root : new int[] {Integer.MIN_VALUE, Integer.MIN_VALUE + 1, -32, 34, 64, 257, 65537, Integer.MAX_VALUE}) {
            CHECK.refused("P13: root " + root, x, () -> x.render(root), VALUE);
        }
    }

    /** "checks in order": the status first, then the root. */
    private static void statusBeforeRoot() {
        LogicLessTemplate x = Fixture.busy(CHECK).real();
        x.putChars(0, 'x');
        for (int root : new int[] {Integer.MIN_VALUE, -1, 0, 7, 33, Integer.MAX_VALUE}) {
            CHECK.refused("P13: no status, no root " + root, x, () -> x.render(root), NOT_COMPILED);
        }
        x.compile(0);
        CHECK.refused("P13: a status, no root", x, () -> x.render(7), VALUE);
    }

    /** "Otherwise the output is emptied": nothing of a longer, a full or an overflowed one is left. */
    private static void outputIsEmptiedFirst() {
        LogicLessTemplate x = new LogicLessTemplate(16);
        int root = Check.num(x, 7);
        for (String before : new String[] {"", "abc", SIXTEEN, SIXTEEN + "g"}) {
            for (String after : new String[] {"", "z", "fedcba9876543210"}) {
                showsFirst16(x, root, before, before);
                shows(x, root, after, after);
            }
        }
    }

    /** "When a character is to be emitted while the output already holds outCap characters, rendering stops at once." */
    private static void stopsAtOnceInLiteralText() {
        for (int outCap : new int[] {16, 17, 95}) {
            LogicLessTemplate x = new LogicLessTemplate(outCap);
            int root = Check.num(x, 7);
            String text = "0123456789".repeat(10).substring(0, 96);
            for (int length = 0; length <= 96; length++) {
                boolean fits = length <= outCap;
                shows(x, root, text.substring(0, length), fits ? OK : OVERFLOW, text.substring(0, Math.min(outCap, length)));
            }
        }
        LogicLessTemplate x = new LogicLessTemplate(16);
        int root = Check.num(x, 7);
        shows(x, root, SIXTEEN + "\n", OVERFLOW, SIXTEEN);
        shows(x, root, SIXTEEN + " ", OVERFLOW, SIXTEEN);
        shows(x, root, SIXTEEN + "}", OVERFLOW, SIXTEEN);
    }

    /** The same inside the text of a value: its first characters stay, at every place where the output may end. */
    private static void stopsAtOnceInAValue() {
        for (String tag : new String[] {"{{.}}", "{{&.}}"}) {
            LogicLessTemplate x = new LogicLessTemplate(16);
            cutAnywhere(x, Check.num(x, Integer.MIN_VALUE), tag, "-2147483648");
            cutAnywhere(x, Check.num(x, Integer.MAX_VALUE), tag, "2147483647");
            cutAnywhere(x, Check.num(x, 0), tag, "0");
            cutAnywhere(x, Check.str(x, "12345678"), tag, "12345678");
            cutAnywhere(x, x.newValue(TRUE, 0), tag, "true");
            cutAnywhere(x, x.newValue(FALSE, 0), tag, "false");
        }
    }

    private static void showsFirst16(LogicLessTemplate x, int root, String template, String all) {
        boolean fits = all.length() <= 16;
        shows(x, root, template, fits ? OK : OVERFLOW, fits ? all : all.substring(0, 16));
    }

    private static void cutAnywhere(LogicLessTemplate x, int root, String tag, String text) {
        for (int before = 16 - text.length() - 1; before <= 16; before++) {
            String lead = SIXTEEN.substring(0, before);
            showsFirst16(x, root, lead + tag, lead + text);
            showsFirst16(x, root, lead + tag + "x", lead + text + "x");
        }
    }

    /** The same inside what replaces a character. */
    private static void stopsAtOnceInAnEntity() {
        String marks = "&<>\"'";
        String[] entities = {"&amp;", "&lt;", "&gt;", "&quot;", "&#39;"};
        for (int i = 0; i < entities.length; i++) {
            LogicLessTemplate x = new LogicLessTemplate(16);
            cutAnywhere(x, Check.str(x, marks.substring(i, i + 1)), "{{.}}", entities[i]);
            cutAnywhere(x, Check.str(x, marks.substring(i, i + 1)), "{{&.}}", marks.substring(i, i + 1));
            cutAnywhere(x, Check.str(x, marks.charAt(i) + "ab" + marks.charAt(i)), "{{.}}", entities[i] + "ab" + entities[i]);
        }
    }

    /** The same inside the body of a section, of an inverted one and inside a partial: what comes after is not rendered. */
    private static void stopsAtOnceInABody() {
        LogicLessTemplate x = new LogicLessTemplate(16);
        int one = Check.num(x, 1);
        int four = Check.list(x, one, one, one, one);
        int root = Check.map(x, "lo", four, one);
        shows(x, root, "{{#l}}abcd{{/l}}", "abcd".repeat(4));
        shows(x, root, "{{#l}}abcd{{/l}}x", OVERFLOW, "abcd".repeat(4));
        shows(x, root, "x{{#l}}abcd{{/l}}", OVERFLOW, "xabcdabcdabcdabc");
        shows(x, root, "{{#l}}abcde{{/l}}", OVERFLOW, "abcdeabcdeabcdea");
        shows(x, root, "{{#l}}{{#l}}-{{/l}}{{/l}}", "-".repeat(16));
        shows(x, root, "{{#l}}{{#l}}-{{/l}}+{{/l}}", OVERFLOW, "----+----+----+-");
        shows(x, root, "{{#o}}" + SIXTEEN + "{{/o}}", SIXTEEN);
        shows(x, root, "{{#o}}" + SIXTEEN + "g{{/o}}h", OVERFLOW, SIXTEEN);
        shows(x, root, "{{^z}}" + SIXTEEN + "{{/z}}", SIXTEEN);
        shows(x, root, "{{^z}}" + SIXTEEN + "{{/z}}g", OVERFLOW, SIXTEEN);
        Check.put(x, 1, SIXTEEN);
        x.compile(1);
        shows(x, root, "{{>1}}", SIXTEEN);
        shows(x, root, "{{>1}}{{>2}}", SIXTEEN);
        shows(x, root, "{{>1}}{{>1}}", OVERFLOW, SIXTEEN);
        shows(x, root, "g{{>1}}", OVERFLOW, "g0123456789abcde");
        shows(x, root, "ok", "ok");
    }

    /** "filling the output exactly is still OK": tags that emit nothing may follow. */
    private static void nothingIsEmittedIntoAFullOutput() {
        LogicLessTemplate x = new LogicLessTemplate(16);
        int one = Check.num(x, 1);
        int root = Check.map(x, "esml", Check.str(x, ""), one, Check.map(x, ""), Check.list(x));
        Check.put(x, 1, "{{!nothing}}\n");
        x.compile(1);
        Check.put(x, 2, "unused");
        String[] silent = {"{{e}}", "{{&e}}", "{{z}}", "{{&z}}", "{{m}}", "{{l}}", "{{.}}", "{{!c}}", "{{=< >=}}", "{{#s}}{{/s}}", "{{#z}}x{{/z}}",
            "{{^s}}x{{/s}}", "{{#l}}x{{/l}}", "{{^l}}{{/l}}", "{{#m}}{{e}}{{/m}}", "{{>1}}", "{{>2}}", "{{>3}}"};
        for (String tag : silent) {
            shows(x, root, SIXTEEN + tag, SIXTEEN);
            shows(x, root, SIXTEEN + tag + "x", OVERFLOW, SIXTEEN);
        }
        shows(x, root, "0123456789abcde\n {{!c}} \n", "0123456789abcde\n");
        shows(x, root, "0123456789abcde\n {{!c}} \n ", OVERFLOW, "0123456789abcde\n");
    }

    /** "Texts, statuses and values never change by rendering", be it OK or ERR_OVERFLOW. */
    private static void renderChangesTheOutputAlone() {
        for (int which = 0; which < 2; which++) {
            LogicLessTemplate x = which == 0 ? Fixture.busy(CHECK).real() : Fixture.full(CHECK).real();
            String before = Check.state(x);
            String out = Check.out(x);
            String rest = before.substring(0, before.length() - out.length());
            for (int root = 1; root <= 6; root++) {
                x.render(root);
                CHECK.due("P13: all but the output after render(" + root + ")", Check.state(x), rest + Check.out(x));
            }
            x.render(Fixture.MAP);
            CHECK.due("P13: the same render once more", Check.state(x), before);
        }
    }

    /** "NUM: decimal digits, preceded by '-' when negative, with no leading zeros. 0 gives 0; -2147483648 gives -2147483648." */
    private static void textOfANum() {
        num(0, "0");
        num(-2147483648, "-2147483648");
        num(2147483647, "2147483647");
        String nines = "";
        String tens = "1";
        for (int power = 1; power <= 1000000000; power *= 10) {
            num(power, tens);
            num(-power, "-" + tens);
            if (power > 1) {
                num(power - 1, nines);
                num(1 - power, "-" + nines);
                num(power + 1, tens.substring(0, tens.length() - 1) + "1");
            }
            nines += "9";
            tens += "0";
        }
        for (int digit = 1; digit <= 9; digit++) {
            num(digit * 11, "" + digit + digit);
            num(-digit, "-" + digit);
        }
        num(1234567890, "1234567890");
        num(-1987654321, "-1987654321");
    }

    private static void num(int num, String want) {
        LogicLessTemplate x = new LogicLessTemplate(64);
        int root = Check.num(x, num);
        shows(x, root, "{{.}} {{&.}}", want + " " + want);
    }

    /** "STR: its characters": from none to 8. */
    private static void textOfAString() {
        for (int length = 0; length <= 8; length++) {
            LogicLessTemplate x = new LogicLessTemplate(64);
            String chars = " ~Az09{}".substring(0, length);
            shows(x, Check.str(x, chars), "[{{.}}] [{{&.}}]", "[" + chars + "] [" + chars + "]");
        }
    }

    /** "TRUE: the 4 characters true. FALSE: the 5 characters false. LIST, MAP and a missing value: no characters." */
    private static void textOfTheOthers() {
        LogicLessTemplate x = new LogicLessTemplate(64);
        int yes = x.newValue(TRUE, 0);
        int no = x.newValue(FALSE, 1);
        shows(x, yes, "[{{.}}] [{{&.}}]", "[true] [true]");
        shows(x, no, "[{{.}}] [{{&.}}]", "[false] [false]");
        for (int count = 0; count <= 4; count++) {
            int list = Check.list(x);
            int map = Check.map(x, "");
            for (int i = 0; i < count; i++) {
                x.addItem(list, yes);
                x.setField(map, 'a' + i, yes);
            }
            shows(x, list, "[{{.}}] [{{&.}}]", "[] []");
            shows(x, map, "[{{.}}] [{{&.}}]", "[] []");
            shows(x, map, "[{{z}}] [{{&z}}]", "[] []");
        }
    }

    /** "FALSEY are a missing value, FALSE, and a LIST with 0 items. All else is truthy; NUM 0, an empty STR and an empty MAP are truthy." */
    private static void falsey() {
        LogicLessTemplate x = new LogicLessTemplate(64);
        int no = x.newValue(FALSE, 1);
        int[] falsey = {no, Check.list(x)};
        int[] truthy = {x.newValue(TRUE, 0), Check.num(x, 0), Check.num(x, 1), Check.num(x, -1), Check.num(x, Integer.MIN_VALUE), Check.str(x, ""),
            Check.str(x, "false"), Check.map(x, ""), Check.map(x, "z", no), Check.list(x, no), Check.list(x, falsey[1])};
        int root = Check.map(x, "");
        shows(x, root, "{{#v}}yes{{/v}}{{^v}}no{{/v}}", "no");
        for (int v : falsey) {
            x.setField(root, 'v', v);
            shows(x, root, "{{#v}}yes{{/v}}{{^v}}no{{/v}}", "no");
            shows(x, v, "{{#.}}yes{{/.}}{{^.}}no{{/.}}", "no");
        }
        for (int v : truthy) {
            x.setField(root, 'v', v);
            shows(x, root, "{{#v}}yes{{/v}}{{^v}}no{{/v}}", "yes");
            shows(x, v, "{{#.}}yes{{/.}}{{^.}}no{{/.}}", "yes");
        }
    }

    /** "'.' gives the value of the top frame": of the root alone, and of each frame above it. */
    private static void topFrame() {
        LogicLessTemplate x = new LogicLessTemplate(64);
        int inner = Check.map(x, "d", Check.num(x, 2));
        int root = Check.map(x, "os", inner, Check.str(x, "s"));
        shows(x, Check.num(x, 5), "{{.}}{{#.}}{{.}}{{#.}}{{.}}{{/.}}{{.}}{{/.}}{{.}}", "55555");
        shows(x, root, "[{{.}}]{{#s}}{{.}}{{#o}}[{{.}}]{{/o}}{{.}}{{/s}}[{{.}}]", "[]s[]s[]");
        shows(x, root, "{{#o}}{{#d}}{{.}}{{/d}}{{/o}}", "2");
        shows(x, root, "{{#.}}{{#.}}{{s}}{{/.}}{{/.}}", "s");
    }

    /** "A LETTER is sought from the top frame down to the bottom one. The first frame whose value is a MAP with a field of that key" */
    private static void fromTopToBottom() {
        LogicLessTemplate x = new LogicLessTemplate(64);
        int one = Check.num(x, 1);
        int top = Check.map(x, "a", Check.num(x, 3));
        int middle = Check.map(x, "abt", Check.num(x, 2), Check.num(x, 2), top);
        int root = Check.map(x, "abcm", one, one, one, middle);
        shows(x, root, "{{a}}{{b}}{{c}}", "111");
        shows(x, root, "{{#m}}{{a}}{{b}}{{c}}{{/m}}{{a}}{{b}}{{c}}", "221111");
        shows(x, root, "{{#m}}{{#t}}{{a}}{{b}}{{c}}{{/t}}{{a}}{{b}}{{c}}{{/m}}", "321221");
        // A frame that is no MAP is passed over, be it in the midst or on top.
        shows(x, root, "{{#c}}{{#m}}{{a}}{{c}}{{/m}}{{a}}{{/c}}", "211");
        shows(x, root, "{{#m}}{{#c}}{{a}}{{b}}{{c}}{{/c}}{{/m}}", "221");
        int text = Check.str(x, "aaa");
        int list = Check.list(x, text, one, top, Check.list(x, top));
        int over = Check.map(x, "la", list, one);
        shows(x, over, "{{#l}}{{a}}{{/l}}", "1131");
        // Each of the 4 fields of a MAP, and every letter.
        shows(x, root, "{{#m}}{{a}}{{/m}}{{a}}{{b}}{{c}}{{m}}", "2111");
        for (char c = 'a'; c <= 'z'; c++) {
            LogicLessTemplate y = new LogicLessTemplate(16);
            int map = Check.map(y, "" + c, Check.num(y, c));
            shows(y, map, "{{" + c + "}}{{#" + c + "}}-{{" + c + "}}{{/" + c + "}}", (int) c + "-" + (int) c);
        }
    }

    /** The first field found counts, though its value be FALSE, empty or without text: no lower frame is asked. */
    private static void foundThoughFalsey() {
        LogicLessTemplate x = new LogicLessTemplate(64);
        int one = Check.num(x, 1);
        int inner = Check.map(x, "abc", x.newValue(FALSE, 0), Check.list(x), Check.map(x, ""));
        int root = Check.map(x, "abcm", one, one, one, inner);
        shows(x, root, "{{#m}}{{a}}{{b}}{{c}}{{/m}}", "false");
        shows(x, root, "{{#m}}{{#a}}x{{/a}}{{#b}}x{{/b}}{{#c}}y{{/c}}{{/m}}", "y");
        shows(x, root, "{{#m}}{{^a}}x{{/a}}{{^b}}x{{/b}}{{^c}}y{{/c}}{{/m}}", "xx");
    }

    /** "gives that field's value, as the map holds it at that moment" */
    private static void asTheMapHoldsItNow() {
        LogicLessTemplate x = new LogicLessTemplate(64);
        int text = Check.str(x, "");
        int root = Check.map(x, "a", text);
        Check.put(x, 0, "[{{a}}]");
        x.compile(0);
        String want = "";
        for (int i = 0; i < 8; i++) {
            x.render(root);
            CHECK.due("P13: a string of " + i, Check.out(x), "[" + want + "]");
            x.appendChar(text, '0' + i);
            want += (char) ('0' + i);
        }
        for (int num = 0; num < 20; num++) {
            x.setField(root, 'a', Check.num(x, num));
            x.render(root);
            CHECK.due("P13: a field set anew", Check.out(x), "[" + num + "]");
        }
    }

    /** "If there is none, the value is missing." */
    private static void missingInEveryFrame() {
        LogicLessTemplate x = new LogicLessTemplate(64);
        int one = Check.num(x, 1);
        int inner = Check.map(x, "b", one);
        int root = Check.map(x, "am", one, inner);
        shows(x, root, "[{{b}}{{&b}}{{#b}}x{{/b}}{{^b}}y{{/b}}]", "[y]");
        shows(x, root, "{{#m}}{{#a}}[{{z}}{{&z}}{{/a}}{{^z}}y{{/z}}]{{/m}}", "[y]");
        shows(x, root, "{{#m}}{{b}}{{/m}}{{b}}", "1");
        shows(x, one, "[{{a}}{{z}}]", "[]");
    }

    /** "replacing characters: 38 .., 60 .., 62 .., 34 .., 39 .. All other characters are emitted unchanged." "Raw variable: .. unchanged." */
    private static void fiveEscapes() {
        for (int c = 32; c <= 126; c++) {
            LogicLessTemplate x = new LogicLessTemplate(64);
            String want = c == 38 ? "&amp;" : c == 60 ? "&lt;" : c == 62 ? "&gt;" : c == 34 ? "&quot;" : c == 39 ? "&#39;" : "" + (char) c;
            int root = Check.str(x, "a" + (char) c + (char) c);
            shows(x, root, "{{.}}", "a" + want + want);
            shows(x, root, "{{&.}}", "a" + (char) c + (char) c);
        }
        LogicLessTemplate wide = new LogicLessTemplate(256);
        shows(wide, Check.str(wide, "\"\"\"\"\"\"\"\""), "{{.}}{{.}}", "&quot;".repeat(16));
        shows(wide, Check.str(wide, "&amp;&lt"), "{{.}}", "&amp;amp;&amp;lt");
        shows(wide, 1, "&<>\"' &amp;", "&<>\"' &amp;");
    }

    /** "If v is a LIST with k >= 1 items: for j = 0..k-1 in turn, push item j, render the BODY, pop.": k from 0 to 4. */
    private static void listsOf0To4() {
        LogicLessTemplate x = new LogicLessTemplate(64);
        int list = Check.list(x);
        int root = Check.map(x, "l", list);
        String want = "";
        for (int k = 0; k <= 4; k++) {
            shows(x, root, "<{{#l}}{{.}},{{/l}}>", "<" + want + ">");
            shows(x, list, "<{{#.}}{{.}},{{/.}}>", "<" + want + ">");
            shows(x, root, "<{{#l}}{{/l}}>{{^l}}none{{/l}}", k == 0 ? "<>none" : "<>");
            x.addItem(list, Check.num(x, 10 + k));
            want += 10 + k + ",";
        }
        CHECK.due("P9: no fifth item", x.addItem(list, root), LogicLessTemplate.ERR_FULL);
        CHECK.due("P13: render", x.render(root), OK);
        shows(x, root, "{{#l}}{{.}}{{/l}}", "10111213");
    }

    /** An item is pushed whatever it is: FALSE, an empty list, a list, the list itself; it is not asked whether it is falsey. */
    private static void itemsArePushedAsTheyAre() {
        LogicLessTemplate x = new LogicLessTemplate(64);
        int no = x.newValue(FALSE, 0);
        int empty = Check.list(x);
        int one = Check.num(x, 1);
        int pair = Check.list(x, one, one);
        shows(x, Check.list(x, no), "{{#.}}[{{.}}]{{/.}}", "[false]");
        shows(x, Check.list(x, empty), "{{#.}}[{{.}}]{{/.}}", "[]");
        shows(x, Check.list(x, no, empty, no, empty), "{{#.}}-{{/.}}", "----");
        shows(x, Check.list(x, pair), "{{#.}}[{{.}}]{{/.}}", "[]");
        shows(x, Check.list(x, pair, one), "{{#.}}[{{#.}}{{.}}{{/.}}]{{/.}}", "[11][1]");
        shows(x, Check.list(x, no, empty, one), "{{#.}}[{{^.}}no{{/.}}]{{/.}}", "[no][no][]");
        int self = Check.list(x);
        x.addItem(self, self);
        shows(x, self, "{{#.}}[{{#.}}({{.}}){{/.}}]{{/.}}", "[()]");
        int map = Check.map(x, "");
        x.setField(map, 'm', map);
        x.setField(map, 'n', one);
        shows(x, map, "{{#m}}{{#m}}{{n}}{{m}}{{/m}}{{/m}}", "1");
    }

    /** "Inverted section: .. If it is falsey, render the BODY once with no push; else nothing." */
    private static void invertedPushesNothing() {
        LogicLessTemplate x = new LogicLessTemplate(64);
        int one = Check.num(x, 1);
        int inner = Check.map(x, "a", Check.num(x, 2));
        int root = Check.map(x, "amfl", one, inner, x.newValue(FALSE, 0), Check.list(x));
        shows(x, root, "{{^f}}[{{a}}{{.}}]{{/f}}{{a}}", "[1]1");
        shows(x, root, "{{^l}}[{{a}}{{.}}]{{/l}}{{a}}", "[1]1");
        shows(x, root, "{{^z}}[{{a}}{{.}}]{{/z}}{{a}}", "[1]1");
        shows(x, root, "{{#a}}{{^f}}[{{.}}]{{/f}}{{.}}{{/a}}", "[1]1");
        shows(x, root, "{{#m}}{{^f}}{{a}}{{/f}}{{a}}{{/m}}{{a}}", "221");
        shows(x, root, "{{^f}}{{#m}}{{a}}{{/m}}{{a}}{{/f}}{{a}}", "211");
        shows(x, root, "{{^f}}{{^l}}{{a}}{{/l}}{{a}}{{/f}}{{a}}", "111");
        shows(x, root, "{{^a}}x{{/a}}{{^m}}x{{/m}}", "");
        shows(x, x.newValue(FALSE, 0), "{{^.}}{{.}}{{^.}}{{.}}{{/.}}{{/.}}", "falsefalse");
    }

    /** "Rendering goes on after the close tag." Nothing of a body that is passed over is shown, tags in it included. */
    private static void bodyAndAfter() {
        LogicLessTemplate x = new LogicLessTemplate(64);
        int one = Check.num(x, 1);
        int root = Check.map(x, "al", one, Check.list(x, one, one));
        Check.put(x, 1, "part");
        x.compile(1);
        shows(x, root, "{{#z}}x{{a}}{{#a}}y{{/a}}{{^z}}y{{/z}}{{>1}}{{/z}}after", "after");
        shows(x, root, "{{^a}}x{{a}}{{#z}}y{{/z}}{{^z}}y{{/z}}{{>1}}{{/a}}after", "after");
        shows(x, root, "{{#a}}{{#z}}x{{/z}}in{{/a}}after", "inafter");
        shows(x, root, "{{#l}}{{#z}}x{{/z}}in{{^z}}not{{/z}},{{/l}}after", "innot,innot,after");
        shows(x, root, "{{#a}}{{/a}}{{^z}}{{/z}}{{#z}}{{/z}}{{^a}}{{/a}}after", "after");
        shows(x, root, "{{#z}}{{=< >=}}x</z><a>", "1");
        shows(x, root, "{{#l}}{{=< >=}}<a>{{a}}</l>", "1{{a}}1{{a}}");
    }

    /** "Partial naming slot d: if the status of d is OK at that moment, render slot d here .. Otherwise nothing." */
    private static void partialOfEveryStatus() {
        for (int slot = 1; slot < 4; slot++) {
            for (int status : Fixture.STATUSES) {
                LogicLessTemplate x = new LogicLessTemplate(64);
                int root = Check.map(x, "a", Check.num(x, 1));
                Fixture.give(x, slot, OK);
                shows(x, root, "[{{>" + slot + "}}]", "[o1]");
                Fixture.give(x, slot, status);
                String want = status == OK ? "[o1]" : "[]";
                CHECK.due("P13: render", x.render(root), OK);
                CHECK.due("P13: a partial in status " + status, Check.out(x), want);
                shows(x, root, "[{{>" + slot + "}}]", want);
                for (int other = 1; other < 4; other++) {
                    if (other != slot) {
                        shows(x, root, "[{{>" + other + "}}]", "[]");
                    }
                }
            }
        }
    }

    /** The same with slots of length 0 and 96. */
    private static void partialOfAFullAndAnEmptySlot() {
        for (int slot = 1; slot < 4; slot++) {
            LogicLessTemplate x = new LogicLessTemplate(256);
            int root = Check.map(x, "a", Check.num(x, 1));
            x.compile(slot);
            shows(x, root, "[{{>" + slot + "}}]", "[]");
            Check.put(x, slot, "y".repeat(91) + "{{a}}");
            x.compile(slot);
            shows(x, root, "[{{>" + slot + "}}]", "[" + "y".repeat(91) + "1]");
            shows(x, root, "x".repeat(90) + "{{>" + slot + "}}", "x".repeat(90) + "y".repeat(91) + "1");
            shows(x, root, "{{>" + slot + "}}{{>" + slot + "}}", ("y".repeat(91) + "1").repeat(2));
        }
    }

    /** "render slot d here with the current stack, using slot d's own literal texts, tags and removed characters" */
    private static void partialWithTheCurrentStack() {
        LogicLessTemplate x = new LogicLessTemplate(256);
        int one = Check.num(x, 1);
        int two = Check.num(x, 2);
        int inner = Check.map(x, "a", two);
        int root = Check.map(x, "aml", one, inner, Check.list(x, one, two));
        Check.put(x, 1, "{{a}}{{.}};");
        Check.put(x, 2, " {{#l}} \n-{{.}}\n {{/l}} \n{{a}}");
        Check.put(x, 3, "{{=< >=}}\n<#m><a></m>{{a}}");
        for (int slot = 1; slot < 4; slot++) {
            CHECK.due("P13: compile", x.compile(slot), OK);
        }
        shows(x, root, "{{>1}}{{#m}}{{>1}}{{#a}}{{>1}}{{/a}}{{/m}}{{#l}}{{>1}}{{/l}}", "1;2;22;11;12;");
        shows(x, root, "{{>2}}|{{#m}}{{>2}}|{{/m}}", "-1\n-2\n1|-1\n-2\n2|");
        shows(x, root, "{{>3}}{{a}}<a>{{>3}}", "2{{a}}1<a>2{{a}}");
        shows(x, root, "{{=| |=}}|>3||a||#m||>1||>3||/m||a|", "2{{a}}12;2{{a}}1");
        shows(x, root, "p\n {{>1}} \nq", "p\n1;q");
        shows(x, root, "p\n {{>2}} \n q", "p\n-1\n-2\n1 q");
        shows(x, root, "{{^z}}{{>1}}{{/z}}{{>2}}{{>3}}{{>1}}", "1;-1\n-2\n12{{a}}1;");
    }

    /** Two sections open in slot 0 and two in a partial, all lists of 4: 256 bodies, the last fills the greatest output. */
    private static void deepestStack() {
        LogicLessTemplate x = new LogicLessTemplate(256);
        int one = Check.num(x, 1);
        int four = Check.list(x, one, one, one, one);
        int root = Check.map(x, "la", four, Check.num(x, 7));
        for (int slot = 1; slot < 4; slot++) {
            Check.set(x, slot, "{{#l}}{{#l}}{{a}}{{/l}}{{/l}}");
            CHECK.due("P13: compile", x.compile(slot), OK);
            shows(x, root, "{{#l}}{{#l}}{{>" + slot + "}}{{/l}}{{/l}}", "7".repeat(256));
            shows(x, root, "{{#l}}{{#l}}{{>" + slot + "}}{{/l}}{{/l}}{{a}}", OVERFLOW, "7".repeat(256));
            Check.set(x, slot, "{{^z}}{{^y}}{{a}}{{/y}}{{/z}}");
            CHECK.due("P13: compile", x.compile(slot), OK);
            shows(x, root, "{{^z}}{{^y}}{{>" + slot + "}}{{/y}}{{a}}{{/z}}{{a}}", "777");
            shows(x, root, "{{#l}}{{^y}}{{>" + slot + "}}{{/y}}{{.}}{{/l}}{{a}}", "717171717");
        }
    }

    /** P14: "the number of characters in the output (0..outCap). It is 0 on a fresh object and after a render that emitted nothing." */
    private static void outLengthFrom0ToCap() {
        for (int outCap : new int[] {16, 40, 96}) {
            LogicLessTemplate x = new LogicLessTemplate(outCap);
            CHECK.due("P14: outLength of a fresh object", x.outLength(), 0);
            int root = Check.num(x, 1);
            for (int length = 0; length <= 96; length++) {
                Check.set(x, 0, "y".repeat(length));
                x.compile(0);
                x.render(root);
                CHECK.due("P14: outLength", x.outLength(), Math.min(length, outCap));
            }
            for (String nothing : new String[] {"", "{{!c}}", "{{z}}", "{{#z}}x{{/z}}", " {{=< >=}} \n", "{{>1}}"}) {
                shows(x, root, "before", "before");
                shows(x, root, nothing, "");
                CHECK.refused("P14: outLength after " + nothing, x, x::outLength, 0);
            }
        }
    }

    /** P14: "It answers -1 if i is outside 0..outLength()-1." "Both change nothing." */
    private static void outCharOfTheOutputOnly() {
        for (int outCap : new int[] {16, 17, 256}) {
            LogicLessTemplate x = new LogicLessTemplate(outCap);
            int self = Check.list(x);
            for (int i = 0; i < 4; i++) {
                x.addItem(self, self);
            }
            Check.put(x, 0, "{{#.}}" + "0123456789".repeat(7) + "{{/.}}");
            x.compile(0);
            outCharsOf(x, "");
            x.render(self);
            outCharsOf(x, "0123456789".repeat(28).substring(0, outCap));
            for (String text : new String[] {"abc", "d", "", "0123456789abcdef", "0123456789abcde"}) {
                shows(x, self, text, text);
                outCharsOf(x, text);
            }
        }
    }

    private static void outCharsOf(LogicLessTemplate x, String want) {
        for (int i = -300; i <= 300; i++) {
            boolean inside = i >= 0 && i < want.length();
            CHECK.due("P14: outChar(" + i + ") of " + want.length(), x.outChar(i), inside ? want.charAt(i) : -1);
        }
        for (int i : new int[] {Integer.MIN_VALUE, Integer.MIN_VALUE + 1, -1, want.length(), 65536, Integer.MAX_VALUE}) {
            CHECK.refused("P14: outChar(" + i + ")", x, () -> x.outChar(i), -1);
        }
    }

    /** P14: "The output changes only through a render that passes its checks." */
    private static void onlyARenderChangesTheOutput() {
        for (int which = 0; which < 2; which++) {
            LogicLessTemplate x = which == 0 ? Fixture.busy(CHECK).real() : Fixture.full(CHECK).real();
            String before = Check.out(x);
            x.appendChar(4, 'z');
            CHECK.due("P14: the output after appendChar", Check.out(x), before);
            x.addItem(5, 4);
            CHECK.due("P14: the output after addItem", Check.out(x), before);
            x.setField(6, 'a', 4);
            CHECK.due("P14: the output after setField", Check.out(x), before);
            x.newValue(3, 8);
            CHECK.due("P14: the output after newValue", Check.out(x), before);
            for (int slot = 0; slot < 4; slot++) {
                x.putChars(slot, 'z');
                CHECK.due("P14: the output after putChars", Check.out(x), before);
                x.clearTemplate(slot);
                CHECK.due("P14: the output after clearTemplate", Check.out(x), before);
                x.putChars(slot, 'y');
                CHECK.due("P14: a refused render", x.render(slot == 0 ? 1 : 0), slot == 0 ? NOT_COMPILED : VALUE);
                x.compile(slot);
                CHECK.due("P14: the output after compile", Check.out(x), before);
            }
            x.render(0);
            x.render(34);
            CHECK.due("P14: the output after a refused render", Check.out(x), before);
            x.render(1);
            CHECK.due("P14: the output after a render", Check.out(x), "y");
        }
    }
}
