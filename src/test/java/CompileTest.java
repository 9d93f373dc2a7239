/** Promises 5 and 6: compile, status and errorAt. */
public final class CompileTest {
    private static final int OK = LogicLessTemplate.OK;
    private static final int UNCLOSED = LogicLessTemplate.ERR_UNCLOSED;
    private static final int TAG = LogicLessTemplate.ERR_TAG;
    private static final int NESTING = LogicLessTemplate.ERR_NESTING;
    private static final int PARTIAL = LogicLessTemplate.ERR_PARTIAL;
    private static final Check CHECK = new Check();

    public static void main(String[] args) {
        slots();
        literalsAndMarks();
        names();
        comments();
        delimiters();
        sections();
        partials();
        firstError();
        compileChangesNothingElse();
        getters();
        CHECK.end();
    }

    private static void compiles(int slot, String text, int result, int at) {
        LogicLessTemplate x = new LogicLessTemplate(64);
        Check.put(x, slot, text);
        String call = "P5: compile of \"" + text + "\" in slot " + slot;
        for (int turn = 0; turn < 2; turn++) {
            CHECK.due(call, x.compile(slot), result);
            CHECK.due(call + ", status", x.status(slot), result);
            CHECK.due(call + ", errorAt", x.errorAt(slot), at);
        }
        CHECK.due(call + ", text", Check.text(x, slot), text);
    }

    private static void good(String text) {
        compiles(0, text, OK, -1);
    }

    private static void bad(String text, int result, int at) {
        compiles(0, text, result, at);
    }

    private static void slots() {
        LogicLessTemplate x = new LogicLessTemplate(64);
        for (int slot : new int[] {-1, 4, Integer.MIN_VALUE, Integer.MAX_VALUE}) {
            CHECK.refused("P5: compile(" + slot + ")", x, () -> x.compile(slot), LogicLessTemplate.ERR_ARG);
        }
        for (int slot = 0; slot < 4; slot++) {
            compiles(slot, "", OK, -1);
            compiles(slot, "a{{b}}\n{{#c}}{{^d}}{{/d}}{{/c}}", OK, -1);
            compiles(slot, "ab{{", UNCLOSED, 2);
            compiles(slot, "x".repeat(94) + "{{", UNCLOSED, 94);
            compiles(slot, "x".repeat(91) + "{{a}}", OK, -1);
        }
    }

    private static void literalsAndMarks() {
        good("{");
        good("{ {");
        good("}}");
        good("{}{a}}");
        bad("{{", UNCLOSED, 0);
        bad("{{a}", UNCLOSED, 0);
        bad("{{a} }", UNCLOSED, 0);
        bad("ab\n{{a", UNCLOSED, 3);
        bad("{{a}}{{b", UNCLOSED, 5);
        bad("{{}", UNCLOSED, 0);
        bad("{{{a}}}", TAG, 0);
        good("{{a}}}");
        good("{{!{{}}");
        bad("{{{{a}}}}", TAG, 0);
        bad("{{}}}", TAG, 0);
    }

    private static void names() {
        String[] classes = {"", "&", "#", "^", "/"};
        for (String first : classes) {
            boolean open = first.equals("#") || first.equals("^");
            boolean close = first.equals("/");
            for (String name : new String[] {"a", "z", "m", "."}) {
                String before = close ? "{{#" + name + "}}" : "";
                String after = open ? "{{/" + name + "}}" : "";
                good(before + "{{" + first + name + "}}" + after);
                good(before + "{{" + first + "  " + name + " }}" + after);
            }
            for (String name : new String[] {"", " ", "ab", "a b", "A", "1", "`", "{", "..", "\na", "a\n", "\n", "_"}) {
                bad("{{" + first + name + "}}", TAG, 0);
            }
        }
        good("{{ a}}");
        bad("{{ #a}}", TAG, 0);
        bad("{{ !a}}", TAG, 0);
        bad("{{ &a}}", TAG, 0);
        bad("{{ >1}}", TAG, 0);
        bad("{{ =< >=}}", TAG, 0);
        bad("{{##a}}", TAG, 0);
        bad("{{@}}", TAG, 0);
    }

    private static void comments() {
        good("{{!}}");
        good("{{!anything {{ at = all # ! \n more\n}}");
        good("{{! } }}");
        bad("{{! }", UNCLOSED, 0);
    }

    private static void delimiters() {
        good("{{=< >=}}");
        good("{{=   <%   %>  =}}");
        good("{{=<<< >>>=}}<<<a>>>");
        good("{{=<% %>=}}<%a%>{{");
        good("{{=! ~=}}!a~");
        good("{{=| |=}}|a|");
        good("{{={ }=}}{a}");
        bad("{{={{ }}=}}", TAG, 0);
        bad("{{==}}", TAG, 0);
        bad("{{=}}", TAG, 0);
        bad("{{===}}", TAG, 0);
        bad("{{= =}}", TAG, 0);
        bad("{{=   =}}", TAG, 0);
        bad("{{=a=}}", TAG, 0);
        bad("{{=ab=}}", TAG, 0);
        bad("{{=a b}}", TAG, 0);
        bad("{{=a bc}}", TAG, 0);
        bad("{{=a b= }}", TAG, 0);
        bad("{{=a b=c}}", TAG, 0);
        bad("{{=a b c=}}", TAG, 0);
        bad("{{=abcd b=}}", TAG, 0);
        bad("{{=a bcde=}}", TAG, 0);
        bad("{{=a= b=}}", TAG, 0);
        bad("{{=a =b=}}", TAG, 0);
        bad("{{=a b==}}", TAG, 0);
        bad("{{==a b=}}", TAG, 0);
        bad("{{=a\nb=}}", TAG, 0);
        bad("{{=a b\n=}}", TAG, 0);
        bad("{{=\na b=}}", TAG, 0);
        bad("{{=a \nb=}}", TAG, 0);
        bad("{{=<% %>=}}<%a", UNCLOSED, 11);
        bad("{{=<% %>=}}<%a}}", UNCLOSED, 11);
        bad("{{=< >=}}<={{ }}=>{{?}}", TAG, 18);
        good("{{=< >=}}<={{ }}=>{{a}}<");
        good("{{=aa b=}}aaab");
        for (String close : new String[] {"!", "#", "&", "^", "/", ">", "a", "."}) {
            bad("{{=< " + close + "=}}<" + close, TAG, 9);
        }
        bad("{{=ab aba=}}abaabababa", UNCLOSED, 19);
        LogicLessTemplate x = new LogicLessTemplate(64);
        Check.put(x, 0, "{{=< >=}}<a>");
        Check.put(x, 1, "<a");
        CHECK.due("P5: a switch", x.compile(0), OK);
        CHECK.due("P5: another slot starts with its own", x.compile(1), OK);
        Check.set(x, 0, "<a");
        CHECK.due("P5: the next compile starts anew", x.compile(0), OK);
    }

    private static void sections() {
        good("{{#a}}{{/a}}");
        good("{{^a}}{{/a}}");
        good("{{#a}}{{^b}}{{/b}}{{#c}}{{/c}}{{/a}}{{#d}}{{/d}}");
        good("{{#a}}{{#a}}{{/a}}{{/a}}");
        good("{{#.}}{{/.}}");
        bad("{{#a}}{{#b}}{{#c}}", NESTING, 12);
        bad("{{^a}}{{^b}}{{^c}}{{/c}}{{/b}}{{/a}}", NESTING, 12);
        bad("{{/a}}", NESTING, 0);
        bad("x{{#a}}{{/a}}{{/a}}", NESTING, 13);
        bad("{{#a}}{{/b}}", NESTING, 6);
        bad("{{#a}}{{#b}}{{/a}}{{/b}}", NESTING, 12);
        bad("{{#a}}", NESTING, 6);
        bad("{{#a}}{{^b}}{{/b}}xyz\n", NESTING, 22);
        bad("{{#.}}{{/a}}", NESTING, 6);
        compiles(3, "x".repeat(90) + "{{#a}}", NESTING, 96);
    }

    private static void partials() {
        good("{{>1}}{{> 2 }}{{>  3}}");
        for (String name : new String[] {"0", "4", "a", "", " ", "11", "1 2", ".", "-", "1\n"}) {
            bad("x{{>" + name + "}}", TAG, 1);
            compiles(1, "x{{>" + name + "}}", TAG, 1);
        }
        for (int slot = 1; slot < 4; slot++) {
            for (int named = 1; named < 4; named++) {
                compiles(slot, "ab{{>" + named + "}}", PARTIAL, 2);
            }
            compiles(slot, "ab{{!>1}}", OK, -1);
        }
    }

    private static void firstError() {
        bad("{{?}}{{/a}}{{", TAG, 0);
        bad("{{/a}}{{?}}{{", NESTING, 0);
        bad("{{#a}}{{?}}", TAG, 6);
        bad("{{#a}}{{", UNCLOSED, 6);
        bad("{{#a}}{{#b}}{{#?}}", TAG, 12);
        compiles(2, "{{>1}}{{?}}", PARTIAL, 0);
        compiles(2, "{{#a}}{{>1}}", PARTIAL, 6);
        compiles(2, "{{/a}}{{>1}}", NESTING, 0);
    }

    private static void compileChangesNothingElse() {
        LogicLessTemplate x = new LogicLessTemplate(64);
        int root = Check.str(x, "v");
        Check.put(x, 0, "{{>1}}-{{.}}");
        Check.put(x, 1, "{{?");
        Check.put(x, 2, "c");
        x.compile(0);
        x.render(root);
        x.compile(1);
        CHECK.due("P5: another slot's status", x.status(0), OK);
        CHECK.due("P5: another slot's status", x.status(2), LogicLessTemplate.ERR_NOT_COMPILED);
        CHECK.due("P5: the output", Check.out(x), "-v");
        CHECK.due("P5: the values", x.valueInfo(root, -1), 1);
        CHECK.due("P5: a partial may name a slot in error", x.compile(0), OK);
        String before = Check.state(x);
        x.compile(0);
        CHECK.due("P5: the state after the same compile", Check.state(x), before);
        Check.put(x, 1, "}}");
        CHECK.due("P5: another error", x.compile(1), TAG);
        Check.set(x, 1, "{{x}}");
        CHECK.due("P5: an error mended", x.compile(1), OK);
        CHECK.due("P5: no error position", x.errorAt(1), -1);
    }

    private static void getters() {
        LogicLessTemplate x = new LogicLessTemplate(64);
        Check.put(x, 3, "abc{{");
        x.compile(3);
        for (int slot : new int[] {-1, 4, Integer.MIN_VALUE, Integer.MAX_VALUE}) {
            CHECK.refused("P6: status(" + slot + ")", x, () -> x.status(slot), LogicLessTemplate.ERR_ARG);
            CHECK.refused("P6: errorAt(" + slot + ")", x, () -> x.errorAt(slot), -1);
        }
        CHECK.refused("P6: status(3)", x, () -> x.status(3), UNCLOSED);
        CHECK.refused("P6: errorAt(3)", x, () -> x.errorAt(3), 3);
        CHECK.refused("P6: status(2)", x, () -> x.status(2), LogicLessTemplate.ERR_NOT_COMPILED);
        CHECK.refused("P6: errorAt(2)", x, () -> x.errorAt(2), -1);
    }
}
