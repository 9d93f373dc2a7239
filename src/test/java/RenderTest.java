/** Promises 13 and 14: render, outLength and outChar; and the standalone lines of promise 5, which only a render shows. */
public final class RenderTest {
    private static final int OK = LogicLessTemplate.OK;
    private static final int OVERFLOW = LogicLessTemplate.ERR_OVERFLOW;
    private static final int TRUE = LogicLessTemplate.KIND_TRUE;
    private static final int FALSE = LogicLessTemplate.KIND_FALSE;
    private static final Check CHECK = new Check();

    public static void main(String[] args) {
        checks();
        texts();
        escapes();
        lookUps();
        sections();
        listsInLists();
        inverted();
        partials();
        delimiters();
        standaloneLines();
        standaloneAtTheCap();
        standalonePartials();
        overflow();
        overflowInside();
        longRender();
        changesBetweenRenders();
        readingTheOutput();
        CHECK.end();
    }

    private static void renders(LogicLessTemplate x, int root, String template, String want) {
        Check.set(x, 0, template);
        CHECK.due("P5: compile of " + template, x.compile(0), OK);
        CHECK.due("P13: render of " + template, x.render(root), OK);
        CHECK.due("P13: output of " + template, Check.out(x), want);
    }

    private static void checks() {
        LogicLessTemplate x = new LogicLessTemplate(64);
        CHECK.refused("P13: nothing compiled", x, () -> x.render(1), LogicLessTemplate.ERR_NOT_COMPILED);
        int root = Check.num(x, 5);
        renders(x, root, "kept {{.}}", "kept 5");
        for (int id : new int[] {0, -1, 2, 33, Integer.MIN_VALUE, Integer.MAX_VALUE}) {
            CHECK.refused("P13: root " + id, x, () -> x.render(id), LogicLessTemplate.ERR_VALUE);
        }
        Check.put(x, 0, "{{?");
        CHECK.refused("P13: changed", x, () -> x.render(root), LogicLessTemplate.ERR_NOT_COMPILED);
        CHECK.refused("P13: changed, no root", x, () -> x.render(9), LogicLessTemplate.ERR_NOT_COMPILED);
        for (String template : new String[] {"{{a", "{{?}}", "{{/a}}", "{{#a}}"}) {
            Check.set(x, 0, template);
            x.compile(0);
            CHECK.refused("P13: in error", x, () -> x.render(root), LogicLessTemplate.ERR_NOT_COMPILED);
        }
        x.clearTemplate(0);
        CHECK.refused("P13: cleared", x, () -> x.render(root), LogicLessTemplate.ERR_NOT_COMPILED);
        CHECK.due("P14: the former output", Check.out(x), "kept 5");
        x.compile(0);
        CHECK.due("P13: an empty template", x.render(root), OK);
        CHECK.due("P14: the output of an empty template", x.outLength(), 0);
        Check.set(x, 0, "abc");
        x.compile(0);
        CHECK.due("P13: a template", x.render(root), OK);
        String before = Check.state(x);
        CHECK.due("P13: once more", x.render(root), OK);
        CHECK.due("P13: the state after the same render", Check.state(x), before);
    }

    private static void texts() {
        int[] nums = {0, 7, -1, 10, -10, 100, 907, 1000000000, 2147483647, -2147483647, -2147483648, 123456789};
        for (int num : nums) {
            LogicLessTemplate x = new LogicLessTemplate(64);
            renders(x, Check.num(x, num), "{{.}}|{{&.}}", num + "|" + num);
        }
        LogicLessTemplate x = new LogicLessTemplate(64);
        int one = Check.num(x, 1);
        renders(x, x.newValue(TRUE, 9), "{{.}}|{{&.}}", "true|true");
        renders(x, x.newValue(FALSE, 9), "{{.}}|{{&.}}", "false|false");
        renders(x, Check.str(x, ""), "{{.}}|{{&.}}", "|");
        renders(x, Check.str(x, "ab cd~{}"), "{{.}}|{{&.}}", "ab cd~{}|ab cd~{}");
        renders(x, Check.list(x, one), "{{.}}|{{&.}}", "|");
        renders(x, Check.map(x, "a", one), "{{.}}|{{&.}}", "|");
        renders(x, one, "{{a}}|{{&a}}", "|");
        renders(x, one, "a{{!no {{ text}}b}}", "ab}}");
    }

    private static void escapes() {
        LogicLessTemplate x = new LogicLessTemplate(256);
        int marks = Check.str(x, "&<>\"'#;a");
        renders(x, marks, "{{.}}", "&amp;&lt;&gt;&quot;&#39;#;a");
        renders(x, marks, "{{&.}}", "&<>\"'#;a");
        renders(x, marks, "&<>\"'", "&<>\"'");
        StringBuilder template = new StringBuilder();
        for (char c = 32; c < 127; c++) {
            LogicLessTemplate y = new LogicLessTemplate(64);
            String want = "" + c;
            want = c == '&' ? "&amp;" : c == '<' ? "&lt;" : c == '>' ? "&gt;" : c == '"' ? "&quot;" : c == '\'' ? "&#39;" : want;
            renders(y, Check.str(y, "" + c), "{{ . }}{{& . }}", want + c);
            template.append(c);
        }
        renders(x, marks, template.toString(), template.toString());
    }

    private static void lookUps() {
        LogicLessTemplate x = new LogicLessTemplate(64);
        int one = Check.num(x, 1);
        int two = Check.num(x, 2);
        int inner = Check.map(x, "ab", two, two);
        int root = Check.map(x, "amcz", one, inner, one, x.newValue(FALSE, 0));
        renders(x, root, "{{a}}{{b}}{{c}}{{z}}{{y}}", "11false");
        renders(x, root, "{{#m}}{{a}}{{b}}{{c}}{{.}}{{/m}}{{a}}{{b}}", "2211");
        renders(x, root, "{{#a}}{{#m}}{{a}}{{.}}{{/m}}{{a}}{{.}}{{/a}}{{.}}", "211");
        renders(x, root, "{{#m}}{{#c}}{{a}}{{.}}{{/c}}{{/m}}", "21");
        x.setField(inner, 'a', inner);
        renders(x, root, "{{#m}}{{#a}}{{b}}{{/a}}{{a}}{{/m}}", "2");
        x.setField(root, 'c', root);
        renders(x, root, "{{#m}}{{#c}}{{b}}{{a}}{{/c}}{{/m}}", "21");
    }

    private static void sections() {
        LogicLessTemplate x = new LogicLessTemplate(64);
        int one = Check.num(x, 1);
        int no = x.newValue(FALSE, 0);
        int yes = x.newValue(TRUE, 0);
        int zero = Check.num(x, 0);
        int empty = Check.str(x, "");
        int emptyList = Check.list(x);
        int emptyMap = Check.map(x, "");
        int three = Check.list(x, one, no, yes);
        int[] values = {one, no, yes, zero, empty, emptyList, emptyMap, three};
        String[] seen = {"[1]", "", "[true]", "[0]", "[]", "", "[]", "[1][false][true]"};
        for (int i = 0; i < values.length; i++) {
            int root = Check.map(x, "v", values[i]);
            renders(x, root, "<{{#v}}[{{.}}]{{/v}}>", "<" + seen[i] + ">");
            renders(x, root, "<{{^v}}no{{/v}}>", seen[i].isEmpty() ? "<no>" : "<>");
            renders(x, values[i], "<{{#.}}[{{.}}]{{/.}}>", "<" + seen[i] + ">");
            renders(x, values[i], "<{{^.}}no{{/.}}>", seen[i].isEmpty() ? "<no>" : "<>");
        }
        renders(x, one, "<{{#v}}no{{/v}}>", "<>");
        renders(x, one, "<{{^v}}no{{.}}{{/v}}>{{.}}", "<no1>1");
        renders(x, one, "{{#v}}{{#.}}a{{/.}}{{^.}}b{{/.}}{{/v}}c", "c");
        int four = Check.list(x, one, zero, one, zero);
        renders(x, four, "{{#.}}{{.}}{{#.}},{{/.}}{{/.}}{{#.}};{{/.}}", "1,0,1,0,;;;;");
    }

    private static void listsInLists() {
        LogicLessTemplate x = new LogicLessTemplate(256);
        int one = Check.num(x, 1);
        int two = Check.num(x, 2);
        int pair = Check.list(x, one, two);
        int pairs = Check.list(x, pair, Check.list(x), pair, one);
        renders(x, pairs, "{{#.}}({{#.}}{{.}}{{/.}}{{^.}}-{{/.}}){{/.}}", "(12)(-)(12)(1)");
        int root = Check.map(x, "ab", pairs, pair);
        renders(x, root, "{{#a}}{{#b}}{{.}}{{/b}};{{/a}}", "12;12;12;12;");
        int self = Check.list(x);
        x.addItem(self, self);
        x.addItem(self, one);
        renders(x, self, "{{#.}}<{{#.}}({{.}}){{/.}}>{{/.}}", "<()(1)><(1)>");
        int maps = Check.list(x, Check.map(x, "n", one), Check.map(x, "n", two), Check.map(x, "z", two));
        int top = Check.map(x, "ln", maps, pair);
        renders(x, top, "{{#l}}{{n}}{{#n}}{{.}},{{/n}};{{/l}}", "11,;22,;1,2,;");
    }

    private static void inverted() {
        LogicLessTemplate x = new LogicLessTemplate(64);
        int one = Check.num(x, 1);
        int two = Check.num(x, 2);
        int inner = Check.map(x, "a", two);
        int root = Check.map(x, "am", one, inner);
        renders(x, root, "{{^z}}{{a}}{{#m}}{{a}}{{/m}}{{a}}{{/z}}{{a}}", "1211");
        renders(x, root, "{{#m}}{{^z}}{{a}}{{.}}{{/z}}{{a}}{{/m}}{{a}}", "221");
        renders(x, root, "{{#a}}{{^z}}{{.}}{{/z}}{{.}}{{/a}}", "11");
        renders(x, root, "{{^z}}{{^y}}{{a}}{{/y}}{{/z}}", "1");
        renders(x, root, "{{^a}}{{^z}}x{{/z}}{{#a}}x{{/a}}{{/a}}y", "y");
    }

    private static void partials() {
        LogicLessTemplate x = new LogicLessTemplate(64);
        int one = Check.num(x, 1);
        int two = Check.num(x, 2);
        int pair = Check.list(x, one, two);
        int root = Check.map(x, "apm", one, pair, Check.map(x, "a", two));
        renders(x, root, "<{{>1}}>", "<>");
        Check.put(x, 1, "({{a}})");
        renders(x, root, "<{{>1}}>", "<>");
        x.compile(1);
        renders(x, root, "<{{>1}}{{> 1 }}{{>2}}>", "<(1)(1)>");
        renders(x, root, "{{#m}}{{>1}}{{/m}}{{>1}}", "(2)(1)");
        Check.put(x, 2, "{{#p}}{{#p}}{{.}}{{/p}};{{/p}}");
        x.compile(2);
        renders(x, root, "{{#p}}{{#m}}{{>2}}{{a}}{{/m}}{{/p}}{{>1}}", "12;12;212;12;2(1)");
        Check.put(x, 3, "{{=< >=}}<a>{{a}}<{{}}>");
        CHECK.due("P13: a partial in error", x.compile(3), LogicLessTemplate.ERR_TAG);
        renders(x, root, "{{>3}}{{a}}", "1");
        Check.set(x, 3, "{{=< >=}}<a>{{a}}");
        x.compile(3);
        renders(x, root, "{{>3}}{{a}}", "1{{a}}1");
        renders(x, root, "{{=| |=}}|>3||a||>1|", "1{{a}}1(1)");
        x.putChars(1, '!');
        CHECK.due("P13: render", x.render(root), OK);
        CHECK.due("P13: a partial changed since", Check.out(x), "1{{a}}1");
        x.compile(1);
        x.render(root);
        CHECK.due("P13: a partial compiled again", Check.out(x), "1{{a}}1(1)!");
        x.clearTemplate(1);
        x.compile(1);
        renders(x, root, "<{{>1}}>", "<>");
    }

    private static void delimiters() {
        LogicLessTemplate x = new LogicLessTemplate(64);
        int root = Check.map(x, "a", Check.num(x, 1));
        renders(x, root, "{{a}}{{=<% %>=}}{{a}}<%a%><%={{ }}=%>{{a}}<%a%>", "1{{a}}11<%a%>");
        renders(x, root, "{{=| |=}}|#a||.||/a|-|!x|-|&a|", "1--1");
        renders(x, root, "{{=<<< >=}}<<a<<<a>>", "<<a1>");
    }

    private static void standaloneLines() {
        LogicLessTemplate x = new LogicLessTemplate(64);
        int root = Check.map(x, "ab", Check.num(x, 1), Check.list(x, Check.num(x, 3), Check.num(x, 4)));
        renders(x, root, "x\n{{!c}}\ny", "x\ny");
        renders(x, root, "x\n  {{!c}}   \ny", "x\ny");
        renders(x, root, "{{!c}}\ny", "y");
        renders(x, root, "{{!c}}", "");
        renders(x, root, "  {{!c}}  ", "");
        renders(x, root, "\n{{!c}}", "\n");
        renders(x, root, "\n\n  {{!c}}  \n\n", "\n\n\n");
        renders(x, root, "x {{!c}}\ny", "x \ny");
        renders(x, root, "{{!c}} x\ny", " x\ny");
        renders(x, root, "{{!c}} {{!c}}\ny", " \ny");
        renders(x, root, "  {{a}}  \n  {{&a}}\n", "  1  \n  1\n");
        renders(x, root, " {{!c\n  d}} \ny", "y");
        renders(x, root, "{{!c\n}} {{!d}}\ny", " \ny");
        renders(x, root, "x{{!c\n}}\ny", "x\ny");
        renders(x, root, " {{#b}} \n {{.}}\n {{/b}} \nz", " 3\n 4\nz");
        renders(x, root, "{{#b}}\n{{/b}}\nz", "z");
        renders(x, root, "{{#b}}{{/b}}\nz", "\nz");
        renders(x, root, "{{#b}}-{{/b}}\nz", "--\nz");
        renders(x, root, "{{#b}}\n-{{/b}}\nz", "--\nz");
        renders(x, root, "{{^z}}\n-\n{{/z}}\nz", "-\nz");
        renders(x, root, "{{#a}}\n\n{{/a}}", "\n");
        renders(x, root, " {{=< >=}} \n <a> \n <!c> ", " 1 \n");
        renders(x, root, " {{=< >=}}x\n", " x\n");
        renders(x, root, " {{>1}} \nz", "z");
        renders(x, root, "-{{>1}} \nz", "- \nz");
        renders(x, root, "{{#z}}\n  {{!c}}\n x\n{{/z}}\nw", "w");
        renders(x, root, "  {{!c}}\n", "");
        renders(x, root, "  plain  \n", "  plain  \n");
    }

    /** A standalone tag that ends a full slot removes nothing of the next slot. */
    private static void standaloneAtTheCap() {
        LogicLessTemplate x = new LogicLessTemplate(256);
        int root = Check.num(x, 1);
        String full = "x".repeat(88) + "\n{{!c}} ";
        for (int slot = 3; slot >= 1; slot--) {
            Check.put(x, slot, full);
            CHECK.due("P5: compile of a full slot", x.compile(slot), OK);
        }
        for (int slot = 1; slot <= 3; slot++) {
            renders(x, root, "{{>" + slot + "}}", "x".repeat(88) + "\n");
        }
        renders(x, root, full, "x".repeat(88) + "\n");
        renders(x, root, "{{>1}}", "x".repeat(88) + "\n");
    }

    private static void standalonePartials() {
        LogicLessTemplate x = new LogicLessTemplate(64);
        int root = Check.map(x, "a", Check.num(x, 1));
        Check.put(x, 1, " {{!c}} \n p{{a}}");
        x.compile(1);
        renders(x, root, "x\n  {{>1}}  \ny\n", "x\n p1y\n");
        renders(x, root, "x {{>1}}  \ny\n", "x  p1  \ny\n");
        Check.set(x, 2, " {{!c}} \n p{{a}}");
        x.compile(2);
        Check.set(x, 2, "abcdefghijklmnop");
        x.compile(2);
        renders(x, root, "{{>2}}", "abcdefghijklmnop");
    }

    private static void overflows(LogicLessTemplate x, int root, String template, String want) {
        Check.set(x, 0, template);
        CHECK.due("P5: compile of " + template, x.compile(0), OK);
        CHECK.due("P13: render of " + template, x.render(root), OVERFLOW);
        CHECK.due("P13: output of " + template, Check.out(x), want);
        CHECK.due("P14: after the last character", x.outChar(x.outLength()), -1);
        CHECK.due("P13: status after an overflow", x.status(0), OK);
    }

    private static void overflow() {
        LogicLessTemplate x = new LogicLessTemplate(16);
        int root = Check.num(x, -123);
        String fifteen = "abcdefghijklmno";
        renders(x, root, fifteen, fifteen);
        renders(x, root, fifteen + "p", fifteen + "p");
        overflows(x, root, fifteen + "pq", fifteen + "p");
        renders(x, root, fifteen + "p{{!c}}{{a}}{{#a}}x{{/a}}{{>1}}", fifteen + "p");
        renders(x, root, fifteen + "p{{=< >=}}<a>", fifteen + "p");
        overflows(x, root, fifteen + "p\n {{!c}}", fifteen + "p");
        renders(x, root, "abcdefghijklmn\n\n {{!c}} \n", "abcdefghijklmn\n\n");
        renders(x, root, "abcdefghijkl{{.}}", "abcdefghijkl-123");
        overflows(x, root, "abcdefghijklm{{.}}", "abcdefghijklm-12");
        overflows(x, root, fifteen + "{{&.}}zz{{.}}", fifteen + "-");
        renders(x, root, "short", "short");
        LogicLessTemplate full = new LogicLessTemplate(1000);
        int four = Check.list(full);
        for (int i = 0; i < 4; i++) {
            full.addItem(four, four);
        }
        renders(full, four, "{{#.}}{{#.}}0123456789abcdef{{/.}}{{/.}}", "0123456789abcdef".repeat(16));
        overflows(full, four, "{{#.}}{{#.}}0123456789abcdef{{/.}}{{/.}}x", "0123456789abcdef".repeat(16));
    }

    private static void overflowInside() {
        LogicLessTemplate x = new LogicLessTemplate(17);
        int marks = Check.str(x, "\"&");
        renders(x, marks, "abcdef{{.}}", "abcdef&quot;&amp;");
        overflows(x, marks, "abcdefg{{.}}", "abcdefg&quot;&amp");
        overflows(x, marks, "abcdefghijklm{{.}}", "abcdefghijklm&quo");
        overflows(x, marks, "abcdefghijklmnopq{{.}}", "abcdefghijklmnopq");
        overflows(x, marks, "{{#.}}abcdefghijklmnopqr{{/.}}s", "abcdefghijklmnopq");
        renders(x, marks, "{{#.}}abc{{/.}}s{{^.}}t{{/.}}", "abcs");
        Check.put(x, 1, "abcdefghijklmnopqr");
        x.compile(1);
        overflows(x, marks, "{{>1}}", "abcdefghijklmnopq");
        renders(x, marks, "abc", "abc");
        int no = x.newValue(FALSE, 0);
        overflows(x, no, "abcdefghijklmn{{.}}", "abcdefghijklmnfal");
        // A value whose text is empty emits nothing, even into a full output.
        renders(x, Check.str(x, ""), "abcdefghijklmnopq{{.}}", "abcdefghijklmnopq");
    }

    /** About the longest way through two slots that emits next to nothing. */
    private static void longRender() {
        LogicLessTemplate x = new LogicLessTemplate(16);
        int self = Check.list(x);
        for (int i = 0; i < 4; i++) {
            x.addItem(self, self);
        }
        Check.put(x, 1, "{{=< >=}}\n<#.>\n<#.>\n" + " ".repeat(63) + "<!>\n</.>\n</.>");
        CHECK.due("P5: compile of a full slot", x.compile(1), OK);
        renders(x, self, "{{=| |=}}|#.||#.|" + "|>1|".repeat(17) + "|/.||/.|x", "x");
    }

    private static void changesBetweenRenders() {
        LogicLessTemplate x = new LogicLessTemplate(64);
        int text = Check.str(x, "a");
        int list = Check.list(x, text);
        int root = Check.map(x, "lt", list, text);
        renders(x, root, "{{t}}{{#l}}[{{.}}]{{/l}}{{u}}", "a[a]");
        x.appendChar(text, 'b');
        x.addItem(list, text);
        x.setField(root, 'u', text);
        CHECK.due("P14: values alone do not change the output", Check.out(x), "a[a]");
        CHECK.due("P13: render again", x.render(root), OK);
        CHECK.due("P13: values as they are now", Check.out(x), "ab[ab][ab]ab");
        x.setField(root, 't', Check.num(x, 9));
        CHECK.due("P13: render again", x.render(root), OK);
        CHECK.due("P13: a field as it is now", Check.out(x), "9[ab][ab]ab");
        CHECK.due("P13: another root", x.render(text), OK);
        CHECK.due("P13: output of another root", Check.out(x), "");
    }

    private static void readingTheOutput() {
        LogicLessTemplate x = new LogicLessTemplate(64);
        CHECK.due("P14: fresh outLength", x.outLength(), 0);
        for (int i : new int[] {0, -1, 1, Integer.MIN_VALUE, Integer.MAX_VALUE}) {
            CHECK.due("P14: fresh outChar(" + i + ")", x.outChar(i), -1);
        }
        int root = Check.num(x, 5);
        renders(x, root, "long text\n{{.}}", "long text\n5");
        renders(x, root, "ab{{.}}", "ab5");
        CHECK.refused("P14: outLength", x, x::outLength, 3);
        CHECK.refused("P14: outChar(0)", x, () -> x.outChar(0), 'a');
        CHECK.refused("P14: outChar(2)", x, () -> x.outChar(2), '5');
        for (int i : new int[] {-1, 3, 4, 63, 64, 256, 1000, Integer.MIN_VALUE, Integer.MAX_VALUE}) {
            CHECK.refused("P14: outChar(" + i + ")", x, () -> x.outChar(i), -1);
        }
        renders(x, root, "{{a}}", "");
        CHECK.due("P14: nothing emitted", x.outLength(), 0);
        CHECK.due("P14: nothing to read", x.outChar(0), -1);
    }
}
