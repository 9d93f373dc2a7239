/** Promises 5 and 6, sentence by sentence: what lies on, just inside and just outside each edge. */
public final class CompileEdgeTest {
    private static final int OK = LogicLessTemplate.OK;
    private static final int UNCLOSED = LogicLessTemplate.ERR_UNCLOSED;
    private static final int TAG = LogicLessTemplate.ERR_TAG;
    private static final int NESTING = LogicLessTemplate.ERR_NESTING;
    private static final int PARTIAL = LogicLessTemplate.ERR_PARTIAL;
    private static final Check CHECK = new Check();

    public static void main(String[] args) {
        noSlot();
        everyCompileStartsAnew();
        marksLieInTheText();
        marksLieInTheTextOfToday();
        noOpenMark();
        noCloseMark();
        closeAfterOpen();
        emptyContent();
        anyComment();
        delimitersNeedThreeCharacters();
        delimitersOfOneToThree();
        delimiterCharacters();
        delimitersFromTheNextSearchOn();
        delimitersUpToTheEnd();
        spacesAroundANameUpToTheCap();
        partialNames();
        twoOpenAtMost();
        closesTheLastOpened();
        stillOpenAtTheEnd();
        partialsInSlot0Only();
        firstErrorMet();
        standaloneLines();
        variablesAreNeverStandalone();
        oneNewlineIsRemoved();
        tagsOverMoreLines();
        standaloneInAFullText();
        statusAndErrorPosition();
        nothingElseChanges();
        noOtherSlotIsRead();
        statusOfNoSlot();
        statusOfEverySlot();
        CHECK.end();
    }

    private static void compiles(int slot, String text, int result, int at) {
        LogicLessTemplate x = new LogicLessTemplate(16);
        Check.put(x, slot, text);
        String call = "P5: compile of \"" + text + "\" in slot " + slot;
        CHECK.due(call, x.compile(slot), result);
        CHECK.due(call + ", status", x.status(slot), result);
        CHECK.due(call + ", errorAt", x.errorAt(slot), at);
    }

    private static void good(String text) {
        compiles(0, text, OK, -1);
    }

    private static void bad(String text, int result, int at) {
        compiles(0, text, result, at);
    }

    /** What slot 0 shows with the letters a to c holding 1, a list of two, and FALSE. */
    private static void shows(String text, String want) {
        LogicLessTemplate x = new LogicLessTemplate(256);
        int one = Check.num(x, 1);
        int two = Check.list(x, one, one);
        int root = Check.map(x, "abc", one, two, x.newValue(LogicLessTemplate.KIND_FALSE, 0));
        Check.put(x, 0, text);
        CHECK.due("P5: compile of \"" + text + "\"", x.compile(0), OK);
        x.render(root);
        CHECK.due("P5: output of \"" + text + "\"", Check.out(x), want);
    }

    private static String x(int count) {
        return "x".repeat(count);
    }

    /** "answers ERR_ARG if slot is outside 0..3, and nothing changes" */
    private static void noSlot() {
        for (int which = 0; which < 2; which++) {
            LogicLessTemplate x = which == 0 ? Fixture.busy(CHECK).real() : Fixture.full(CHECK).real();
            for (int slot : Fixture.NO_SLOTS) {
                CHECK.refused("P5: compile(" + slot + ")", x, () -> x.compile(slot), LogicLessTemplate.ERR_ARG);
            }
        }
    }

    /** "At the start of every compile, O is {{ .., C is }} .., p = 0 and no section is open." */
    private static void everyCompileStartsAnew() {
        String[] before = {"{{=< >=}}", "{{=<<< >>>=}}", "{{=<<< >>>=}}<<<?>>>", "{{#a}}", "{{#a}}{{#b}}",
            "{{#a}}{{#b}}{{#c}}", "{{#a}}{{", "{{^a}}{{?}}"};
        for (String text : before) {
            for (int slot = 0; slot < 4; slot++) {
                for (int next = 0; next < 4; next++) {
                    LogicLessTemplate x = new LogicLessTemplate(16);
                    Check.put(x, slot, text);
                    int result = x.compile(slot);
                    CHECK.due("P5: the same once more", x.compile(slot), result);
                    Check.set(x, next, "{{#a}}{{#b}}{{.}}{{/b}}{{/a}}");
                    CHECK.due("P5: two sections after " + text, x.compile(next), OK);
                    Check.set(x, next, "{{/a}}");
                    CHECK.due("P5: a close after " + text, x.compile(next), NESTING);
                    Check.set(x, next, "<?><<<?>>>");
                    CHECK.due("P5: other marks after " + text, x.compile(next), OK);
                    Check.set(x, next, "ab{{?}}");
                    CHECK.due("P5: an error after " + text, x.compile(next), TAG);
                    CHECK.due("P5: its place after " + text, x.errorAt(next), 2);
                }
            }
        }
    }

    /** "A string occurs at index x when all of its characters lie in T starting at x": none lies in the next slot. */
    private static void marksLieInTheText() {
        for (int slot = 0; slot < 3; slot++) {
            beside(slot, x(95) + "{", "{a}}", OK, -1);
            beside(slot, x(92) + "{{a}", "}", UNCLOSED, 92);
            beside(slot, x(93) + "{{a", "}}", UNCLOSED, 93);
            beside(slot, x(94) + "{{", "a}}", UNCLOSED, 94);
            beside(slot, "{{=<<< >>>=}}" + x(81) + "<<", "<?>>>", OK, -1);
            beside(slot, "{{=<<< >>>=}}" + x(82) + "<", "<<?>>>", OK, -1);
            beside(slot, "{{=<<< >>>=}}" + x(77) + "<<<a>>", ">", UNCLOSED, 90);
            beside(slot, x(91) + "{{a}}", "{{", OK, -1);
            beside(slot, x(90) + "{{!}} ", "\n", OK, -1);
        }
        bad("{{a}", UNCLOSED, 0);
        good("{");
        good("a{");
    }

    private static void beside(int slot, String text, String next, int result, int at) {
        LogicLessTemplate x = new LogicLessTemplate(16);
        Check.put(x, slot, text);
        Check.put(x, slot + 1, next);
        CHECK.due("P5: length of " + text, x.templateLength(slot), 96);
        CHECK.due("P5: compile of " + text + " beside " + next, x.compile(slot), result);
        CHECK.due("P5: errorAt of " + text + " beside " + next, x.errorAt(slot), at);
    }

    /** As before, with what the slot held before a clear. */
    private static void marksLieInTheTextOfToday() {
        for (int slot = 0; slot < 4; slot++) {
            LogicLessTemplate x = new LogicLessTemplate(16);
            Check.put(x, slot, "{{a}}{{a}}\n\n{{!c}} \n");
            CHECK.due("P5: compile", x.compile(slot), OK);
            Check.set(x, slot, "{");
            CHECK.due("P5: compile of half an open mark", x.compile(slot), OK);
            Check.set(x, slot, "{{");
            CHECK.due("P5: compile of an open mark", x.compile(slot), UNCLOSED);
            Check.set(x, slot, "{{a}");
            CHECK.due("P5: compile of half a close mark", x.compile(slot), UNCLOSED);
            CHECK.due("P5: its place", x.errorAt(slot), 0);
            x.putChars(slot, '}');
            CHECK.due("P5: compile of a tag", x.compile(slot), OK);
            x.clearTemplate(slot);
            CHECK.due("P5: compile of an empty text", x.compile(slot), OK);
        }
    }

    /** "If there is none, T[p..n-1] is literal text": of an empty, a short and a full text. */
    private static void noOpenMark() {
        shows("", "");
        shows("}", "}");
        shows("{", "{");
        shows(x(96), x(96));
        shows("}}{ {".repeat(19) + "\n", "}}{ {".repeat(19) + "\n");
        shows("{{a}}" + x(91), "1" + x(91));
        shows(x(91) + "{{a}}", x(91) + "1");
    }

    /** "If there is none, the result is ERR_UNCLOSED at q": at the first and at the last index that q can have. */
    private static void noCloseMark() {
        for (int q = 0; q <= 94; q++) {
            bad(x(q) + "{{", UNCLOSED, q);
            bad(x(q) + "{{" + "}y".repeat((94 - q) / 2), UNCLOSED, q);
        }
        bad("}}".repeat(47) + "{{", UNCLOSED, 94);
        bad("{{=| |=}}" + x(86) + "|", UNCLOSED, 95);
        bad("{{" + x(94), UNCLOSED, 0);
        bad("{{=<<< >>>=}}" + x(80) + "<<<", UNCLOSED, 93);
    }

    /** "r is the least index >= q + |O| at which C occurs": the close mark takes nothing of the open mark. */
    private static void closeAfterOpen() {
        bad("{{=| |=}}|", UNCLOSED, 9);
        bad("{{=| |=}}||", TAG, 9);
        good("{{=| |=}}|a|");
        bad("{{=aa aa=}}aaa", UNCLOSED, 11);
        bad("{{=aa aa=}}aaaa", TAG, 11);
        bad("{{=ab b=}}ab", UNCLOSED, 10);
        bad("{{=ab b=}}abb", TAG, 10);
        bad("{{=abc bc=}}abc", UNCLOSED, 12);
        bad("{{=<<< <<<=}}<<<<<", UNCLOSED, 13);
        bad("{{=<<< <<<=}}<<<<<<", TAG, 13);
        good("{{=<<< <<<=}}<<<a<<<");
        bad("{{}", UNCLOSED, 0);
        shows("{{a}}}", "1}");
        shows("{{=| |=}}|a||a|", "11");
        shows("{{=< a=}}<!a<!aa", "a");
    }

    /** "Any other first character, or K empty: escaped variable; trim(K) must be a NAME." */
    private static void emptyContent() {
        for (int slot = 0; slot < 4; slot++) {
            compiles(slot, "{{}}", TAG, 0);
            compiles(slot, "x{{ }}", TAG, 1);
            compiles(slot, x(92) + "{{}}", TAG, 92);
            compiles(slot, "{{" + " ".repeat(92) + "}}", TAG, 0);
            compiles(slot, "{{}}}}", TAG, 0);
        }
        // The character after an empty content is the close mark's, and does not class the tag.
        for (String close : new String[] {"!", "#", "^", "/", "&", ">", "a", ".", "!a", "&a", "#a", ">1"}) {
            bad("{{=< " + close + "=}}<" + close, TAG, 8 + close.length());
            bad("{{=< " + close + "=}}< " + close, TAG, 8 + close.length());
        }
        for (String first : new String[] {"#", "^", "/", "&", ">", "="}) {
            bad("{{" + first + "}}", TAG, 0);
            bad("{{" + first + " }}", TAG, 0);
            bad("{{" + first + "  }}", TAG, 0);
        }
    }

    /** "'!' comment: any content." */
    private static void anyComment() {
        good("{{!}}");
        good("{{!" + x(91) + "}}");
        good("{{!\n}}");
        for (char c = 10; c <= 126; c = c == 10 ? ' ' : (char) (c + 1)) {
            shows("{{!" + c + "}}-", c == '}' ? "}-" : "-");
        }
        shows("{{! {{a}}-{{!}}", "-");
        bad("{{! {{a} }", UNCLOSED, 0);
    }

    /** "K has length >= 3 and ends with '='." */
    private static void delimitersNeedThreeCharacters() {
        bad("{{=}}", TAG, 0);
        bad("{{==}}", TAG, 0);
        bad("{{= =}}", TAG, 0);
        bad("{{=a=}}", TAG, 0);
        bad("{{=a =}}", TAG, 0);
        bad("{{= a=}}", TAG, 0);
        good("{{=a b=}}");
        bad("{{=a b}}", TAG, 0);
        bad("{{=a bc}}", TAG, 0);
        bad("{{=a b }}", TAG, 0);
        bad("{{=a b= }}", TAG, 0);
        bad("{{=a b=.}}", TAG, 0);
        bad("{{=a b==}}", TAG, 0);
        bad("{{=a b =.}}", TAG, 0);
    }

    /** "must be A, then one or more SPACES, then B. A and B are 1..3 characters each" */
    private static void delimitersOfOneToThree() {
        for (int a = 0; a <= 5; a++) {
            for (int b = 0; b <= 5; b++) {
                for (int between = 0; between <= 3; between++) {
                    boolean holds = a >= 1 && a <= 3 && b >= 1 && b <= 3 && between >= 1;
                    String marks = "<".repeat(a) + " ".repeat(between) + ">".repeat(b);
                    bad("x{{=" + marks + "=}}", holds ? OK : TAG, holds ? -1 : 1);
                    bad("x{{= " + marks + "=}}", holds ? OK : TAG, holds ? -1 : 1);
                    bad("x{{=" + marks + "  =}}", holds ? OK : TAG, holds ? -1 : 1);
                    if (holds) {
                        String tag = "<".repeat(a) + "a" + ">".repeat(b);
                        shows("{{= " + marks + " =}}" + tag + "{{a}}", "1{{a}}");
                    }
                }
            }
        }
        bad("{{=a b c=}}", TAG, 0);
        good("{{=" + " ".repeat(28) + "a" + " ".repeat(30) + "b" + " ".repeat(30) + "=}}");
    }

    /** "all in 33..126 and none '='": every character at every place of A and of B. */
    private static void delimiterCharacters() {
        for (char c = 10; c <= 126; c = c == 10 ? ' ' : (char) (c + 1)) {
            boolean holds = c > 32 && c != '=';
            delimiter("" + c, ">", holds);
            delimiter(c + "yz", ">", holds || c == ' ');
            delimiter("y" + c + "z", ">", holds);
            delimiter("yz" + c, ">", holds || c == ' ');
            delimiter("<", "" + c, holds);
            delimiter("<", c + "yz", holds || c == ' ');
            delimiter("<", "y" + c + "z", holds);
            delimiter("<", "yz" + c, holds || c == ' ');
        }
    }

    private static void delimiter(String a, String b, boolean holds) {
        bad("{{=" + a + " " + b + "=}}", holds ? OK : TAG, holds ? -1 : 0);
    }

    /** "This tag itself is found and ended with the old O and C ..; A and B are used from the next search (after p = e) on." */
    private static void delimitersFromTheNextSearchOn() {
        shows("{{=< >=}}<a>", "1");
        shows("{{=} {=}}}a{", "1");
        shows("{{=! ~=}}{{a}}!a~", "{{a}}1");
        shows("{{=| |=}}|=<% %>=|<%a%>|a|{{a}}", "1|a|{{a}}");
        shows("{{={ }=}}{a}{={{ |=}{{a|{a}", "11{a}");
        shows("{{a}}<a>{{=< >=}}{{a}}<a>", "1<a>{{a}}1");
        bad("{{=< >=}}<", UNCLOSED, 9);
        bad("{{=< >=}", UNCLOSED, 0);
        bad("{{=< >=>", UNCLOSED, 0);
        bad("{{=< >=}}<?>", TAG, 9);
        bad("{{=< >=}}<=a=>", TAG, 9);
        bad("{{=< >=}}</a>", NESTING, 9);
    }

    /** What it is: "from that tag on, until the next set-delimiter tag or the end of the text" */
    private static void delimitersUpToTheEnd() {
        String rest = "<a>".repeat(29);
        shows("{{=< >=}}" + rest, "1".repeat(29));
        good("{{=< >=}}" + "{{".repeat(43));
        bad("{{=< >=}}" + "{{".repeat(43) + "<", UNCLOSED, 95);
        shows("{{=< >=}}<#a>{{<a>}}</a><={{ }}=>{{#b}}<a>{{/b}}", "{{1}}<a><a>");
    }

    /** "trim(X) is X without its leading and trailing SPACES": none, one, and as many as a text holds. */
    private static void spacesAroundANameUpToTheCap() {
        String[] firsts = {"", "&", "#", "^", ">"};
        for (String first : firsts) {
            String name = first.equals(">") ? "1" : "a";
            String close = first.equals("#") || first.equals("^") ? "{{/a}}" : "";
            int room = 96 - 5 - first.length() - close.length();
            for (int left : new int[] {0, 1, room / 2, room - 1, room}) {
                String tag = "{{" + first + " ".repeat(left) + name + " ".repeat(room - left) + "}}";
                good(tag + close);
                if (left < room) {
                    bad("{{" + first + " ".repeat(left) + name + name + " ".repeat(room - left - 1) + "}}", TAG, 0);
                }
            }
        }
        good("{{#a}}{{/" + " ".repeat(40) + "a" + " ".repeat(40) + "}}");
        bad("{{#a}}{{/a a}}", TAG, 6);
        bad("{{a .}}", TAG, 0);
    }

    /** "the trim of K without its first character is one character of codes 49..51 ('1'..'3')" */
    private static void partialNames() {
        for (char c = 10; c <= 126; c = c == 10 ? ' ' : (char) (c + 1)) {
            boolean holds = c >= 49 && c <= 51;
            compiles(0, "x{{>" + c + "}}", holds ? OK : TAG, holds ? -1 : 1);
            compiles(0, "x{{> " + c + " }}", holds ? OK : TAG, holds ? -1 : 1);
            compiles(2, "x{{>" + c + "}}", holds ? PARTIAL : TAG, 1);
        }
        bad("{{>12}}", TAG, 0);
        bad("{{>1 1}}", TAG, 0);
        bad("{{>>1}}", TAG, 0);
    }

    /** "if 2 sections are already open, ERR_NESTING at q" */
    private static void twoOpenAtMost() {
        String[] opens = {"{{#a}}", "{{^a}}", "{{#.}}", "{{^z}}"};
        String[] closes = {"{{/a}}", "{{/a}}", "{{/.}}", "{{/z}}"};
        for (int slot = 0; slot < 4; slot++) {
            for (int i = 0; i < 4; i++) {
                for (int j = 0; j < 4; j++) {
                    compiles(slot, opens[i] + closes[i], OK, -1);
                    compiles(slot, opens[i] + opens[j] + closes[j] + closes[i], OK, -1);
                    compiles(slot, opens[i] + opens[j] + closes[j] + opens[j] + closes[j] + closes[i] + opens[j] + closes[j], OK, -1);
                    for (int k = 0; k < 4; k++) {
                        compiles(slot, opens[i] + opens[j] + opens[k] + closes[k] + closes[j] + closes[i], NESTING, 12);
                    }
                }
            }
        }
        bad("{{#a}}{{#b}}" + x(78) + "{{#c}}", NESTING, 90);
    }

    /** "if none is open, or the last opened one has another NAME, ERR_NESTING at q" */
    private static void closesTheLastOpened() {
        for (char name = 'a' - 1; name <= 'z'; name++) {
            char opened = name < 'a' ? '.' : name;
            for (char close = 'a' - 1; close <= 'z'; close++) {
                char closed = close < 'a' ? '.' : close;
                int want = opened == closed ? OK : NESTING;
                bad("-{{#" + opened + "}}{{/" + closed + "}}", want, want == OK ? -1 : 7);
                bad("-{{^" + opened + "}}{{/" + closed + "}}", want, want == OK ? -1 : 7);
            }
        }
        bad("{{/a}}", NESTING, 0);
        bad(x(90) + "{{/a}}", NESTING, 90);
        bad("{{#a}}{{/a}}{{/a}}", NESTING, 12);
        bad("{{#a}}{{#b}}{{/a}}{{/b}}", NESTING, 12);
        bad("{{#a}}{{#b}}{{/b}}{{/b}}", NESTING, 18);
        bad("{{#a}}{{#b}}{{/b}}{{/a}}{{/a}}", NESTING, 24);
        bad("{{#b}}{{#a}}{{/a}}{{#a}}{{/b}}{{/a}}", NESTING, 24);
        shows("{{#a}}{{#a}}-{{/a}}+{{/a}}", "-+");
        shows("{{#b}}({{#a}}-{{/a}}){{/b}}", "(-)(-)");
    }

    /** "After the loop, a section still open gives ERR_NESTING at n." */
    private static void stillOpenAtTheEnd() {
        for (int n = 6; n <= 96; n++) {
            bad("{{#a}}" + x(n - 6), NESTING, n);
            bad(x(n - 6) + "{{^a}}", NESTING, n);
        }
        for (int slot = 0; slot < 4; slot++) {
            compiles(slot, "{{#a}}{{#b}}" + x(84), NESTING, 96);
            compiles(slot, "{{#a}}{{#b}}{{/b}}" + x(78), NESTING, 96);
            compiles(slot, "{{#a}}{{/a}}" + x(84), OK, -1);
        }
    }

    /** "Partial in a slot other than 0: ERR_PARTIAL at q." */
    private static void partialsInSlot0Only() {
        for (int named = 1; named <= 3; named++) {
            compiles(0, "{{>" + named + "}}", OK, -1);
            compiles(0, x(90) + "{{>" + named + "}}", OK, -1);
            for (int slot = 1; slot <= 3; slot++) {
                compiles(slot, "{{>" + named + "}}", PARTIAL, 0);
                compiles(slot, x(90) + "{{> " + named + "}", UNCLOSED, 90);
                compiles(slot, x(90) + "{{>" + named + "}}", PARTIAL, 90);
                compiles(slot, "{{=< >=}}<>" + named + ">", TAG, 9);
                compiles(slot, "{{=< |=}}<>" + named + "|", PARTIAL, 9);
            }
        }
    }

    /** "The first error met in this order is the result." */
    private static void firstErrorMet() {
        String[] wrong = {"{{?}}", "{{/b}}", "{{>1}}", "{{"};
        int[] results = {TAG, NESTING, PARTIAL, UNCLOSED};
        for (int slot = 1; slot < 4; slot++) {
            for (int i = 0; i < wrong.length; i++) {
                for (int j = 0; j < wrong.length; j++) {
                    boolean last = i == 3;
                    String text = last ? "ab{{a}}" + wrong[3] + wrong[j].replace("}}", "") : "ab{{a}}" + wrong[i] + wrong[j];
                    compiles(slot, text, results[i], 7);
                    compiles(slot, "{{#a}}-" + wrong[i] + (last ? "" : wrong[j]), results[i], 7);
                }
            }
            compiles(slot, "{{>4}}", TAG, 0);
            compiles(slot, "{{>1", UNCLOSED, 0);
            compiles(slot, "{{#a}}{{#b}}{{#?}}", TAG, 12);
            compiles(slot, "{{#a}}{{/?}}", TAG, 6);
            compiles(slot, "{{#a}}{{#b}}{{#c", UNCLOSED, 12);
        }
    }

    // The six classes that may be standalone; what must stand before and after the tag's line, and what each shows.
    private static final String[] TAGS = {"{{!c}}", "{{=< >=}}", "{{#a}}", "{{^c}}", "{{/a}}", "{{>1}}"};
    private static final String[] LEAD = {"", "", "", "", "{{#a}}i", ""};
    private static final String[] LEAD_SHOWN = {"", "", "", "", "i", ""};
    private static final String[] TAIL = {"", "", "o{{/a}}", "o{{/c}}", "", ""};
    private static final String[] TAIL_SHOWN = {"", "", "o", "o", "", ""};

    /** "The tag is standalone when T[ls..q-1] and T[e..le-1] are all SPACES. Either part may be empty." and what is removed then. */
    private static void standaloneLines() {
        String[] befores = {"", " ", "    ", "x", " x", "x ", "  x  "};
        String[] afters = {"", " ", "    ", "x", " x", "x ", "  x  "};
        for (int kind = 0; kind < TAGS.length; kind++) {
            for (String before : befores) {
                for (String after : afters) {
                    boolean alone = before.trim().isEmpty() && after.trim().isEmpty();
                    String line = before + TAGS[kind] + after;
                    String shown = before + after;
                    // In the midst of the text, and, where the class allows it, as its first, last and only line.
                    shows(LEAD[kind] + "p\n" + line + "\nq" + TAIL[kind],
                        LEAD_SHOWN[kind] + "p\n" + (alone ? "" : shown + "\n") + "q" + TAIL_SHOWN[kind]);
                    if (LEAD[kind].isEmpty()) {
                        shows(line + "\nq" + TAIL[kind], (alone ? "" : shown + "\n") + "q" + TAIL_SHOWN[kind]);
                    }
                    if (TAIL[kind].isEmpty()) {
                        shows(LEAD[kind] + "p\n" + line, LEAD_SHOWN[kind] + "p\n" + (alone ? "" : shown));
                    }
                    if (LEAD[kind].isEmpty() && TAIL[kind].isEmpty()) {
                        shows(line, alone ? "" : shown);
                        shows(line + "\n", alone ? "" : shown + "\n");
                    }
                }
            }
        }
    }

    /** "A tag of class comment, set delimiter, section, inverted section, close or partial may be standalone": no other. */
    private static void variablesAreNeverStandalone() {
        for (String tag : new String[] {"{{a}}", "{{&a}}", "{{ a }}"}) {
            shows("p\n" + tag + "\nq", "p\n1\nq");
            shows("  " + tag + "  \nq", "  1  \nq");
            shows(tag, "1");
            shows(tag + "\n", "1\n");
            shows("p\n " + tag + " ", "p\n 1 ");
            shows("p\n" + tag + "{{!}}\nq", "p\n1\nq");
            shows("p\n{{!}}" + tag + "\nq", "p\n1\nq");
        }
        shows("p\n{{z}}\nq", "p\n\nq");
        shows("p\n{{!}}{{!}}\nq", "p\n\nq");
        shows("p\n{{#a}}{{/a}}\nq", "p\n\nq");
        shows("p\n {{#c}} {{/c}} \nq", "p\n  \nq");
    }

    /** "and, if le < n, T[le] are removed": that newline alone, and not the one before the line. */
    private static void oneNewlineIsRemoved() {
        shows("\n{{!}}\n", "\n");
        shows("\n\n{{!}}\n\n", "\n\n\n");
        shows("\n\n {{!}} \n \n", "\n\n \n");
        shows("{{!}}\n{{!}}\n{{!}}", "");
        shows(" {{!}} \n {{!}} \n {{!}} ", "");
        shows("{{!}}\n\n{{!}}", "\n");
        shows("p\n{{!}}", "p\n");
        shows("p \n {{!}} ", "p \n");
        shows("{{#b}}\n{{a}}\n{{/b}}\n", "1\n1\n");
        shows("{{#b}}\n\n{{/b}}\n", "\n\n");
        shows("{{#b}}{{a}}\n{{/b}}\n", "1\n1\n");
        shows("{{#b}}\n{{a}}{{/b}}\n", "11\n");
        shows(" {{#b}} \n {{a}} \n {{/b}} \n", " 1 \n 1 \n");
    }

    /** "the last newline before index q", "the first newline at or after index e": those inside the tag do not count. */
    private static void tagsOverMoreLines() {
        shows("p\n {{!\n\n}} \nq", "p\nq");
        shows("p{{!\n}}\nq", "p\nq");
        shows("p\n{{!\n}}q\nr", "p\nq\nr");
        shows("p\n {{!\n}}q\nr", "p\n q\nr");
        shows("p {{!\n}} \nq", "p  \nq");
        shows("{{!\n}} {{!\n}}\nq", " \nq");
        shows("{{!\n}}\n{{!\n}}\nq", "q");
        shows("{{!\n }}{{!}}\nq", "\nq");
        shows("{{!}}{{! \n}}\nq", "\nq");
        shows("{{a}}\n{{!\n}}", "1\n");
        shows("{{a}} {{!\n}}\n-", "1 \n-");
        shows("{{!\n}} {{a}}\n-", " 1\n-");
    }

    /** The same at index 0 and at index 95 of a text that fills its slot, each slot beside full ones. */
    private static void standaloneInAFullText() {
        String[] texts = {"{{!}}\n" + x(84) + "\n{{!}}", " {{!}} \n" + x(81) + "\n{{!}} ", "{{!" + x(91) + "}}",
            " ".repeat(46) + "{{!}}" + " ".repeat(45),
            x(89) + "\n{{!}}\n", "\n".repeat(91) + "{{!}}", x(91) + "{{!}}", "{{!}}" + x(91)};
        String[] shown = {x(84) + "\n", x(81) + "\n", "", "", x(89) + "\n", "\n".repeat(91), x(91), x(91)};
        for (int i = 0; i < texts.length; i++) {
            shows(texts[i], shown[i]);
            for (int slot = 1; slot < 4; slot++) {
                LogicLessTemplate x = new LogicLessTemplate(256);
                int root = Check.num(x, 1);
                for (int other = 1; other < 4; other++) {
                    Check.put(x, other, other == slot ? texts[i] : "y".repeat(96));
                    x.compile(other);
                }
                Check.put(x, 0, "{{>" + slot + "}}");
                x.compile(0);
                x.compile(slot);
                CHECK.due("P5: length", x.templateLength(slot), 96);
                x.render(root);
                CHECK.due("P5: output of " + texts[i] + " in slot " + slot, Check.out(x), shown[i]);
                Check.set(x, 0, "{{>" + (slot % 3 + 1) + "}}");
                x.compile(0);
                x.render(root);
                CHECK.due("P5: output of another slot", Check.out(x), "y".repeat(96));
            }
        }
    }

    /**
     * "the slot's status becomes the result. Its error position becomes the position given with the error, or -1 for OK.
     * The answer is the result."
     */
    private static void statusAndErrorPosition() {
        for (int slot = 0; slot < 4; slot++) {
            LogicLessTemplate x = Fixture.busy(CHECK).real();
            for (int first : Fixture.STATUSES) {
                for (int next : Fixture.STATUSES) {
                    if (Fixture.possible(slot, first) && Fixture.possible(slot, next)) {
                        Fixture.give(x, slot, first);
                        Fixture.give(x, slot, next);
                        CHECK.due("P6: status after " + first, x.status(slot), next);
                        CHECK.due("P6: error position after " + first, x.errorAt(slot), Fixture.errorAt(next));
                        if (next != LogicLessTemplate.ERR_NOT_COMPILED) {
                            CHECK.refused("P5: the same compile once more", x, compileOf(x, slot), next);
                        }
                    }
                }
            }
        }
    }

    private static java.util.function.IntSupplier compileOf(LogicLessTemplate x, int slot) {
        return () -> x.compile(slot);
    }

    /** "Nothing else changes": not the text, no other slot, no value, not the output. */
    private static void nothingElseChanges() {
        for (int slot = 0; slot < 4; slot++) {
            for (int status : Fixture.STATUSES) {
                if (Fixture.possible(slot, status) && status != LogicLessTemplate.ERR_NOT_COMPILED) {
                    LogicLessTemplate x = Fixture.busy(CHECK).real();
                    Check.set(x, slot, Fixture.text(status));
                    String before = Check.stateWithout(x, slot, -1);
                    CHECK.due("P5: compile", x.compile(slot), status);
                    CHECK.due("P5: all but slot " + slot + " after " + status, Check.stateWithout(x, slot, -1), before);
                    CHECK.due("P5: the text is kept", Check.text(x, slot), Fixture.text(status));
                }
            }
        }
        LogicLessTemplate x = Fixture.full(CHECK).real();
        for (int slot = 0; slot < 4; slot++) {
            CHECK.refused("P5: compile of a full slot", x, compileOf(x, slot), x.status(slot));
        }
        CHECK.due("P5: render after compiles", x.render(Fixture.MAP), LogicLessTemplate.ERR_OVERFLOW);
    }

    /** "other slots are not read, and a partial naming a slot is allowed whatever that slot holds" */
    private static void noOtherSlotIsRead() {
        for (int named = 1; named < 4; named++) {
            for (int status : Fixture.STATUSES) {
                LogicLessTemplate x = new LogicLessTemplate(16);
                Fixture.give(x, named, status);
                Check.put(x, 0, "{{>" + named + "}}");
                CHECK.due("P5: a partial naming a slot in status " + status, x.compile(0), OK);
                CHECK.due("P5: the named slot's status", x.status(named), status);
                CHECK.due("P5: the named slot's error position", x.errorAt(named), Fixture.errorAt(status));
            }
            LogicLessTemplate x = new LogicLessTemplate(16);
            Check.put(x, 0, "{{>" + named + "}}");
            CHECK.due("P5: a partial naming an empty slot", x.compile(0), OK);
        }
    }

    /** P6: "It answers ERR_ARG if slot is outside 0..3." "It answers -1 if slot is outside 0..3." "Both change nothing." */
    private static void statusOfNoSlot() {
        for (int which = 0; which < 2; which++) {
            LogicLessTemplate x = which == 0 ? Fixture.busy(CHECK).real() : Fixture.full(CHECK).real();
            for (int slot : Fixture.NO_SLOTS) {
                CHECK.refused("P6: status(" + slot + ")", x, () -> x.status(slot), LogicLessTemplate.ERR_ARG);
                CHECK.refused("P6: errorAt(" + slot + ")", x, () -> x.errorAt(slot), -1);
            }
        }
    }

    /** P6: "answers the slot's status", "answers the slot's error position": each slot its own, from 0 to 96. */
    private static void statusOfEverySlot() {
        LogicLessTemplate x = new LogicLessTemplate(16);
        Check.put(x, 0, "{{");
        Check.put(x, 1, x(90) + "{{#a}}");
        Check.put(x, 2, x(94) + "{{");
        Check.put(x, 3, "{{a}}");
        int[] statuses = {UNCLOSED, NESTING, UNCLOSED, OK};
        int[] places = {0, 96, 94, -1};
        for (int slot = 0; slot < 4; slot++) {
            CHECK.due("P6: status before", x.status(slot), LogicLessTemplate.ERR_NOT_COMPILED);
            CHECK.due("P6: error position before", x.errorAt(slot), -1);
            x.compile(slot);
        }
        for (int slot = 0; slot < 4; slot++) {
            CHECK.due("P6: status of slot " + slot, x.status(slot), statuses[slot]);
            CHECK.due("P6: error position of slot " + slot, x.errorAt(slot), places[slot]);
        }
    }
}
