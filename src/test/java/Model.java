import java.util.ArrayList;
import java.util.List;

/**
 * The document's promises 5 and 13 told a second time, with strings, lists and
 * recursion. It reads texts and values through the getters of a LogicLessTemplate
 * and says what a compile or a render of them must give.
 */
final class Model {
    int result;
    int at;

    private static final class Tag {
        char kind;
        char name;
        int from;
        int end;
        int close;
    }

    private static final class Full extends RuntimeException {
        private static final long serialVersionUID = 1L;
    }

    private final LogicLessTemplate x;
    private final int outCap;
    private final StringBuilder out = new StringBuilder();

    Model(LogicLessTemplate x, int outCap) {
        this.x = x;
        this.outCap = outCap;
    }

    private String text;
    private List<Tag> tags;
    private boolean[] removed;

    void compile(int slot) {
        text = Check.text(x, slot);
        tags = new ArrayList<>();
        removed = new boolean[text.length()];
        result = LogicLessTemplate.OK;
        at = -1;
        List<Integer> open = new ArrayList<>();
        String o = "{{";
        String c = "}}";
        int p = 0;
        for (int q = text.indexOf(o, p); q >= 0; q = text.indexOf(o, p)) {
            int r = text.indexOf(c, q + o.length());
            if (r < 0) {
                fail(LogicLessTemplate.ERR_UNCLOSED, q);
                return;
            }
            Tag tag = new Tag();
            tag.from = q;
            tag.end = r + c.length();
            String k = text.substring(q + o.length(), r);
            if (!classify(tag, k)) {
                fail(LogicLessTemplate.ERR_TAG, q);
                return;
            }
            if (tag.kind == '=') {
                String[] marks = trim(k.substring(1, k.length() - 1)).split(" +");
                o = marks[0];
                c = marks[1];
            }
            if (tag.kind == '#' || tag.kind == '^') {
                if (open.size() == 2) {
                    fail(LogicLessTemplate.ERR_NESTING, q);
                    return;
                }
                open.add(tags.size());
            } else if (tag.kind == '/') {
                if (open.isEmpty() || tags.get(open.get(open.size() - 1)).name != tag.name) {
                    fail(LogicLessTemplate.ERR_NESTING, q);
                    return;
                }
                tags.get(open.remove(open.size() - 1)).close = tags.size();
            } else if (tag.kind == '>' && slot != 0) {
                fail(LogicLessTemplate.ERR_PARTIAL, q);
                return;
            }
            tags.add(tag);
            p = tag.end;
        }
        if (!open.isEmpty()) {
            fail(LogicLessTemplate.ERR_NESTING, text.length());
            return;
        }
        for (Tag tag : tags) {
            removeStandalone(tag);
        }
    }

    private void fail(int error, int place) {
        result = error;
        at = place;
    }

    private static String trim(String s) {
        return s.replaceAll("^ +", "").replaceAll(" +\\z", "");
    }

    private static boolean classify(Tag tag, String k) {
        char first = k.isEmpty() ? 'v' : k.charAt(0);
        if (first == '!') {
            tag.kind = '!';
            return true;
        }
        if (first == '=') {
            tag.kind = '=';
            String mark = "[!-<>-~]{1,3}";
            return k.length() >= 3 && k.endsWith("=") && trim(k.substring(1, k.length() - 1)).matches(mark + " +" + mark);
        }
        boolean marked = "#^/&>".indexOf(first) >= 0;
        tag.kind = marked ? first : 'v';
        String name = trim(marked ? k.substring(1) : k);
        tag.name = name.isEmpty() ? 0 : name.charAt(0);
        return name.matches(first == '>' ? "[1-3]" : "[a-z.]") && name.length() == 1;
    }

    private void removeStandalone(Tag tag) {
        if (tag.kind == 'v' || tag.kind == '&') {
            return;
        }
        int ls = 1 + text.substring(0, tag.from).lastIndexOf('\n');
        int newline = text.indexOf('\n', tag.end);
        int le = newline < 0 ? text.length() : newline;
        if (!trim(text.substring(ls, tag.from)).isEmpty() || !trim(text.substring(tag.end, le)).isEmpty()) {
            return;
        }
        for (int i = ls; i <= le && i < text.length(); i++) {
            removed[i] = removed[i] || i < tag.from || i >= tag.end;
        }
    }

    String render(int root) {
        result = LogicLessTemplate.OK;
        out.setLength(0);
        List<Integer> stack = new ArrayList<>();
        stack.add(root);
        try {
            renderSlot(0, stack);
        } catch (Full full) {
            result = LogicLessTemplate.ERR_OVERFLOW;
        }
        return out.toString();
    }

    private void renderSlot(int slot, List<Integer> stack) {
        if (x.status(slot) == LogicLessTemplate.OK) {
            Model compiled = new Model(x, outCap);
            compiled.compile(slot);
            renderRange(compiled, 0, compiled.tags.size(), 0, compiled.text.length(), stack);
        }
    }

    /** Tags i..j-1 of a slot, and the literal text around them from p to end. */
    private void renderRange(Model slot, int i, int j, int p, int end, List<Integer> stack) {
        int tagAt = i;
        int from = p;
        while (tagAt < j) {
            Tag tag = slot.tags.get(tagAt);
            literal(slot, from, tag.from);
            from = tag.end;
            int next = tagAt + 1;
            if (tag.kind == 'v' || tag.kind == '&') {
                variable(lookUp(tag.name, stack), tag.kind == 'v');
            } else if (tag.kind == '>') {
                renderSlot(tag.name - '0', stack);
            } else if (tag.kind == '#' || tag.kind == '^') {
                Tag close = slot.tags.get(tag.close);
                for (int value : bodies(tag.kind, lookUp(tag.name, stack))) {
                    List<Integer> inner = new ArrayList<>(stack);
                    if (tag.kind == '#') {
                        inner.add(value);
                    }
                    renderRange(slot, tagAt + 1, tag.close, tag.end, close.from, inner);
                }
                from = close.end;
                next = tag.close + 1;
            }
            tagAt = next;
        }
        literal(slot, from, end);
    }

    private List<Integer> bodies(char kind, int v) {
        int type = x.valueInfo(v, -2);
        int count = x.valueInfo(v, -1);
        boolean list = type == LogicLessTemplate.KIND_LIST;
        boolean falsey = type == 0 || type == LogicLessTemplate.KIND_FALSE || list && count == 0;
        if (falsey != (kind == '^')) {
            return List.of();
        }
        if (!list || falsey) {
            return List.of(v);
        }
        List<Integer> items = new ArrayList<>();
        for (int j = 0; j < count; j++) {
            items.add(x.valueInfo(v, j));
        }
        return items;
    }

    private int lookUp(char name, List<Integer> stack) {
        if (name == '.') {
            return stack.get(stack.size() - 1);
        }
        for (int i = stack.size() - 1; i >= 0; i--) {
            if (x.fieldOf(stack.get(i), name) != 0) {
                return x.fieldOf(stack.get(i), name);
            }
        }
        return 0;
    }

    private void variable(int v, boolean escaped) {
        String value = "";
        switch (x.valueInfo(v, -2)) {
            case LogicLessTemplate.KIND_NUM:
                value = Integer.toString(x.valueInfo(v, -1));
                break;
            case LogicLessTemplate.KIND_TRUE:
                value = "true";
                break;
            case LogicLessTemplate.KIND_FALSE:
                value = "false";
                break;
            case LogicLessTemplate.KIND_STR:
                for (int i = 0; i < x.valueInfo(v, -1); i++) {
                    value += (char) x.valueInfo(v, i);
                }
                break;
            default:
                break;
        }
        if (escaped) {
            value = value.replace("&", "&amp;").replace("<", "&lt;").replace(">", "&gt;");
            value = value.replace("\"", "&quot;").replace("'", "&#39;");
        }
        for (char c : value.toCharArray()) {
            emit(c);
        }
    }

    private void literal(Model slot, int from, int to) {
        for (int i = from; i < to; i++) {
            if (!slot.removed[i]) {
                emit(slot.text.charAt(i));
            }
        }
    }

    private void emit(char c) {
        if (out.length() == outCap) {
            throw new Full();
        }
        out.append(c);
    }
}
