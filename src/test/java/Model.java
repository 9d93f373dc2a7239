import java.util.ArrayList;
import java.util.LinkedHashMap;
import java.util.List;
import java.util.Map;

/**
 * The document told a second time, promise by promise, with strings, lists and
 * recursion: what each call on a LogicLessTemplate must answer.
 */
final class Model {
    private static final int OK = LogicLessTemplate.OK;
    private static final int ERR_ARG = LogicLessTemplate.ERR_ARG;
    private static final int ERR_FULL = LogicLessTemplate.ERR_FULL;

    private static final class Tag {
        char kind;
        char name;
        int from;
        int end;
        int close;
    }

    private static final class Slot {
        String text = "";
        int status = LogicLessTemplate.ERR_NOT_COMPILED;
        int errorAt = -1;
        List<Tag> tags = new ArrayList<>();
        boolean[] removed = {};

        void change(String next) {
            text = next;
            result(LogicLessTemplate.ERR_NOT_COMPILED, -1);
        }

        int result(int answer, int at) {
            status = answer;
            errorAt = at;
            return answer;
        }
    }

    private static final class Value {
        final int kind;
        final int num;
        final List<Integer> parts = new ArrayList<>();
        final Map<Integer, Integer> fields = new LinkedHashMap<>();

        Value(int kind, int num) {
            this.kind = kind;
            this.num = num;
        }

        boolean falsey() {
            return kind == 0 || kind == LogicLessTemplate.KIND_FALSE || kind == LogicLessTemplate.KIND_LIST && parts.isEmpty();
        }
    }

    private static final class Full extends RuntimeException {
        private static final long serialVersionUID = 1L;
    }

    private static final Value MISSING = new Value(0, 0);

    private final int outCap;
    private final List<Slot> slots = List.of(new Slot(), new Slot(), new Slot(), new Slot());
    private final List<Value> values = new ArrayList<>();
    private final StringBuilder out = new StringBuilder();

    Model(int outCap) {
        this.outCap = Math.max(16, Math.min(256, outCap));
    }

    int putChars(int slot, int packed) {
        if (!isSlot(slot)) {
            return ERR_ARG;
        }
        String more = "";
        for (int rest = packed; (rest & 255) != 0; rest >>>= 8) {
            more += (char) (rest & 255);
        }
        for (char c : more.toCharArray()) {
            if (c != '\n' && (c < ' ' || c > '~')) {
                return ERR_ARG;
            }
        }
        Slot s = slots.get(slot);
        if (s.text.length() + more.length() > 96) {
            return ERR_FULL;
        }
        if (!more.isEmpty()) {
            s.change(s.text + more);
        }
        return more.length();
    }

    int clearTemplate(int slot) {
        if (!isSlot(slot)) {
            return ERR_ARG;
        }
        slots.get(slot).change("");
        return OK;
    }

    int templateLength(int slot) {
        return isSlot(slot) ? slots.get(slot).text.length() : -1;
    }

    int templateChar(int slot, int i) {
        return i >= 0 && i < templateLength(slot) ? slots.get(slot).text.charAt(i) : -1;
    }

    int status(int slot) {
        return isSlot(slot) ? slots.get(slot).status : ERR_ARG;
    }

    int errorAt(int slot) {
        return isSlot(slot) ? slots.get(slot).errorAt : -1;
    }

    private static boolean isSlot(int slot) {
        return List.of(0, 1, 2, 3).contains(slot);
    }

    int compile(int slot) {
        if (!isSlot(slot)) {
            return ERR_ARG;
        }
        Slot s = slots.get(slot);
        s.tags = new ArrayList<>();
        s.removed = new boolean[s.text.length()];
        List<Tag> open = new ArrayList<>();
        String o = "{{";
        String c = "}}";
        int p = 0;
        for (int q = s.text.indexOf(o, p); q >= 0; q = s.text.indexOf(o, p)) {
            int r = s.text.indexOf(c, q + o.length());
            if (r < 0) {
                return s.result(LogicLessTemplate.ERR_UNCLOSED, q);
            }
            Tag tag = new Tag();
            tag.from = q;
            tag.end = r + c.length();
            String k = s.text.substring(q + o.length(), r);
            if (!classify(tag, k)) {
                return s.result(LogicLessTemplate.ERR_TAG, q);
            }
            if (tag.kind == '=') {
                String[] marks = trim(k.substring(1, k.length() - 1)).split(" +");
                o = marks[0];
                c = marks[1];
            }
            int nested = nest(tag, open, slot, s.tags.size());
            if (nested != OK) {
                return s.result(nested, q);
            }
            s.tags.add(tag);
            p = tag.end;
        }
        if (!open.isEmpty()) {
            return s.result(LogicLessTemplate.ERR_NESTING, s.text.length());
        }
        for (Tag tag : s.tags) {
            removeStandalone(s, tag);
        }
        return s.result(OK, -1);
    }

    private static String trim(String s) {
        return s.replaceAll("^ +", "").replaceAll(" +\\z", "");
    }

    private static boolean classify(Tag tag, String k) {
        char first = k.isEmpty() ? 'v' : k.charAt(0);
        if (first == '!') {
            tag.kind = '!';
            return true;
        }
        if (first == '=') {
            tag.kind = '=';
            String mark = "[!-<>-~]{1,3}";
            return k.length() >= 3 && k.endsWith("=") && trim(k.substring(1, k.length() - 1)).matches(mark + " +" + mark);
        }
        boolean marked = "#^/&>".indexOf(first) >= 0;
        tag.kind = marked ? first : 'v';
        String name = trim(marked ? k.substring(1) : k);
        tag.name = name.isEmpty() ? 0 : name.charAt(0);
        return name.matches(first == '>' ? "[1-3]" : "[a-z.]") && name.length() == 1;
    }

    private static int nest(Tag tag, List<Tag> open, int slot, int index) {
        if (tag.kind == '#' || tag.kind == '^') {
            open.add(tag);
            return open.size() > 2 ? LogicLessTemplate.ERR_NESTING : OK;
        }
        if (tag.kind == '/') {
            if (open.isEmpty() || open.get(open.size() - 1).name != tag.name) {
                return LogicLessTemplate.ERR_NESTING;
            }
            open.remove(open.size() - 1).close = index;
        }
        return tag.kind == '>' && slot != 0 ? LogicLessTemplate.ERR_PARTIAL : OK;
    }

    private static void removeStandalone(Slot s, Tag tag) {
        if (tag.kind == 'v' || tag.kind == '&') {
            return;
        }
        int ls = 1 + s.text.substring(0, tag.from).lastIndexOf('\n');
        int newline = s.text.indexOf('\n', tag.end);
        int le = newline < 0 ? s.text.length() : newline;
        String around = s.text.substring(ls, tag.from) + s.text.substring(tag.end, le);
        if (!trim(around).isEmpty()) {
            return;
        }
        for (int i = ls; i <= le && i < s.text.length(); i++) {
            s.removed[i] = s.removed[i] || i < tag.from || i >= tag.end;
        }
    }

    int newValue(int kind, int num) {
        if (!List.of(1, 2, 3, 4, 5, 6).contains(kind)) {
            return ERR_ARG;
        }
        if (values.size() == 32) {
            return ERR_FULL;
        }
        values.add(new Value(kind, num));
        return values.size();
    }

    private Value value(int id) {
        return id >= 1 && id <= values.size() ? values.get(id - 1) : MISSING;
    }

    int appendChar(int id, int c) {
        if (value(id).kind != LogicLessTemplate.KIND_STR || c < ' ' || c > '~') {
            return ERR_ARG;
        }
        return grow(value(id).parts, c, 8);
    }

    int addItem(int list, int item) {
        if (value(list).kind != LogicLessTemplate.KIND_LIST || value(item) == MISSING) {
            return ERR_ARG;
        }
        return grow(value(list).parts, item, 4);
    }

    private static int grow(List<Integer> parts, int part, int cap) {
        if (parts.size() == cap) {
            return ERR_FULL;
        }
        parts.add(part);
        return OK;
    }

    int setField(int map, int key, int val) {
        if (value(map).kind != LogicLessTemplate.KIND_MAP || key < 'a' || key > 'z' || value(val) == MISSING) {
            return ERR_ARG;
        }
        Map<Integer, Integer> fields = value(map).fields;
        if (fields.size() == 4 && !fields.containsKey(key)) {
            return ERR_FULL;
        }
        fields.put(key, val);
        return OK;
    }

    int valueInfo(int id, int i) {
        Value v = value(id);
        if (i == -2) {
            return v.kind;
        }
        List<Integer> parts = v.kind == LogicLessTemplate.KIND_MAP ? new ArrayList<>(v.fields.keySet()) : v.parts;
        if (i == -1) {
            return v == MISSING ? -1 : v.kind == LogicLessTemplate.KIND_NUM ? v.num : parts.size();
        }
        return i >= 0 && i < parts.size() ? parts.get(i) : -1;
    }

    int fieldOf(int map, int key) {
        return value(map).fields.getOrDefault(key, 0);
    }

    int render(int root) {
        if (status(0) != OK) {
            return LogicLessTemplate.ERR_NOT_COMPILED;
        }
        if (value(root) == MISSING) {
            return LogicLessTemplate.ERR_VALUE;
        }
        out.setLength(0);
        try {
            renderSlot(slots.get(0), List.of(value(root)));
        } catch (Full full) {
            return LogicLessTemplate.ERR_OVERFLOW;
        }
        return OK;
    }

    int outLength() {
        return out.length();
    }

    int outChar(int i) {
        return i >= 0 && i < out.length() ? out.charAt(i) : -1;
    }

    private void renderSlot(Slot slot, List<Value> stack) {
        renderRange(slot, 0, slot.tags.size(), 0, slot.text.length(), stack);
    }

    /** Tags i..j-1 of a slot, and the literal text around them from p to end. */
    private void renderRange(Slot slot, int i, int j, int p, int end, List<Value> stack) {
        int tagAt = i;
        int from = p;
        while (tagAt < j) {
            Tag tag = slot.tags.get(tagAt);
            literal(slot, from, tag.from);
            from = tag.end;
            int next = tagAt + 1;
            if (tag.kind == 'v' || tag.kind == '&') {
                variable(lookUp(tag.name, stack), tag.kind == 'v');
            } else if (tag.kind == '>') {
                if (status(tag.name - '0') == OK) {
                    renderSlot(slots.get(tag.name - '0'), stack);
                }
            } else if (tag.kind == '#' || tag.kind == '^') {
                Tag close = slot.tags.get(tag.close);
                for (List<Value> inner : bodies(tag.kind, lookUp(tag.name, stack), stack)) {
                    renderRange(slot, tagAt + 1, tag.close, tag.end, close.from, inner);
                }
                from = close.end;
                next = tag.close + 1;
            }
            tagAt = next;
        }
        literal(slot, from, end);
    }

    /** The stacks with which a body is rendered, one after the other. */
    private List<List<Value>> bodies(char kind, Value v, List<Value> stack) {
        List<List<Value>> all = new ArrayList<>();
        if (kind == '^') {
            if (v.falsey()) {
                all.add(stack);
            }
        } else if (v.kind == LogicLessTemplate.KIND_LIST) {
            for (int item : v.parts) {
                all.add(pushed(stack, value(item)));
            }
        } else if (!v.falsey()) {
            all.add(pushed(stack, v));
        }
        return all;
    }

    private static List<Value> pushed(List<Value> stack, Value v) {
        List<Value> more = new ArrayList<>(stack);
        more.add(v);
        return more;
    }

    private Value lookUp(char name, List<Value> stack) {
        if (name == '.') {
            return stack.get(stack.size() - 1);
        }
        for (int i = stack.size() - 1; i >= 0; i--) {
            if (stack.get(i).fields.containsKey((int) name)) {
                return value(stack.get(i).fields.get((int) name));
            }
        }
        return MISSING;
    }

    private void variable(Value v, boolean escaped) {
        String shown = "";
        switch (v.kind) {
            case LogicLessTemplate.KIND_NUM:
                shown = Integer.toString(v.num);
                break;
            case LogicLessTemplate.KIND_TRUE:
                shown = "true";
                break;
            case LogicLessTemplate.KIND_FALSE:
                shown = "false";
                break;
            case LogicLessTemplate.KIND_STR:
                for (int c : v.parts) {
                    shown += (char) c;
                }
                break;
            default:
                break;
        }
        if (escaped) {
            shown = shown.replace("&", "&amp;").replace("<", "&lt;").replace(">", "&gt;");
            shown = shown.replace("\"", "&quot;").replace("'", "&#39;");
        }
        for (char c : shown.toCharArray()) {
            emit(c);
        }
    }

    private void literal(Slot slot, int from, int to) {
        for (int i = from; i < to; i++) {
            if (!slot.removed[i]) {
                emit(slot.text.charAt(i));
            }
        }
    }

    private void emit(char c) {
        if (out.length() == outCap) {
            throw new Full();
        }
        out.append(c);
    }
}
