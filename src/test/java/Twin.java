/** A LogicLessTemplate and a Model that get the same calls: every answer is held against the Model's. */
final class Twin {
    private final Check check;
    private final LogicLessTemplate x;
    private final Model model;
    private final StringBuilder calls = new StringBuilder();

    Twin(Check check, int outCap) {
        this.check = check;
        x = new LogicLessTemplate(outCap);
        model = new Model(outCap);
        calls.append("new(").append(outCap).append(')');
    }

    /** The LogicLessTemplate alone; after a call on it the Model knows nothing of that call. */
    LogicLessTemplate real() {
        return x;
    }

    private int answered(String call, int got, int want) {
        calls.append(' ').append(call).append('=').append(want);
        if (got != want) {
            check.due("the last of " + calls, got, want);
        } else {
            check.asDue();
        }
        return want;
    }

    int putChars(int slot, int packed) {
        return answered("putChars(" + slot + "," + packed + ")", x.putChars(slot, packed), model.putChars(slot, packed));
    }

    /** A text, up to four characters a call. */
    void put(int slot, String text) {
        for (int from = 0; from < text.length(); from += 4) {
            int packed = 0;
            for (int i = 0; i < 4 && from + i < text.length(); i++) {
                packed |= text.charAt(from + i) << 8 * i;
            }
            putChars(slot, packed);
        }
    }

    int clearTemplate(int slot) {
        return answered("clearTemplate(" + slot + ")", x.clearTemplate(slot), model.clearTemplate(slot));
    }

    int compile(int slot) {
        return answered("compile(" + slot + ")", x.compile(slot), model.compile(slot));
    }

    int newValue(int kind, int num) {
        return answered("newValue(" + kind + "," + num + ")", x.newValue(kind, num), model.newValue(kind, num));
    }

    int appendChar(int id, int c) {
        return answered("appendChar(" + id + "," + c + ")", x.appendChar(id, c), model.appendChar(id, c));
    }

    int addItem(int list, int item) {
        return answered("addItem(" + list + "," + item + ")", x.addItem(list, item), model.addItem(list, item));
    }

    int setField(int map, int key, int val) {
        return answered("setField(" + map + "," + key + "," + val + ")", x.setField(map, key, val), model.setField(map, key, val));
    }

    int render(int root) {
        return answered("render(" + root + ")", x.render(root), model.render(root));
    }

    /** The getters with these arguments, whatever they are. */
    void get(int a, int b) {
        same("templateLength", a, b, x.templateLength(a), model.templateLength(a));
        same("templateChar", a, b, x.templateChar(a, b), model.templateChar(a, b));
        same("status", a, b, x.status(a), model.status(a));
        same("errorAt", a, b, x.errorAt(a), model.errorAt(a));
        same("valueInfo", a, b, x.valueInfo(a, b), model.valueInfo(a, b));
        same("fieldOf", a, b, x.fieldOf(a, b), model.fieldOf(a, b));
        same("outChar", a, b, x.outChar(a), model.outChar(a));
    }

    /** All that the getters tell, a little past every edge. */
    void sameState() {
        for (int slot = -1; slot <= LogicLessTemplate.SLOTS; slot++) {
            sameSlot(slot);
        }
        for (int id = -1; id <= LogicLessTemplate.VALUE_CAP + 2; id++) {
            for (int i = -3; i <= LogicLessTemplate.STR_CAP; i++) {
                same("valueInfo", id, i, x.valueInfo(id, i), model.valueInfo(id, i));
            }
            for (int key = 'a' - 1; key <= 'z' + 1; key++) {
                same("fieldOf", id, key, x.fieldOf(id, key), model.fieldOf(id, key));
            }
        }
        sameOutput();
    }

    void sameSlot(int slot) {
        same("templateLength", slot, 0, x.templateLength(slot), model.templateLength(slot));
        same("status", slot, 0, x.status(slot), model.status(slot));
        same("errorAt", slot, 0, x.errorAt(slot), model.errorAt(slot));
        for (int i = -1; i <= LogicLessTemplate.TEXT_CAP; i++) {
            same("templateChar", slot, i, x.templateChar(slot, i), model.templateChar(slot, i));
        }
    }

    void sameOutput() {
        same("outLength", 0, 0, x.outLength(), model.outLength());
        for (int i = -1; i <= LogicLessTemplate.OUT_MAX; i++) {
            same("outChar", i, 0, x.outChar(i), model.outChar(i));
        }
    }

    private void same(String getter, int a, int b, int got, int want) {
        if (got != want) {
            check.due(getter + " of " + a + ", " + b + " after " + calls, got, want);
        } else {
            check.asDue();
        }
    }
}
