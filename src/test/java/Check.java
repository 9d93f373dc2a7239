/** Counts wrong answers, and reads a LogicLessTemplate as strings. */
final class Check {
    private static final int SHOWN = 40;
    private int asked;
    private int wrong;

    void due(String call, long got, long want) {
        due(call, Long.toString(got), Long.toString(want));
    }

    void due(String call, String got, String want) {
        asked++;
        if (!got.equals(want)) {
            wrong++;
            // A fault may spoil thousands of answers; the first ones tell it.
            if (wrong <= SHOWN) {
                System.out.println(call + " answered " + shown(got) + ", due is " + shown(want));
            }
        }
    }

    /** An answer that was held against the due one elsewhere, and was right. */
    void asDue() {
        asked++;
    }

    /** A refused call: the answer that is due, and nothing changed. */
    void refused(String call, LogicLessTemplate x, java.util.function.IntSupplier run, int want) {
        String before = state(x);
        due(call, run.getAsInt(), want);
        due("the state after " + call, state(x), before);
    }

    void end() {
        System.out.println((asked - wrong) + " of " + asked + " answers are as due");
        if (wrong != 0 || asked == 0) {
            System.exit(1);
        }
    }

    static int pack(int c0, int c1, int c2, int c3) {
        return c0 | c1 << 8 | c2 << 16 | c3 << 24;
    }

    static void put(LogicLessTemplate x, int slot, String text) {
        for (int i = 0; i < text.length(); i++) {
            if (x.putChars(slot, text.charAt(i)) != 1) {
                throw new IllegalStateException("template does not fit: " + text);
            }
        }
    }

    static void set(LogicLessTemplate x, int slot, String text) {
        x.clearTemplate(slot);
        put(x, slot, text);
    }

    static int str(LogicLessTemplate x, String chars) {
        int id = x.newValue(LogicLessTemplate.KIND_STR, 0);
        for (int i = 0; i < chars.length(); i++) {
            x.appendChar(id, chars.charAt(i));
        }
        return id;
    }

    static int num(LogicLessTemplate x, int num) {
        return x.newValue(LogicLessTemplate.KIND_NUM, num);
    }

    static int list(LogicLessTemplate x, int... items) {
        int id = x.newValue(LogicLessTemplate.KIND_LIST, 0);
        for (int item : items) {
            x.addItem(id, item);
        }
        return id;
    }

    /** A map with the letters of keys, each with the value id at its place. */
    static int map(LogicLessTemplate x, String keys, int... values) {
        int id = x.newValue(LogicLessTemplate.KIND_MAP, 0);
        for (int i = 0; i < values.length; i++) {
            x.setField(id, keys.charAt(i), values[i]);
        }
        return id;
    }

    static String text(LogicLessTemplate x, int slot) {
        StringBuilder all = new StringBuilder();
        for (int i = 0; i < x.templateLength(slot); i++) {
            all.append((char) x.templateChar(slot, i));
        }
        return all.toString();
    }

    static String out(LogicLessTemplate x) {
        StringBuilder all = new StringBuilder();
        for (int i = 0; i < x.outLength(); i++) {
            all.append((char) x.outChar(i));
        }
        return all.toString();
    }

    /** All that the getters tell. */
    static String state(LogicLessTemplate x) {
        return stateWithout(x, -1, -1);
    }

    /** All that the getters tell, but for one slot and one value. */
    static String stateWithout(LogicLessTemplate x, int slot, int id) {
        StringBuilder all = new StringBuilder();
        for (int i = 0; i < LogicLessTemplate.SLOTS; i++) {
            if (i != slot) {
                all.append(text(x, i)).append('|').append(x.status(i)).append('@').append(x.errorAt(i)).append('|');
            }
        }
        for (int i = 0; i <= LogicLessTemplate.VALUE_CAP + 1; i++) {
            all.append(i == id ? "" : value(x, i)).append('|');
        }
        return all.append(out(x)).toString();
    }

    static String value(LogicLessTemplate x, int id) {
        StringBuilder all = new StringBuilder();
        for (int i = -3; i <= LogicLessTemplate.STR_CAP; i++) {
            all.append(x.valueInfo(id, i)).append(' ');
        }
        for (int key = 'a' - 1; key <= 'z' + 1; key++) {
            int field = x.fieldOf(id, key);
            if (field != 0) {
                all.append((char) key).append('=').append(field).append(' ');
            }
        }
        return all.toString();
    }

    private static String shown(String text) {
        return "\"" + text.replace("\n", "\\n") + "\"";
    }
}
