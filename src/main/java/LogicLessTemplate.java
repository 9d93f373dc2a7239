/**
 * A small logic-less text template engine: four template slots, a store of
 * typed values, and a bounded output that a render fills.
 */
public final class LogicLessTemplate {
    public static final int OK = 0;
    public static final int ERR_ARG = -1;
    public static final int ERR_FULL = -2;
    public static final int ERR_UNCLOSED = -3;
    public static final int ERR_TAG = -4;
    public static final int ERR_NESTING = -5;
    public static final int ERR_PARTIAL = -6;
    public static final int ERR_NOT_COMPILED = -7;
    public static final int ERR_VALUE = -8;
    public static final int ERR_OVERFLOW = -9;
    public static final int KIND_FALSE = 1;
    public static final int KIND_TRUE = 2;
    public static final int KIND_NUM = 3;
    public static final int KIND_STR = 4;
    public static final int KIND_LIST = 5;
    public static final int KIND_MAP = 6;
    public static final int SLOTS = 4;
    public static final int TEXT_CAP = 96;
    public static final int VALUE_CAP = 32;
    public static final int STR_CAP = 8;
    public static final int LIST_CAP = 4;
    public static final int MAP_CAP = 4;
    public static final int MAX_OPEN = 2;
    public static final int OUT_MIN = 16;
    public static final int OUT_MAX = 256;

    // No place, no character, no field: what a search that found nothing answers.
    private static final int NONE = -1;
    private static final int NEWLINE = 10;
    private static final int SPACE = 32;
    private static final int LAST_CHAR = 126;
    private static final int PACKED_CHARS = 4;

    // What compiling found at a template cell; a tag is noted at its first cell.
    private static final int LITERAL = 0;
    private static final int REMOVED = 1;
    private static final int ESCAPED = 2;
    private static final int RAW = 3;
    private static final int COMMENT = 4;
    private static final int DELIMITERS = 5;
    private static final int SECTION = 6;
    private static final int INVERTED = 7;
    private static final int CLOSE = 8;
    private static final int PARTIAL = 9;

    private static final int MARK_CAP = 3;
    private static final int TEXT_CELLS = SLOTS * TEXT_CAP;

    // Ids start at 1, so that 0 can stand for a missing value.
    private static final int NO_VALUE = 0;
    private static final int NO_LIST = 0;
    private static final int NO_KIND = 0;
    private static final int ID_CELLS = VALUE_CAP + 1;
    // A string is the longest thing a value holds, so its capacity is every value's share.
    private static final int PART_CELLS = ID_CELLS * STR_CAP;
    private static final int FIELD_CELLS = ID_CELLS * MAP_CAP;

    private static final int INT_DIGITS = 10;
    // '-' and the digits of the longest int.
    private static final int VALUE_TEXT_CAP = INT_DIGITS + 1;

    // The root, the sections open in slot 0, and those open in a slot it includes.
    private static final int FRAME_CAP = 1 + MAX_OPEN + MAX_OPEN;

    // Two nested lists pass a cell at most LIST_CAP * LIST_CAP times, and each
    // pass of a cell of slot 0 may be a partial whose slot does the same again.
    private static final int SLOT_STEPS = LIST_CAP * LIST_CAP * (TEXT_CAP + 1);
    private static final int MAX_STEPS = SLOT_STEPS * (SLOT_STEPS + 1);

    // The four texts, TEXT_CAP cells each, and what compiling noted about each cell.
    private final int[] text = new int[TEXT_CELLS];
    private final int[] cellKind = new int[TEXT_CELLS];
    private final int[] cellName = new int[TEXT_CELLS];
    private final int[] tagEnd = new int[TEXT_CELLS];
    private final int[] sectionEnd = new int[TEXT_CELLS];
    private final int[] textLength = new int[SLOTS];
    private final int[] slotStatus = new int[SLOTS];
    private final int[] slotError = new int[SLOTS];

    // Only of use while a compile runs.
    private final int[] openMark = new int[MARK_CAP];
    private final int[] closeMark = new int[MARK_CAP];
    private int openMarkLength;
    private int closeMarkLength;
    private final int[] openTags = new int[MAX_OPEN];
    private int openCount;
    private int compileFrom;
    private int compileTo;

    // amount is the int of a NUM and the count of a STR, LIST or MAP;
    // parts are the characters of a STR, the items of a LIST, the keys of a MAP.
    private final int[] valueKind = new int[ID_CELLS];
    private final int[] amount = new int[ID_CELLS];
    private final int[] parts = new int[PART_CELLS];
    private final int[] fieldValues = new int[FIELD_CELLS];
    private int valueCount;

    private final int outCap;
    private final int[] out = new int[OUT_MAX];
    private int outCount;

    // Only of use while a render runs.
    private final int[] frameValue = new int[FRAME_CAP];
    private final int[] frameList = new int[FRAME_CAP];
    private final int[] frameNext = new int[FRAME_CAP];
    private final int[] frameBody = new int[FRAME_CAP];
    private int frameCount;
    private final int[] valueText = new int[VALUE_TEXT_CAP];
    private int valueTextLength;
    private int renderAt;
    private int renderTo;
    private int returnAt;
    private boolean finished;
    private boolean overflowed;

    public LogicLessTemplate(int outCap) {
        int cap = outCap;
        if (cap < OUT_MIN) {
            cap = OUT_MIN;
        }
        if (cap > OUT_MAX) {
            cap = OUT_MAX;
        }
        this.outCap = cap;
        for (int slot = 0; slot < SLOTS; slot++) {
            slotStatus[slot] = ERR_NOT_COMPILED;
            slotError[slot] = NONE;
        }
    }

    public int putChars(int slot, int packed) {
        if (!isSlot(slot)) {
            return ERR_ARG;
        }
        int count = packedCount(packed);
        for (int i = 0; i < count; i++) {
            int c = packedChar(packed, i);
            if (!isTextChar(c)) {
                return ERR_ARG;
            }
        }
        if (count == 0) {
            return 0;
        }
        if (textLength[slot] + count > TEXT_CAP) {
            return ERR_FULL;
        }
        int end = textEnd(slot);
        for (int i = 0; i < count; i++) {
            text[end + i] = packedChar(packed, i);
        }
        changeLength(slot, textLength[slot] + count);
        return count;
    }

    public int clearTemplate(int slot) {
        if (!isSlot(slot)) {
            return ERR_ARG;
        }
        changeLength(slot, 0);
        return OK;
    }

    public int templateLength(int slot) {
        return isSlot(slot) ? textLength[slot] : -1;
    }

    public int templateChar(int slot, int i) {
        if (!isSlot(slot) || i < 0 || i >= textLength[slot]) {
            return -1;
        }
        return text[slot * TEXT_CAP + i];
    }

    private boolean isSlot(int slot) {
        return slot >= 0 && slot < SLOTS;
    }

    private int textEnd(int slot) {
        return slot * TEXT_CAP + textLength[slot];
    }

    private int packedCount(int packed) {
        for (int i = 0; i < PACKED_CHARS; i++) {
            if (packedChar(packed, i) == 0) {
                return i;
            }
        }
        return PACKED_CHARS;
    }

    private int packedChar(int packed, int i) {
        return (packed >>> (8 * i)) & 255;
    }

    private boolean isTextChar(int c) {
        return c == NEWLINE || isPrintable(c);
    }

    private boolean isPrintable(int c) {
        return c >= SPACE && c <= LAST_CHAR;
    }

    private boolean isLetter(int c) {
        return c >= 'a' && c <= 'z';
    }

    private void changeLength(int slot, int length) {
        textLength[slot] = length;
        slotStatus[slot] = ERR_NOT_COMPILED;
        slotError[slot] = NONE;
    }

    public int compile(int slot) {
        if (!isSlot(slot)) {
            return ERR_ARG;
        }
        startCompile(slot);
        int result = OK;
        int place = compileFrom;
        for (int tags = 0; tags < TEXT_CAP; tags++) {
            int tag = findMark(openMark, openMarkLength, place);
            if (tag == NONE) {
                break;
            }
            result = readTag(slot, tag);
            if (result != OK) {
                place = tag;
                break;
            }
            place = tagEnd[tag];
        }
        if (result == OK && openCount > 0) {
            result = ERR_NESTING;
            place = compileTo;
        }
        slotStatus[slot] = result;
        slotError[slot] = result == OK ? NONE : place - compileFrom;
        return result;
    }

    public int status(int slot) {
        return isSlot(slot) ? slotStatus[slot] : ERR_ARG;
    }

    public int errorAt(int slot) {
        return isSlot(slot) ? slotError[slot] : NONE;
    }

    private void startCompile(int slot) {
        compileFrom = slot * TEXT_CAP;
        compileTo = textEnd(slot);
        for (int cell = compileFrom; cell < compileTo; cell++) {
            cellKind[cell] = LITERAL;
        }
        for (int i = 0; i < 2; i++) {
            openMark[i] = '{';
            closeMark[i] = '}';
        }
        openMarkLength = 2;
        closeMarkLength = 2;
        openCount = 0;
    }

    private int findMark(int[] mark, int length, int from) {
        for (int cell = from; cell + length <= compileTo; cell++) {
            if (occursAt(mark, length, cell)) {
                return cell;
            }
        }
        return NONE;
    }

    private boolean occursAt(int[] mark, int length, int cell) {
        for (int i = 0; i < length; i++) {
            if (text[cell + i] != mark[i]) {
                return false;
            }
        }
        return true;
    }

    private int readTag(int slot, int tag) {
        int from = tag + openMarkLength;
        int to = findMark(closeMark, closeMarkLength, from);
        if (to == NONE) {
            return ERR_UNCLOSED;
        }
        // The end comes before the content is read, which may switch the marks.
        tagEnd[tag] = to + closeMarkLength;
        cellKind[tag] = from < to ? kindOfTag(text[from]) : ESCAPED;
        if (!readContent(tag, from, to)) {
            return ERR_TAG;
        }
        removeLineOf(tag);
        return nestTag(slot, tag);
    }

    private int kindOfTag(int first) {
        switch (first) {
            case '!':
                return COMMENT;
            case '=':
                return DELIMITERS;
            case '#':
                return SECTION;
            case '^':
                return INVERTED;
            case '/':
                return CLOSE;
            case '&':
                return RAW;
            case '>':
                return PARTIAL;
            default:
                return ESCAPED;
        }
    }

    private boolean readContent(int tag, int from, int to) {
        int kind = cellKind[tag];
        if (kind == COMMENT) {
            return true;
        }
        if (kind == DELIMITERS) {
            return switchMarks(from, to);
        }
        int name = onlyChar(kind == ESCAPED ? from : from + 1, to);
        cellName[tag] = name;
        if (kind == PARTIAL) {
            return name >= '1' && name <= '3';
        }
        return name == '.' || isLetter(name);
    }

    private int onlyChar(int from, int to) {
        int first = skipSpaces(from, to);
        int last = skipSpacesBack(first, to);
        return last - first == 1 ? text[first] : NONE;
    }

    private int skipSpaces(int from, int to) {
        int cell = from;
        while (cell < to && text[cell] == SPACE) {
            cell++;
        }
        return cell;
    }

    private int skipSpacesBack(int from, int to) {
        int cell = to;
        while (cell > from && text[cell - 1] == SPACE) {
            cell--;
        }
        return cell;
    }

    private boolean switchMarks(int from, int to) {
        if (to - from < 3 || text[to - 1] != '=') {
            return false;
        }
        int a = skipSpaces(from + 1, to - 1);
        int bEnd = skipSpacesBack(a, to - 1);
        int aEnd = skipMarkChars(a, bEnd);
        int b = skipSpaces(aEnd, bEnd);
        // A takes every character that B could start with, so where no SPACE
        // parts the two, what is left for B is empty or breaks its rule.
        boolean whole = skipMarkChars(b, bEnd) == bEnd;
        if (!whole || !isMarkLength(aEnd - a) || !isMarkLength(bEnd - b)) {
            return false;
        }
        openMarkLength = aEnd - a;
        closeMarkLength = bEnd - b;
        copyMark(openMark, openMarkLength, a);
        copyMark(closeMark, closeMarkLength, b);
        return true;
    }

    private int skipMarkChars(int from, int to) {
        int cell = from;
        while (cell < to && text[cell] > SPACE && text[cell] != '=') {
            cell++;
        }
        return cell;
    }

    private boolean isMarkLength(int length) {
        return length >= 1 && length <= MARK_CAP;
    }

    private void copyMark(int[] mark, int length, int from) {
        for (int i = 0; i < length; i++) {
            mark[i] = text[from + i];
        }
    }

    private void removeLineOf(int tag) {
        int kind = cellKind[tag];
        if (kind == ESCAPED || kind == RAW) {
            return;
        }
        int before = skipSpacesBack(compileFrom, tag);
        int after = skipSpaces(tagEnd[tag], compileTo);
        boolean startsLine = before == compileFrom || text[before - 1] == NEWLINE;
        boolean endsLine = after == compileTo || text[after] == NEWLINE;
        if (!startsLine || !endsLine) {
            return;
        }
        for (int cell = before; cell < tag; cell++) {
            cellKind[cell] = REMOVED;
        }
        for (int cell = tagEnd[tag]; cell <= after && cell < compileTo; cell++) {
            cellKind[cell] = REMOVED;
        }
    }

    private int nestTag(int slot, int tag) {
        int kind = cellKind[tag];
        if (kind == SECTION || kind == INVERTED) {
            return openSection(tag);
        }
        if (kind == CLOSE) {
            return closeSection(tag);
        }
        return kind == PARTIAL && slot != 0 ? ERR_PARTIAL : OK;
    }

    private int openSection(int tag) {
        if (openCount >= MAX_OPEN) {
            return ERR_NESTING;
        }
        openTags[openCount] = tag;
        openCount++;
        return OK;
    }

    private int closeSection(int tag) {
        if (openCount == 0) {
            return ERR_NESTING;
        }
        int opener = openTags[openCount - 1];
        if (cellName[opener] != cellName[tag]) {
            return ERR_NESTING;
        }
        sectionEnd[opener] = tagEnd[tag];
        openCount--;
        return OK;
    }

    public int newValue(int kind, int num) {
        if (kind < KIND_FALSE || kind > KIND_MAP) {
            return ERR_ARG;
        }
        if (valueCount >= VALUE_CAP) {
            return ERR_FULL;
        }
        valueCount++;
        valueKind[valueCount] = kind;
        amount[valueCount] = kind == KIND_NUM ? num : 0;
        return valueCount;
    }

    public int appendChar(int id, int c) {
        if (kindOf(id) != KIND_STR || !isPrintable(c)) {
            return ERR_ARG;
        }
        return addPart(id, c, STR_CAP);
    }

    public int addItem(int list, int item) {
        if (kindOf(list) != KIND_LIST || !isValue(item)) {
            return ERR_ARG;
        }
        return addPart(list, item, LIST_CAP);
    }

    public int setField(int map, int key, int val) {
        if (kindOf(map) != KIND_MAP || !isLetter(key) || !isValue(val)) {
            return ERR_ARG;
        }
        int field = fieldIndex(map, key);
        if (field == NONE) {
            field = amount[map];
            int added = addPart(map, key, MAP_CAP);
            if (added != OK) {
                return added;
            }
        }
        fieldValues[map * MAP_CAP + field] = val;
        return OK;
    }

    public int valueInfo(int id, int i) {
        int kind = kindOf(id);
        if (i == -2) {
            return kind;
        }
        if (i == -1) {
            return kind == NO_KIND ? -1 : amount[id];
        }
        boolean hasParts = kind == KIND_STR || kind == KIND_LIST || kind == KIND_MAP;
        if (!hasParts || i < 0 || i >= amount[id]) {
            return -1;
        }
        return parts[id * STR_CAP + i];
    }

    public int fieldOf(int map, int key) {
        if (kindOf(map) != KIND_MAP) {
            return NO_VALUE;
        }
        int field = fieldIndex(map, key);
        return field == NONE ? NO_VALUE : fieldValues[map * MAP_CAP + field];
    }

    private int kindOf(int id) {
        return id >= 1 && id <= valueCount ? valueKind[id] : NO_KIND;
    }

    private boolean isValue(int id) {
        return kindOf(id) != NO_KIND;
    }

    private int addPart(int id, int part, int cap) {
        if (amount[id] >= cap) {
            return ERR_FULL;
        }
        parts[id * STR_CAP + amount[id]] = part;
        amount[id]++;
        return OK;
    }

    private int fieldIndex(int map, int key) {
        for (int field = 0; field < amount[map]; field++) {
            if (parts[map * STR_CAP + field] == key) {
                return field;
            }
        }
        return NONE;
    }

    public int render(int root) {
        if (slotStatus[0] != OK) {
            return ERR_NOT_COMPILED;
        }
        if (!isValue(root)) {
            return ERR_VALUE;
        }
        startRender(root);
        for (int step = 0; step < MAX_STEPS && !finished && !overflowed; step++) {
            renderStep();
        }
        return overflowed ? ERR_OVERFLOW : OK;
    }

    public int outLength() {
        return outCount;
    }

    public int outChar(int i) {
        return i >= 0 && i < outCount ? out[i] : -1;
    }

    private void startRender(int root) {
        outCount = 0;
        finished = false;
        overflowed = false;
        frameCount = 0;
        renderAt = 0;
        renderTo = textEnd(0);
        returnAt = NONE;
        pushFrame(root, NO_LIST, NONE);
    }

    private void renderStep() {
        if (renderAt >= renderTo) {
            leaveSlot();
            return;
        }
        int cell = renderAt;
        switch (cellKind[cell]) {
            case LITERAL:
                renderAt++;
                emit(text[cell]);
                break;
            case REMOVED:
                renderAt++;
                break;
            case ESCAPED:
            case RAW:
                renderAt = tagEnd[cell];
                emitVariable(cell);
                break;
            case SECTION:
                enterSection(cell);
                break;
            case INVERTED:
                enterInverted(cell);
                break;
            case CLOSE:
                endBody(cell);
                break;
            case PARTIAL:
                enterPartial(cell);
                break;
            default:
                renderAt = tagEnd[cell];
                break;
        }
    }

    private void leaveSlot() {
        if (returnAt == NONE) {
            finished = true;
            return;
        }
        renderAt = returnAt;
        renderTo = textEnd(0);
        returnAt = NONE;
    }

    private void enterPartial(int tag) {
        int slot = cellName[tag] - '0';
        if (status(slot) != OK) {
            renderAt = tagEnd[tag];
            return;
        }
        returnAt = tagEnd[tag];
        renderAt = slot * TEXT_CAP;
        renderTo = textEnd(slot);
    }

    private void enterSection(int tag) {
        int value = lookUp(cellName[tag]);
        if (isFalsey(value)) {
            renderAt = sectionEnd[tag];
            return;
        }
        renderAt = tagEnd[tag];
        if (valueKind[value] == KIND_LIST) {
            pushFrame(parts[value * STR_CAP], value, renderAt);
        } else {
            pushFrame(value, NO_LIST, renderAt);
        }
    }

    private void enterInverted(int tag) {
        int value = lookUp(cellName[tag]);
        if (!isFalsey(value)) {
            renderAt = sectionEnd[tag];
            return;
        }
        renderAt = tagEnd[tag];
        // The top frame once more: no look-up can tell it from no push at all,
        // and the close tag then finds a frame of its own, as after a section.
        int top = lookUp('.');
        pushFrame(top, NO_LIST, renderAt);
    }

    private void pushFrame(int value, int list, int body) {
        if (frameCount >= FRAME_CAP) {
            return;
        }
        frameValue[frameCount] = value;
        frameList[frameCount] = list;
        frameNext[frameCount] = 1;
        frameBody[frameCount] = body;
        frameCount++;
    }

    private void endBody(int tag) {
        renderAt = tagEnd[tag];
        if (frameCount == 0) {
            return;
        }
        int top = frameCount - 1;
        int list = frameList[top];
        int next = frameNext[top];
        if (list == NO_LIST || next >= amount[list]) {
            frameCount--;
            return;
        }
        frameValue[top] = parts[list * STR_CAP + next];
        frameNext[top]++;
        renderAt = frameBody[top];
    }

    private int lookUp(int name) {
        if (name == '.') {
            return frameCount > 0 ? frameValue[frameCount - 1] : NO_VALUE;
        }
        for (int frame = frameCount - 1; frame >= 0; frame--) {
            int value = fieldOf(frameValue[frame], name);
            if (value != NO_VALUE) {
                return value;
            }
        }
        return NO_VALUE;
    }

    private boolean isFalsey(int value) {
        int kind = kindOf(value);
        boolean emptyList = kind == KIND_LIST && amount[value] == 0;
        return kind == NO_KIND || kind == KIND_FALSE || emptyList;
    }

    private void emitVariable(int tag) {
        int value = lookUp(cellName[tag]);
        takeText(value);
        boolean raw = cellKind[tag] == RAW;
        for (int i = 0; i < valueTextLength; i++) {
            if (raw) {
                emit(valueText[i]);
            } else {
                emitEscaped(valueText[i]);
            }
        }
    }

    private void takeText(int value) {
        valueTextLength = 0;
        switch (kindOf(value)) {
            case KIND_NUM:
                takeNumber(amount[value]);
                break;
            case KIND_STR:
                for (int i = 0; i < amount[value]; i++) {
                    takeChar(parts[value * STR_CAP + i]);
                }
                break;
            case KIND_TRUE:
                takeChar('t');
                takeChar('r');
                takeChar('u');
                takeChar('e');
                break;
            case KIND_FALSE:
                takeChar('f');
                takeChar('a');
                takeChar('l');
                takeChar('s');
                takeChar('e');
                break;
            default:
                break;
        }
    }

    private void takeNumber(int num) {
        // Kept at or below zero, because the least int has no positive counterpart.
        int rest = num < 0 ? num : -num;
        int signs = num < 0 ? 1 : 0;
        int length = signs + digitCount(rest);
        valueText[0] = '-';
        for (int i = length - 1; i >= signs; i--) {
            valueText[i] = '0' - rest % 10;
            rest = rest / 10;
        }
        valueTextLength = length;
    }

    private int digitCount(int num) {
        int count = 1;
        int rest = num / 10;
        while (rest != 0 && count < INT_DIGITS) {
            count++;
            rest = rest / 10;
        }
        return count;
    }

    private void takeChar(int c) {
        if (valueTextLength < VALUE_TEXT_CAP) {
            valueText[valueTextLength] = c;
            valueTextLength++;
        }
    }

    private void emitEscaped(int c) {
        switch (c) {
            case '&':
                emitEntity('a', 'm', 'p', 0);
                break;
            case '<':
                emitEntity('l', 't', 0, 0);
                break;
            case '>':
                emitEntity('g', 't', 0, 0);
                break;
            case '"':
                emitEntity('q', 'u', 'o', 't');
                break;
            case '\'':
                emitEntity('#', '3', '9', 0);
                break;
            default:
                emit(c);
                break;
        }
    }

    private void emitEntity(int a, int b, int c, int d) {
        emit('&');
        emit(a);
        emit(b);
        if (c != 0) {
            emit(c);
        }
        if (d != 0) {
            emit(d);
        }
        emit(';');
    }

    private void emit(int c) {
        if (outCount >= outCap) {
            overflowed = true;
            return;
        }
        out[outCount] = c;
        outCount++;
    }
}
