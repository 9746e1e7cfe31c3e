/** Objects of a published text form for pages, read from a tape of bytes and written again. */
public final class SyntaxRows {
    public static final int NONE = -1;
    public static final int NULL = 0, TRUTH = 1, WHOLE = 2, REAL = 3, NAME = 4, STRING = 5, ARRAY = 6, DICTIONARY = 7, REFERENCE = 8, STREAM = 9;
    public static final int ODD = 1, DOUBLE = 2, LIES = 4;

    private static final int TAPE_ROOM = 1600;
    private static final int OUT_ROOM = 4000;
    private static final int OBJECT_ROOM = 20;
    private static final int VALUE_ROOM = 300;
    private static final int BYTE_ROOM = 2000;

    private static final int LONGEST_NAME = 40;
    private static final int LONGEST_STRING = 200;
    private static final int LONGEST_STREAM = 400;
    private static final int DEEPEST = 8;
    private static final int FIGURES_BEFORE_POINT = 9;
    private static final int FIGURES_BEHIND_POINT = 6;
    private static final long MILLION = 1000000L;
    private static final long GENERATION_UNIT = 1000000000L;

    private static final int FAULT_TAPE_ENDS = 1;
    private static final int FAULT_CANNOT_STAND = 2;
    private static final int FAULT_TEXT = 3;
    private static final int FAULT_LONG_NUMBER = 4;
    private static final int FAULT_TOO_DEEP = 5;
    private static final int FAULT_NO_ROOM = 6;
    private static final int FAULT_KEY = 7;
    private static final int FAULT_STREAM = 8;

    private static final int TAB = 9;
    private static final int LINE_FEED = 10;
    private static final int FORM_FEED = 12;
    private static final int RETURN = 13;
    private static final int BLANK = 32;
    private static final String SIGNS = "()<>[]{}/%";

    private static final String WORD_STREAM = "stream";
    private static final String WORD_ENDSTREAM = "endstream";
    private static final String WORD_ENDOBJ = "endobj";
    private static final String KEY_LENGTH = "Length";

    private final Tape tape;
    private final Values values;
    private final ObjectRows objects;
    private final Reader reader;
    private final Writer writer;

    public SyntaxRows() {
        Tape newTape = new Tape();
        Values newValues = new Values();
        ObjectRows newObjects = new ObjectRows();
        tape = newTape;
        values = newValues;
        objects = newObjects;
        reader = new Reader(newTape, newValues, newObjects);
        writer = new Writer(newValues, newObjects);
    }

    public int feed(int n, long bytes) throws IllegalArgumentException {
        if (n < 1 || n > 8) {
            throw new IllegalArgumentException("n is 1 to 8");
        }
        if (tape.size() + n > TAPE_ROOM) {
            return NONE;
        }
        for (int i = 0; i < n; i++) {
            tape.add((int) (bytes >>> (8 * i)) & 255);
        }
        return tape.size();
    }

    public int wipe() {
        int had = tape.size();
        tape.clear();
        return had;
    }

    public int read() {
        return reader.readTape();
    }

    public int object(int i, int what) throws IndexOutOfBoundsException {
        if (!objects.has(i) || what < 0 || what >= ObjectRows.WIDTH) {
            throw new IndexOutOfBoundsException("no such object or what");
        }
        return objects.entry(i, what);
    }

    public int find(int number, int generation) {
        return objects.latest(number, generation);
    }

    public int value(int v, int what) throws IndexOutOfBoundsException {
        if (!values.has(v) || what < 0 || what > 2) {
            throw new IndexOutOfBoundsException("no such value or what");
        }
        if (what == 0) {
            return values.kindOf(v);
        }
        return what == 1 ? values.partsOf(v) : values.lengthOf(v);
    }

    public long number(int v) throws IndexOutOfBoundsException {
        if (!values.has(v)) {
            throw new IndexOutOfBoundsException("no such value");
        }
        return values.numberOf(v);
    }

    public int byteOf(int v, int k) throws IndexOutOfBoundsException {
        if (!values.has(v)) {
            throw new IndexOutOfBoundsException("no such value");
        }
        return values.byteAt(v, k);
    }

    public int child(int v, int k) throws IndexOutOfBoundsException {
        if (!values.has(v)) {
            throw new IndexOutOfBoundsException("no such value");
        }
        return values.partAt(v, k);
    }

    public int lookup(int v, int key) throws IndexOutOfBoundsException {
        if (!values.has(v) || !values.has(key)) {
            throw new IndexOutOfBoundsException("no such values");
        }
        int dictionary = values.kindOf(v) == STREAM ? values.firstOf(v) : v;
        if (values.kindOf(dictionary) != DICTIONARY || values.kindOf(key) != NAME) {
            return NONE;
        }
        return values.heldBy(values.keyLike(dictionary, key));
    }

    public int write(int v, boolean readable, boolean all) throws IndexOutOfBoundsException {
        if (!all && !values.has(v)) {
            throw new IndexOutOfBoundsException("no such value");
        }
        return writer.writeAnew(v, readable, all);
    }

    public int out(int i) {
        return writer.at(i);
    }

    public int take() {
        int size = writer.size();
        if (size > TAPE_ROOM) {
            return NONE;
        }
        tape.clear();
        for (int i = 0; i < size; i++) {
            tape.add(writer.at(i));
        }
        return size;
    }

    public int told(int what) throws IndexOutOfBoundsException {
        switch (what) {
            case 0:
                return tape.size();
            case 1:
                return writer.size();
            case 2:
                return objects.size();
            case 3:
                return values.size();
            case 4:
                return reader.strayBytes();
            default:
                throw new IndexOutOfBoundsException("no such what");
        }
    }

    private static boolean isPlainWhite(int b) {
        return b == 0 || b == TAB || b == LINE_FEED || b == FORM_FEED || b == RETURN || b == BLANK;
    }

    private static boolean isRegular(int b) {
        return b > BLANK && b < 127 && SIGNS.indexOf((char) b) < 0;
    }

    private static boolean isLineEnd(int b) {
        return b == LINE_FEED || b == RETURN;
    }

    private static boolean isFigure(int b) {
        return b >= '0' && b <= '9';
    }

    /** What a figure of base 16 counts; NONE for any other byte. */
    private static int figure16(int b) {
        if (isFigure(b)) {
            return b - '0';
        }
        if (b >= 'a' && b <= 'f') {
            return b - 'a' + 10;
        }
        return b >= 'A' && b <= 'F' ? b - 'A' + 10 : NONE;
    }

    /** The bytes that are read, and what can be told of them without knowing where in an object they stand. */
    private static final class Tape {
        private final byte[] bytes = new byte[TAPE_ROOM];
        private int size = 0;

        int size() {
            return size;
        }

        void clear() {
            size = 0;
        }

        void add(int b) {
            if (size < TAPE_ROOM) {
                bytes[size] = (byte) b;
                size++;
            }
        }

        /** NONE where the tape has no byte: it is no byte of any sort, so callers need not ask for the end first. */
        int at(int i) {
            return i < 0 || i >= size ? NONE : bytes[i] & 255;
        }

        int behindWhite(int from) {
            boolean remark = false;
            for (int i = from; i < size; i++) {
                int b = at(i);
                if (isLineEnd(b)) {
                    remark = false;
                } else if (b == '%') {
                    remark = true;
                } else if (!remark && !isPlainWhite(b)) {
                    return i;
                }
            }
            return size;
        }

        int behindWord(int from) {
            for (int i = from; i < size; i++) {
                if (!isRegular(at(i))) {
                    return i;
                }
            }
            return size;
        }

        int behindLineEnd(int from) {
            if (at(from) == RETURN && at(from + 1) == LINE_FEED) {
                return from + 2;
            }
            return isLineEnd(at(from)) ? from + 1 : from;
        }

        boolean textStands(int from, String text) {
            if (from < 0 || from > size - text.length()) {
                return false;
            }
            for (int k = 0; k < text.length(); k++) {
                if (bytes[from + k] != text.charAt(k)) {
                    return false;
                }
            }
            return true;
        }

        boolean wordStands(int from, String word) {
            return textStands(from, word) && !isRegular(at(from + word.length()));
        }

        int firstText(int from, String text) {
            for (int i = from; i < size; i++) {
                if (textStands(i, text)) {
                    return i;
                }
            }
            return NONE;
        }

        /** Behind a word of one to nine figures; NONE where none stands. */
        int behindFigures(int from) {
            int i = from;
            for (int n = 0; n < FIGURES_BEFORE_POINT && isFigure(at(i)); n++) {
                i++;
            }
            return i == from || isRegular(at(i)) ? NONE : i;
        }

        int figuresBetween(int from, int to) {
            int sum = 0;
            for (int i = from; i < to; i++) {
                sum = sum * 10 + at(i) - '0';
            }
            return sum;
        }
    }

    /**
     * The values in rows: parts of an array and keys of a dictionary are chains (firsts, nexts), so that a key can
     * leave the midst of its dictionary; a key holds its value.
     */
    private static final class Values {
        private final int[] kinds = new int[VALUE_ROOM];
        private final long[] numbers = new long[VALUE_ROOM];
        private final int[] starts = new int[VALUE_ROOM];
        private final int[] lengths = new int[VALUE_ROOM];
        private final int[] parts = new int[VALUE_ROOM];
        private final int[] firsts = new int[VALUE_ROOM];
        private final int[] lasts = new int[VALUE_ROOM];
        private final int[] nexts = new int[VALUE_ROOM];
        private final int[] helds = new int[VALUE_ROOM];
        private final byte[] bytes = new byte[BYTE_ROOM];
        private int size = 0;
        private int byteSize = 0;

        int size() {
            return size;
        }

        int byteSize() {
            return byteSize;
        }

        boolean has(int v) {
            return v >= 0 && v < size;
        }

        /** Forgets all values and bytes behind so many. */
        void cutBack(int toSize, int toByteSize) {
            size = Math.max(0, Math.min(size, toSize));
            byteSize = Math.max(0, Math.min(byteSize, toByteSize));
        }

        /** A new value, null for the time being; NONE without room for it. */
        int add() {
            if (size >= VALUE_ROOM) {
                return NONE;
            }
            int v = size;
            size++;
            kinds[v] = NULL;
            numbers[v] = 0;
            starts[v] = byteSize;
            lengths[v] = 0;
            parts[v] = 0;
            firsts[v] = NONE;
            lasts[v] = NONE;
            nexts[v] = NONE;
            helds[v] = NONE;
            return v;
        }

        void setKind(int v, int kind, long number) {
            if (has(v)) {
                kinds[v] = kind;
                numbers[v] = number;
            }
        }

        /** Works for the latest value with bytes alone, as those of one value lie side by side. */
        boolean addByte(int v, int b) {
            if (v < 0 || v >= size || byteSize >= BYTE_ROOM) {
                return false;
            }
            bytes[byteSize] = (byte) b;
            byteSize++;
            lengths[v]++;
            return true;
        }

        void addPart(int v, int part) {
            if (has(v) && has(part)) {
                chain(v, part);
                parts[v]++;
            }
        }

        void addKey(int dictionary, int key, int held) {
            if (has(dictionary) && has(key)) {
                chain(dictionary, key);
                parts[dictionary] += 2;
                helds[key] = held;
            }
        }

        void holdAnew(int key, int held) {
            if (has(key)) {
                helds[key] = held;
            }
        }

        void removeKey(int dictionary, int key) {
            if (!has(dictionary) || !has(key)) {
                return;
            }
            int before = NONE;
            int k = firsts[dictionary];
            for (int n = 0; n < VALUE_ROOM && has(k) && k != key; n++) {
                before = k;
                k = nexts[k];
            }
            if (k != key) {
                return;
            }
            if (has(before)) {
                nexts[before] = nexts[key];
            } else {
                firsts[dictionary] = nexts[key];
            }
            if (lasts[dictionary] == key) {
                lasts[dictionary] = before;
            }
            parts[dictionary] -= 2;
        }

        int kindOf(int v) {
            return has(v) ? kinds[v] : NONE;
        }

        long numberOf(int v) {
            return has(v) ? numbers[v] : 0;
        }

        int partsOf(int v) {
            return has(v) ? parts[v] : 0;
        }

        int lengthOf(int v) {
            return v < 0 || v >= size ? 0 : lengths[v];
        }

        int firstOf(int v) {
            return has(v) ? firsts[v] : NONE;
        }

        int nextOf(int v) {
            return has(v) ? nexts[v] : NONE;
        }

        int heldBy(int key) {
            return has(key) ? helds[key] : NONE;
        }

        int byteAt(int v, int k) {
            if (v < 0 || v >= size || k < 0 || k >= lengths[v]) {
                return NONE;
            }
            int i = starts[v] + k;
            return i < 0 || i >= byteSize ? NONE : bytes[i] & 255;
        }

        int partAt(int v, int k) {
            if (!has(v) || k < 0 || k >= parts[v]) {
                return NONE;
            }
            boolean keyed = kinds[v] == DICTIONARY;
            int steps = keyed ? k / 2 : k;
            int part = firsts[v];
            for (int n = 0; n < steps; n++) {
                part = nextOf(part);
            }
            return keyed && k % 2 == 1 ? heldBy(part) : part;
        }

        /** The key of a dictionary that is the same name; NONE when it has none such. */
        int keyLike(int dictionary, int name) {
            int key = firstOf(dictionary);
            for (int n = 0; n < VALUE_ROOM && has(key); n++) {
                if (sameBytes(key, name)) {
                    return key;
                }
                key = nextOf(key);
            }
            return NONE;
        }

        int keySpelled(int dictionary, String text) {
            int key = firstOf(dictionary);
            for (int n = 0; n < VALUE_ROOM && has(key); n++) {
                if (isSpelled(key, text)) {
                    return key;
                }
                key = nextOf(key);
            }
            return NONE;
        }

        private void chain(int v, int part) {
            int last = lasts[v];
            if (last >= 0 && last < size) {
                nexts[last] = part;
            } else {
                firsts[v] = part;
            }
            lasts[v] = part;
        }

        private boolean sameBytes(int v, int w) {
            if (lengthOf(v) != lengthOf(w)) {
                return false;
            }
            for (int k = 0; k < lengthOf(v); k++) {
                if (byteAt(v, k) != byteAt(w, k)) {
                    return false;
                }
            }
            return true;
        }

        private boolean isSpelled(int v, String text) {
            if (lengthOf(v) != text.length()) {
                return false;
            }
            for (int k = 0; k < text.length(); k++) {
                if (byteAt(v, k) != text.charAt(k)) {
                    return false;
                }
            }
            return true;
        }
    }

    /** The objects of the latest read, a row each, its entries in the order of what object() can be asked for. */
    private static final class ObjectRows {
        private static final int NUMBER = 0, GENERATION = 1, VALUE = 2, FAULT = 3, PLACE = 4, NOTED = 5, BEGIN = 6, END = 7;
        private static final int WIDTH = 8;

        private final int[] entries = new int[OBJECT_ROOM * WIDTH];
        private int size = 0;

        int size() {
            return size;
        }

        boolean has(int i) {
            return i >= 0 && i < size;
        }

        boolean hasRoom() {
            return size < OBJECT_ROOM;
        }

        void clear() {
            size = 0;
        }

        /** A new row without a value, so that an object cannot be found before it has been read to its end. */
        int begin(int number, int generation, int place) {
            if (!hasRoom()) {
                return NONE;
            }
            int i = size;
            size++;
            setEntry(i, NUMBER, number);
            setEntry(i, GENERATION, generation);
            setEntry(i, VALUE, NONE);
            setEntry(i, BEGIN, place);
            return i;
        }

        void end(int i, int value, int fault, int faultPlace, int noted, int place) {
            setEntry(i, VALUE, value);
            setEntry(i, FAULT, fault);
            setEntry(i, PLACE, faultPlace);
            setEntry(i, NOTED, noted);
            setEntry(i, END, place);
        }

        int entry(int i, int what) {
            return has(i) && what >= 0 && what < WIDTH ? entries[i * WIDTH + what] : NONE;
        }

        int valueOf(int i) {
            return entry(i, VALUE);
        }

        int latest(int number, int generation) {
            for (int i = size - 1; i >= 0; i--) {
                if (entry(i, NUMBER) == number && entry(i, GENERATION) == generation && entry(i, VALUE) != NONE) {
                    return i;
                }
            }
            return NONE;
        }

        private void setEntry(int i, int what, int entry) {
            if (has(i) && what >= 0 && what < WIDTH) {
                entries[i * WIDTH + what] = entry;
            }
        }
    }

    /** Goes over the tape; its methods that read answer NONE when they have met a fault. */
    private static final class Reader {
        private static final int NO_BYTE = -2;

        private final Tape tape;
        private final Values values;
        private final ObjectRows objects;
        private int at = 0;
        private int fault = 0;
        private int faultPlace = NONE;
        private int noted = 0;
        private int stray = 0;
        private int pairFirst = 0;
        private int pairSecond = 0;

        Reader(Tape tape, Values values, ObjectRows objects) {
            this.tape = tape;
            this.values = values;
            this.objects = objects;
        }

        int strayBytes() {
            return stray;
        }

        int readTape() {
            values.cutBack(0, 0);
            objects.clear();
            stray = 0;
            at = tape.behindWhite(0);
            for (int step = 0; step < TAPE_ROOM && at < tape.size(); step++) {
                int behind = objects.hasRoom() ? behindPair(at, "obj") : NONE;
                if (behind == NONE) {
                    stray++;
                    at++;
                } else {
                    readObject(at, behind);
                }
                at = tape.behindWhite(at);
            }
            return objects.size();
        }

        /** Behind two words of figures and a third word, the figures being kept; NONE where these do not stand. */
        private int behindPair(int from, String third) {
            int firstEnd = tape.behindFigures(from);
            if (firstEnd == NONE) {
                return NONE;
            }
            int second = tape.behindWhite(firstEnd);
            int secondEnd = tape.behindFigures(second);
            if (secondEnd == NONE) {
                return NONE;
            }
            int last = tape.behindWhite(secondEnd);
            if (!tape.wordStands(last, third)) {
                return NONE;
            }
            pairFirst = tape.figuresBetween(from, firstEnd);
            pairSecond = tape.figuresBetween(second, secondEnd);
            return last + third.length();
        }

        private void readObject(int begin, int behindHead) {
            int object = objects.begin(pairFirst, pairSecond, begin);
            int valuesBefore = values.size();
            int bytesBefore = values.byteSize();
            fault = 0;
            faultPlace = NONE;
            noted = 0;
            at = behindHead;
            int v = readValue(0);
            if (v != NONE) {
                v = readStreamOf(v);
            }
            if (v == NONE || !readEnd()) {
                v = NONE;
                values.cutBack(valuesBefore, bytesBefore);
                at = behindNextEnd(faultPlace);
            }
            objects.end(object, v, fault, faultPlace, noted, at);
        }

        private int fail(int which, int place) {
            fault = which;
            faultPlace = place;
            return NONE;
        }

        private boolean readEnd() {
            at = tape.behindWhite(at);
            if (!tape.wordStands(at, WORD_ENDOBJ)) {
                fail(at < tape.size() ? FAULT_CANNOT_STAND : FAULT_TAPE_ENDS, at);
                return false;
            }
            at += WORD_ENDOBJ.length();
            return true;
        }

        private int behindNextEnd(int from) {
            for (int i = from; i < tape.size(); i++) {
                if (tape.wordStands(i, WORD_ENDOBJ) && !isRegular(tape.at(i - 1))) {
                    return i + WORD_ENDOBJ.length();
                }
            }
            return tape.size();
        }

        /** Depth is how many arrays and dictionaries are open round the value. */
        private int readValue(int depth) {
            at = tape.behindWhite(at);
            int first = tape.at(at);
            if (first == NONE) {
                return fail(FAULT_TAPE_ENDS, at);
            }
            boolean opensDictionary = first == '<' && tape.at(at + 1) == '<';
            if ((first == '[' || opensDictionary) && depth >= DEEPEST) {
                return fail(FAULT_TOO_DEEP, at);
            }
            // Room is looked at for a value's first byte alone, so a byte that begins none is told as itself.
            if (!beginsValue(first)) {
                return fail(FAULT_CANNOT_STAND, at);
            }
            int v = values.add();
            if (v == NONE) {
                return fail(FAULT_NO_ROOM, at);
            }
            if (opensDictionary) {
                return readDictionary(v, depth);
            }
            switch (first) {
                case '[':
                    return readArray(v, depth);
                case '/':
                    return readName(v);
                case '(':
                    return readString(v);
                case '<':
                    return readFigureString(v);
                default:
                    return readWord(v);
            }
        }

        private static boolean beginsValue(int b) {
            return isRegular(b) || b == '/' || b == '(' || b == '<' || b == '[';
        }

        private int readArray(int v, int depth) {
            values.setKind(v, ARRAY, 0);
            at++;
            for (int step = 0; step <= TAPE_ROOM && fault == 0; step++) {
                at = tape.behindWhite(at);
                if (tape.at(at) == ']') {
                    at++;
                    return v;
                }
                values.addPart(v, readValue(depth + 1));
            }
            return NONE;
        }

        private int readDictionary(int v, int depth) {
            values.setKind(v, DICTIONARY, 0);
            at += 2;
            for (int step = 0; step <= TAPE_ROOM && fault == 0; step++) {
                at = tape.behindWhite(at);
                if (tape.textStands(at, ">>")) {
                    at += 2;
                    return v;
                }
                int key = beginKey();
                if (key != NONE) {
                    key = readName(key);
                }
                int held = key == NONE ? NONE : readValue(depth + 1);
                if (held != NONE) {
                    enter(v, key, held, values.keyLike(v, key));
                }
            }
            return NONE;
        }

        private int beginKey() {
            if (at >= tape.size()) {
                return fail(FAULT_TAPE_ENDS, at);
            }
            if (tape.at(at) != '/') {
                return fail(FAULT_KEY, at);
            }
            int key = values.add();
            return key == NONE ? fail(FAULT_NO_ROOM, at) : key;
        }

        /** There is the same key of the dictionary that came before, or NONE. */
        private void enter(int dictionary, int key, int held, int there) {
            boolean isNull = values.kindOf(held) == NULL;
            if (there == NONE) {
                if (!isNull) {
                    values.addKey(dictionary, key, held);
                }
                return;
            }
            noted |= DOUBLE;
            if (isNull) {
                values.removeKey(dictionary, there);
            } else {
                values.holdAnew(there, held);
            }
        }

        private int readName(int v) {
            int begin = at;
            int end = tape.behindWord(begin + 1);
            values.setKind(v, NAME, 0);
            at++;
            for (int step = 0; step < TAPE_ROOM && at < end; step++) {
                int b = tape.at(at);
                int high = figure16(tape.at(at + 1));
                int low = figure16(tape.at(at + 2));
                boolean coded = b == '#' && high != NONE && low != NONE;
                if (coded && high + low == 0) {
                    return fail(FAULT_TEXT, begin);
                }
                if (!putByte(v, coded ? high * 16 + low : b, LONGEST_NAME, begin)) {
                    return NONE;
                }
                at += coded ? 3 : 1;
            }
            return v;
        }

        private boolean putByte(int v, int b, int longest, int begin) {
            if (values.lengthOf(v) >= longest) {
                fail(FAULT_TEXT, begin);
                return false;
            }
            if (!values.addByte(v, b)) {
                fail(FAULT_NO_ROOM, begin);
                return false;
            }
            return true;
        }

        private int readString(int v) {
            int begin = at;
            int open = 1;
            values.setKind(v, STRING, 0);
            at++;
            for (int step = 0; step < TAPE_ROOM && at < tape.size(); step++) {
                int b = tape.at(at);
                if (b == ')' && open == 1) {
                    at++;
                    return v;
                }
                int meant = b;
                if (b == '\\') {
                    meant = readEscape();
                } else if (isLineEnd(b)) {
                    meant = LINE_FEED;
                    at = tape.behindLineEnd(at);
                } else {
                    open += b == '(' ? 1 : b == ')' ? -1 : 0;
                    at++;
                }
                if (meant != NO_BYTE && !putByte(v, meant, LONGEST_STRING, begin)) {
                    return NONE;
                }
            }
            return fail(FAULT_TAPE_ENDS, tape.size());
        }

        /** The byte that a \ and what follows it stand for; NO_BYTE for the end of a line, or of the tape. */
        private int readEscape() {
            at++;
            int b = tape.at(at);
            if (b == NONE) {
                return NO_BYTE;
            }
            if (isLineEnd(b)) {
                at = tape.behindLineEnd(at);
                return NO_BYTE;
            }
            if (b >= '0' && b <= '7') {
                return readOctal();
            }
            at++;
            switch (b) {
                case 'n':
                    return LINE_FEED;
                case 'r':
                    return RETURN;
                case 't':
                    return TAB;
                case 'b':
                    return 8;
                case 'f':
                    return FORM_FEED;
                default:
                    return b;
            }
        }

        private int readOctal() {
            int sum = 0;
            for (int n = 0; n < 3 && tape.at(at) >= '0' && tape.at(at) <= '7'; n++) {
                sum = sum * 8 + tape.at(at) - '0';
                at++;
            }
            return sum & 255;
        }

        private int readFigureString(int v) {
            int begin = at;
            int high = NONE;
            values.setKind(v, STRING, 0);
            at++;
            for (int step = 0; step < TAPE_ROOM && at < tape.size(); step++) {
                int b = tape.at(at);
                if (b == '>') {
                    return endFigureString(v, high, begin);
                }
                int figure = figure16(b);
                if (figure == NONE && !isPlainWhite(b)) {
                    return fail(FAULT_CANNOT_STAND, at);
                }
                if (figure != NONE && high == NONE) {
                    high = figure;
                } else if (figure != NONE) {
                    if (!putByte(v, high * 16 + figure, LONGEST_STRING, begin)) {
                        return NONE;
                    }
                    high = NONE;
                }
                at++;
            }
            return fail(FAULT_TAPE_ENDS, tape.size());
        }

        private int endFigureString(int v, int high, int begin) {
            at++;
            if (high == NONE) {
                return v;
            }
            if (!putByte(v, high * 16, LONGEST_STRING, begin)) {
                return NONE;
            }
            noted |= ODD;
            return v;
        }

        private int readWord(int v) {
            int begin = at;
            int behindReference = behindPair(begin, "R");
            if (behindReference != NONE) {
                values.setKind(v, REFERENCE, pairSecond * GENERATION_UNIT + pairFirst);
                at = behindReference;
                return v;
            }
            at = tape.behindWord(begin);
            if (tape.wordStands(begin, "null")) {
                return v;
            }
            if (tape.wordStands(begin, "true") || tape.wordStands(begin, "false")) {
                values.setKind(v, TRUTH, tape.at(begin) == 't' ? 1 : 0);
                return v;
            }
            return readNumber(v, begin, at);
        }

        private int readNumber(int v, int begin, int end) {
            int signs = 0;
            int points = 0;
            int before = 0;
            int behind = 0;
            long sum = 0;
            for (int i = begin; i < end; i++) {
                int b = tape.at(i);
                if ((b == '+' || b == '-') && before + points == 0) {
                    signs++;
                } else if (b == '.' && points == 0) {
                    points++;
                } else if (isFigure(b)) {
                    sum = sum * 10 + b - '0';
                    before += 1 - points;
                    behind += points;
                } else {
                    return fail(FAULT_CANNOT_STAND, begin);
                }
            }
            if (before + behind == 0) {
                return fail(FAULT_CANNOT_STAND, begin);
            }
            if (before > FIGURES_BEFORE_POINT || behind > FIGURES_BEHIND_POINT) {
                return fail(FAULT_LONG_NUMBER, begin);
            }
            for (int n = behind; points > 0 && n < FIGURES_BEHIND_POINT; n++) {
                sum *= 10;
            }
            noted |= signs > 1 ? ODD : 0;
            values.setKind(v, points > 0 ? REAL : WHOLE, tape.at(begin) == '-' ? -sum : sum);
            return v;
        }

        /** The stream whose dictionary v is; v itself where no stream stands. */
        private int readStreamOf(int v) {
            at = tape.behindWhite(at);
            if (values.kindOf(v) != DICTIONARY || !tape.wordStands(at, WORD_STREAM)) {
                return v;
            }
            int begin = at;
            int stream = values.add();
            if (stream == NONE) {
                return fail(FAULT_NO_ROOM, begin);
            }
            int from = behindStreamLine(begin + WORD_STREAM.length());
            if (from == NONE) {
                return NONE;
            }
            int length = lengthTold(v);
            int end = length < 0 ? NONE : behindEndstream(from + length);
            if (end == NONE) {
                int found = tape.firstText(from, WORD_ENDSTREAM);
                if (found == NONE) {
                    return fail(FAULT_STREAM, begin);
                }
                noted |= LIES;
                length = beforeLineEnd(from, found) - from;
                end = found + WORD_ENDSTREAM.length();
            }
            values.setKind(stream, STREAM, 0);
            values.addPart(stream, v);
            at = end;
            return copyStream(stream, from, length, begin) ? stream : NONE;
        }

        private int behindStreamLine(int from) {
            int lineFeed = tape.at(from) == RETURN ? from + 1 : from;
            if (tape.at(lineFeed) == LINE_FEED) {
                return lineFeed + 1;
            }
            return fail(lineFeed < tape.size() ? FAULT_CANNOT_STAND : FAULT_TAPE_ENDS, lineFeed);
        }

        /** What Length tells; below 0 when it tells nothing of use. */
        private int lengthTold(int dictionary) {
            int told = values.heldBy(values.keySpelled(dictionary, KEY_LENGTH));
            if (values.kindOf(told) == REFERENCE) {
                long both = values.numberOf(told);
                int object = objects.latest((int) (both % GENERATION_UNIT), (int) (both / GENERATION_UNIT));
                told = objects.valueOf(object);
            }
            return values.kindOf(told) == WHOLE ? (int) values.numberOf(told) : NONE;
        }

        private int behindEndstream(int from) {
            int word = tape.behindLineEnd(from);
            return tape.wordStands(word, WORD_ENDSTREAM) ? word + WORD_ENDSTREAM.length() : NONE;
        }

        private int beforeLineEnd(int from, int to) {
            if (to - 2 >= from && tape.behindLineEnd(to - 2) == to) {
                return to - 2;
            }
            return to - 1 >= from && isLineEnd(tape.at(to - 1)) ? to - 1 : to;
        }

        private boolean copyStream(int stream, int from, int length, int begin) {
            if (length > LONGEST_STREAM) {
                fail(FAULT_STREAM, begin);
                return false;
            }
            for (int k = 0; k < length; k++) {
                if (!values.addByte(stream, tape.at(from + k))) {
                    fail(FAULT_NO_ROOM, begin);
                    return false;
                }
            }
            return true;
        }
    }

    /** Holds OUT. It goes twice over what it writes, and keeps bytes the second time only, when they have room. */
    private static final class Writer {
        private static final int NOTHING = 0, WORD = 1, NAMED = 2, TEXT = 3, OPENING = 4, CLOSING = 5;
        private static final String FIGURES_16 = "0123456789ABCDEF";

        private final Values values;
        private final ObjectRows objects;
        private final byte[] bytes = new byte[OUT_ROOM];
        private int size = 0;
        private int put = 0;
        private boolean keeps = false;
        private boolean readable = false;
        private int before = NOTHING;

        Writer(Values values, ObjectRows objects) {
            this.values = values;
            this.objects = objects;
        }

        int size() {
            return size;
        }

        int at(int i) {
            return i < 0 || i >= size ? NONE : bytes[i] & 255;
        }

        int writeAnew(int v, boolean readably, boolean all) {
            readable = readably;
            keeps = false;
            goOver(v, all);
            if (put > OUT_ROOM) {
                return NONE;
            }
            keeps = true;
            goOver(v, all);
            size = put;
            return size;
        }

        private void goOver(int v, boolean all) {
            put = 0;
            before = NOTHING;
            if (!all) {
                putValue(v, 0);
                return;
            }
            for (int i = 0; i < objects.size(); i++) {
                if (objects.valueOf(i) != NONE) {
                    putHead(i);
                    putValue(objects.valueOf(i), 0);
                    putText("\nendobj\n");
                }
            }
        }

        private void putHead(int i) {
            putFigures(objects.entry(i, ObjectRows.NUMBER));
            putByte(BLANK);
            putFigures(objects.entry(i, ObjectRows.GENERATION));
            putText(" obj\n");
            before = NOTHING;
        }

        private void putByte(int b) {
            if (keeps && put >= 0 && put < OUT_ROOM) {
                bytes[put] = (byte) b;
            }
            put++;
        }

        private void putText(String text) {
            for (int k = 0; k < text.length(); k++) {
                putByte(text.charAt(k));
            }
        }

        /** At most nine figures, as no number has more before its point. */
        private void putFigures(long n) {
            for (long unit = 100000000L; unit > 0; unit /= 10) {
                if (n >= unit || unit == 1) {
                    putByte('0' + (int) (n / unit % 10));
                }
            }
        }

        private void putFigures16(int b) {
            putByte(FIGURES_16.charAt(b >> 4 & 15));
            putByte(FIGURES_16.charAt(b & 15));
        }

        /** The blank that is due between what was written last and what comes now. */
        private void putGap(int now) {
            boolean blank;
            if (readable) {
                blank = before != NOTHING && before != OPENING && now != CLOSING;
            } else {
                blank = now == WORD && (before == WORD || before == NAMED);
            }
            if (blank) {
                putByte(BLANK);
            }
            before = now;
        }

        private void putMark(int sort, String text) {
            putGap(sort);
            putText(text);
        }

        private void putValue(int v, int depth) {
            switch (values.kindOf(v)) {
                case TRUTH:
                    putMark(WORD, values.numberOf(v) == 1 ? "true" : "false");
                    break;
                case WHOLE:
                    putWhole(values.numberOf(v));
                    break;
                case REAL:
                    putReal(values.numberOf(v));
                    break;
                case NAME:
                    putName(v);
                    break;
                case STRING:
                    putString(v);
                    break;
                case ARRAY:
                    putArray(v, depth);
                    break;
                case DICTIONARY:
                    putDictionary(v, NONE, depth);
                    break;
                case REFERENCE:
                    putReference(values.numberOf(v));
                    break;
                case STREAM:
                    putDictionary(values.firstOf(v), values.lengthOf(v), depth);
                    putStreamBytes(v);
                    break;
                default:
                    putMark(WORD, "null");
                    break;
            }
        }

        private void putWhole(long n) {
            putGap(WORD);
            if (n < 0) {
                putByte('-');
            }
            putFigures(Math.abs(n));
        }

        private void putReal(long millionths) {
            long n = Math.abs(millionths);
            putGap(WORD);
            if (millionths < 0) {
                putByte('-');
            }
            if (n >= MILLION) {
                putFigures(n / MILLION);
            }
            putByte('.');
            long rest = n % MILLION;
            for (long unit = MILLION / 10; unit > 0 && rest > 0; unit /= 10) {
                putByte('0' + (int) (rest / unit));
                rest %= unit;
            }
            if (n == 0) {
                putByte('0');
            }
        }

        private void putReference(long both) {
            putGap(WORD);
            putFigures(both % GENERATION_UNIT);
            putByte(BLANK);
            putFigures(both / GENERATION_UNIT);
            putText(" R");
        }

        private void putName(int v) {
            putGap(NAMED);
            putByte('/');
            for (int k = 0; k < values.lengthOf(v); k++) {
                int b = values.byteAt(v, k);
                if (isRegular(b) && b != '#') {
                    putByte(b);
                } else {
                    putByte('#');
                    putFigures16(b);
                }
            }
        }

        /** Never as < .. >: in ( .. ) a byte takes two at most, so that < .. > cannot be shorter. */
        private void putString(int v) {
            putMark(TEXT, "(");
            for (int k = 0; k < values.lengthOf(v); k++) {
                int b = values.byteAt(v, k);
                if (b == '\\' || b == '(' || b == ')' || b == RETURN) {
                    putByte('\\');
                }
                putByte(b == RETURN ? 'r' : b);
            }
            putByte(')');
        }

        private void putArray(int v, int depth) {
            putMark(OPENING, "[");
            int part = values.firstOf(v);
            for (int n = 0; n < values.partsOf(v) && depth < DEEPEST; n++) {
                putValue(part, depth + 1);
                part = values.nextOf(part);
            }
            putMark(CLOSING, "]");
        }

        /** With a stream's length, not NONE, that stands for the value of Length. */
        private void putDictionary(int v, int streamLength, int depth) {
            int lengthKey = streamLength == NONE ? NONE : values.keySpelled(v, KEY_LENGTH);
            putMark(OPENING, "<<");
            int key = values.firstOf(v);
            for (int n = 0; n < values.partsOf(v) / 2 && depth < DEEPEST; n++) {
                putName(key);
                if (key == lengthKey) {
                    putWhole(streamLength);
                } else {
                    putValue(values.heldBy(key), depth + 1);
                }
                key = values.nextOf(key);
            }
            if (streamLength != NONE && lengthKey == NONE) {
                putMark(NAMED, "/Length");
                putWhole(streamLength);
            }
            putMark(CLOSING, ">>");
        }

        private void putStreamBytes(int v) {
            putText("\nstream\n");
            for (int k = 0; k < values.lengthOf(v); k++) {
                putByte(values.byteAt(v, k));
            }
            putText("\nendstream");
        }
    }
}
