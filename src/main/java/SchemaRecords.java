import java.util.Arrays;

/**
 * Texts of schemas and of records by them: what can't stand is told by its place; a record becomes
 * a row of nodes, also made by hand, and is written in one form.
 */
public final class SchemaRecords {
    public static final int NONE = -1;

    private static final int TOO_FEW = -2;

    private static final int REQUIRED = 0;
    private static final int OPTIONAL = 1;
    private static final int REPEATED = 2;

    private static final int BOOL = 0;
    private static final int INT = 1;
    private static final int LONG = 2;
    private static final int TEXT = 3;
    private static final int GROUP = 4;

    private static final int TAPE_ROOM = 4000;
    private static final int BYTES_A_FEED = 20;
    private static final int MAX_NAME = 16;
    private static final int MAX_FIELDS = 128;
    private static final int MAX_COLUMNS = 64;
    private static final int MAX_DEPTH = 16;
    private static final int MAX_TEXT = 255;
    private static final int MAX_NODES = 2000;
    private static final int MAX_TEXT_BYTES = 16000;
    private static final int FIRST_OUTPUT_ROOM = 1024;
    private static final int MOST_OUTPUT_ROOM = 262144;

    private static final long LOWEST_INT = -2147483648L;
    private static final long LOWEST_LONG = -9223372036854775807L - 1L;

    private static final byte[] NO_BYTES = {};

    private final Tape tape;
    private final ByteRow written;
    private Schema known;
    private NodeRow present;
    private NodeRow spare;

    public SchemaRecords() {
        tape = new Tape();
        written = new ByteRow();
        known = new Schema();
        present = new NodeRow();
        spare = new NodeRow();
    }

    public boolean feed(int a, int b, int c, int d, int e) {
        if (!tape.hasRoom()) {
            return false;
        }
        tape.putFour(a);
        tape.putFour(b);
        tape.putFour(c);
        tape.putFour(d);
        tape.putFour(e);
        return true;
    }

    public int schema(int n) {
        Scanner text = tape.cut(n);
        if (text == null) {
            return TOO_FEW;
        }
        Schema read = new Schema();
        if (!new SchemaReader(text, read).readSchema()) {
            return text.fault;
        }
        known = read;
        present.clear();
        return NONE;
    }

    public int count(int what) {
        if (what == 0) {
            return known.size;
        }
        return what == 1 ? known.columnCount : NONE;
    }

    public int field(int f, int what) {
        Field asked = known.fieldAt(f);
        return asked == null ? NONE : asked.property(what);
    }

    public int letter(int f, int k) {
        Field asked = known.fieldAt(f);
        return asked == null ? NONE : byteOf(asked.name, k);
    }

    public int column(int c) {
        return known.fieldOfColumn(c);
    }

    public int find(int group, int n) {
        Scanner text = tape.cut(n);
        return text == null ? TOO_FEW : known.named(group, text, 0, n);
    }

    public int record(int n) {
        Scanner text = tape.cut(n);
        if (text == null) {
            return TOO_FEW;
        }
        if (known.size == 0) {
            return 0;
        }
        // Read aside, so that the present record stays if the text can't stand.
        spare.clear();
        RecordReader reader = new RecordReader(text, known, spare);
        if (!reader.readMembers(NONE, 0, 0) || !text.takeEnd()) {
            return text.fault;
        }
        NodeRow before = present;
        present = spare;
        spare = before;
        return NONE;
    }

    public void begin() {
        present.clear();
    }

    public int add(int parent, int field, long v) {
        Field of = known.fieldAt(field);
        if (of == null || of.type == TEXT || !of.hasInRange(v) || !present.mayTake(parent, of)) {
            return NONE;
        }
        return present.append(parent, of, of.kept(v), NO_BYTES);
    }

    public int addText(int parent, int field, int n) {
        Scanner text = tape.cut(n);
        if (text == null) {
            return TOO_FEW;
        }
        Field of = known.fieldAt(field);
        if (of == null || of.type != TEXT || n > MAX_TEXT || !present.mayTake(parent, of)) {
            return NONE;
        }
        return present.append(parent, of, 0L, text.copy(0, n));
    }

    public int nodes() {
        return present.size;
    }

    public int node(int i, int what) {
        Node asked = present.nodeAt(i);
        return asked == null ? NONE : asked.property(what);
    }

    public long value(int i) {
        Node asked = present.nodeAt(i);
        return asked == null ? 0L : asked.number;
    }

    public int textByte(int i, int k) {
        Node asked = present.nodeAt(i);
        return asked == null ? NONE : byteOf(asked.text, k);
    }

    public boolean isWhole() {
        return known.size > 0 && present.lacksNothing(known);
    }

    public int write() {
        written.clear();
        if (!isWhole()) {
            return NONE;
        }
        new RecordWriter(known, present, written).putMembers(0, 0);
        return written.size;
    }

    public int output(int k) {
        return written.byteAt(k);
    }

    private static int byteOf(byte[] row, int k) {
        return k < 0 || k >= row.length ? NONE : row[k] & 255;
    }

    /** The bytes that are fed and not yet cut off. */
    private static final class Tape {
        private final byte[] bytes = new byte[TAPE_ROOM];
        private int size;

        boolean hasRoom() {
            return size + BYTES_A_FEED <= bytes.length;
        }

        void putFour(int four) {
            for (int shift = 24; shift >= 0; shift -= 8) {
                if (size < bytes.length) {
                    bytes[size] = (byte) (four >> shift);
                    size++;
                }
            }
        }

        /** The first n bytes to read; the tape is empty then. Null, and the tape stays, if there are not so many. */
        Scanner cut(int n) {
            if (n < 0 || n > size) {
                return null;
            }
            size = 0;
            return new Scanner(bytes, n);
        }
    }

    /** Goes over a text from the left; keeps the place of what can't stand. */
    private static final class Scanner {
        static final int END = -1;

        private final byte[] bytes;
        private final int size;
        private int place;
        private int fault;
        private int wordStart;
        private int wordEnd;

        /** The size is at most that of the bytes: the tape looks at it. */
        Scanner(byte[] bytes, int size) {
            this.bytes = bytes;
            this.size = size;
            this.fault = NONE;
        }

        int byteAt(int k) {
            return k < 0 || k >= size ? END : bytes[k] & 255;
        }

        byte[] copy(int from, int to) {
            return from < 0 || to < from || to > size ? NO_BYTES : Arrays.copyOfRange(bytes, from, to);
        }

        int here() {
            return place < size ? bytes[place] & 255 : END;
        }

        void step(int n) {
            place += n;
        }

        /** The byte that the next word, sign, number or text begins with. */
        int next() {
            while (place < size && (bytes[place] == 32 || bytes[place] == 10)) {
                place++;
            }
            return here();
        }

        boolean fail(int at) {
            fault = at;
            return false;
        }

        /** At the end of the text its own place is the text's size. */
        boolean failHere() {
            return fail(place);
        }

        boolean failAtWord() {
            return fail(wordStart);
        }

        boolean takeSign(int sign) {
            if (next() != sign) {
                return failHere();
            }
            place++;
            return true;
        }

        boolean takeWord() {
            if (!isLetter(next())) {
                return failHere();
            }
            wordStart = place;
            while (place < size && isOfWord(bytes[place])) {
                place++;
            }
            wordEnd = place;
            return true;
        }

        boolean takeEnd() {
            return next() == END || failHere();
        }

        boolean wordIs(String expected) {
            if (wordEnd - wordStart != expected.length()) {
                return false;
            }
            for (int k = 0; k < expected.length(); k++) {
                if (byteAt(wordStart + k) != expected.charAt(k)) {
                    return false;
                }
            }
            return true;
        }

        static boolean isDigit(int c) {
            return c >= '0' && c <= '9';
        }

        static boolean isLetter(int c) {
            return (c >= 'a' && c <= 'z') || (c >= 'A' && c <= 'Z');
        }

        static boolean isOfWord(int c) {
            return isLetter(c) || isDigit(c) || c == '_';
        }
    }

    /** A field of the schema. */
    private static final class Field {
        private final int number;
        private final int kind;
        private final int type;
        private final int group;
        private final byte[] name;
        private int column;
        private int repetition;
        private int definition;
        private int requiredInside;

        Field(int number, int kind, int type, int group, byte[] name) {
            this.number = number;
            this.kind = kind;
            this.type = type;
            this.group = group;
            this.name = name;
            this.column = NONE;
        }

        int property(int what) {
            switch (what) {
                case 0:
                    return kind;
                case 1:
                    return type;
                case 2:
                    return group;
                case 3:
                    return column;
                case 4:
                    return name.length;
                case 5:
                    return repetition;
                case 6:
                    return definition;
                default:
                    return NONE;
            }
        }

        boolean isNamed(Scanner text, int from, int to) {
            if (to - from != name.length) {
                return false;
            }
            for (int k = 0; k < name.length; k++) {
                // Letters, digits and _ are below 128, so that no sign has to be cut off.
                if (text.byteAt(from + k) != name[k]) {
                    return false;
                }
            }
            return true;
        }

        boolean hasInRange(long v) {
            return type != INT || v == (int) v;
        }

        /** What a node of this field keeps of a number that comes by hand. */
        long kept(long v) {
            if (type == BOOL) {
                return v != 0L ? 1L : 0L;
            }
            return type == GROUP ? 0L : v;
        }
    }

    /** The fields in their order; without any it is no schema yet. */
    private static final class Schema {
        private final Field[] fields = new Field[MAX_FIELDS];
        private final int[] columns = new int[MAX_COLUMNS];
        private int size;
        private int columnCount;
        private int requiredAtTop;

        Field fieldAt(int f) {
            return f < 0 || f >= size || f >= fields.length ? null : fields[f];
        }

        int fieldOfColumn(int c) {
            return c < 0 || c >= columnCount || c >= columns.length ? NONE : columns[c];
        }

        boolean hasRoomFor(int type) {
            return size < fields.length && (type == GROUP || columnCount < columns.length);
        }

        /** A field comes behind the others, if there is room: its number. */
        int append(int kind, int type, int group, byte[] name) {
            if (!hasRoomFor(type)) {
                return NONE;
            }
            Field field = new Field(size, kind, type, group, name);
            setLevels(field);
            if (type != GROUP) {
                field.column = columnCount;
                columns[columnCount] = size;
                columnCount++;
            }
            fields[size] = field;
            size++;
            return field.number;
        }

        private void setLevels(Field field) {
            Field above = fieldAt(field.group);
            if (above != null) {
                field.repetition = above.repetition;
                field.definition = above.definition;
            }
            if (field.kind == REPEATED) {
                field.repetition++;
            }
            if (field.kind != REQUIRED) {
                field.definition++;
            } else if (above != null) {
                above.requiredInside++;
            } else {
                requiredAtTop++;
            }
        }

        /** How many required fields a group (NONE: the schema itself) has. */
        int requiredOf(int group) {
            if (group == NONE) {
                return requiredAtTop;
            }
            Field field = fieldAt(group);
            return field == null ? 0 : field.requiredInside;
        }

        /** The field of a group that has the bytes of a text as its name. */
        int named(int group, Scanner text, int from, int to) {
            for (int f = 0; f < size; f++) {
                Field field = fieldAt(f);
                if (field != null && field.group == group && field.isNamed(text, from, to)) {
                    return f;
                }
            }
            return NONE;
        }

        /** The field of a group, from a number on, that the text's word means; none beyond a required one. */
        int meantFrom(int first, int group, Scanner text) {
            for (int f = first; f < size; f++) {
                Field field = fieldAt(f);
                if (field != null && field.group == group) {
                    if (field.isNamed(text, text.wordStart, text.wordEnd)) {
                        return f;
                    }
                    if (field.kind == REQUIRED) {
                        return NONE;
                    }
                }
            }
            return NONE;
        }

        boolean hasRequiredFrom(int first, int group) {
            for (int f = first; f < size; f++) {
                Field field = fieldAt(f);
                if (field != null && field.group == group && field.kind == REQUIRED) {
                    return true;
                }
            }
            return false;
        }
    }

    /** Reads a text into an empty schema. Each method answers false when the scanner has a fault. */
    private static final class SchemaReader {
        private final Scanner text;
        private final Schema schema;

        SchemaReader(Scanner text, Schema schema) {
            this.text = text;
            this.schema = schema;
        }

        boolean readSchema() {
            // One round more than there may be fields: the name of the last one can't stand.
            for (int k = 0; k <= MAX_FIELDS; k++) {
                if (k > 0 && text.next() == Scanner.END) {
                    return true;
                }
                if (!readField(NONE, 0)) {
                    return false;
                }
            }
            return text.failHere();
        }

        /** The depth is how many groups the field is in. */
        private boolean readField(int group, int depth) {
            int kind = readKind();
            if (kind == NONE) {
                return false;
            }
            int type = readType();
            if (type == NONE || !text.takeWord()) {
                return false;
            }
            if (!nameStands(group, type, depth)) {
                return text.failAtWord();
            }
            int f = schema.append(kind, type, group, text.copy(text.wordStart, text.wordEnd));
            return type == GROUP ? readGroup(f, depth + 1) : text.takeSign(';');
        }

        private boolean readGroup(int group, int depth) {
            if (!text.takeSign('{')) {
                return false;
            }
            for (int k = 0; k <= MAX_FIELDS; k++) {
                if (k > 0 && text.next() == '}') {
                    return text.takeSign('}');
                }
                if (!readField(group, depth)) {
                    return false;
                }
            }
            return text.failHere();
        }

        private boolean nameStands(int group, int type, int depth) {
            return text.wordEnd - text.wordStart <= MAX_NAME
                && schema.hasRoomFor(type)
                && (type != GROUP || depth < MAX_DEPTH)
                && schema.named(group, text, text.wordStart, text.wordEnd) == NONE;
        }

        private int readKind() {
            if (!text.takeWord()) {
                return NONE;
            }
            if (text.wordIs("required")) {
                return REQUIRED;
            }
            if (text.wordIs("optional")) {
                return OPTIONAL;
            }
            if (text.wordIs("repeated")) {
                return REPEATED;
            }
            text.failAtWord();
            return NONE;
        }

        private int readType() {
            if (!text.takeWord()) {
                return NONE;
            }
            if (text.wordIs("bool")) {
                return BOOL;
            }
            if (text.wordIs("int")) {
                return INT;
            }
            if (text.wordIs("long")) {
                return LONG;
            }
            if (text.wordIs("text")) {
                return TEXT;
            }
            if (text.wordIs("group")) {
                return GROUP;
            }
            text.failAtWord();
            return NONE;
        }
    }

    /** The record itself (field and parent NONE), or a value of a field. */
    private static final class Node {
        private final int field;
        private final int parent;
        private final long number;
        private final byte[] text;
        private int children;
        private int latestField;
        private int requiredThere;

        Node(int field, int parent, long number, byte[] text) {
            this.field = field;
            this.parent = parent;
            this.number = number;
            this.text = text;
            this.latestField = NONE;
        }

        int property(int what) {
            switch (what) {
                case 0:
                    return field;
                case 1:
                    return parent;
                case 2:
                    return children;
                case 3:
                    return text.length;
                default:
                    return NONE;
            }
        }
    }

    /** The nodes of a record in its order. */
    private static final class NodeRow {
        private final Node[] row = new Node[MAX_NODES];
        private int size;
        private int textBytes;

        NodeRow() {
            clear();
        }

        void clear() {
            row[0] = new Node(NONE, NONE, 0L, NO_BYTES);
            size = 1;
            textBytes = 0;
        }

        Node nodeAt(int i) {
            return i < 0 || i >= size || i >= row.length ? null : row[i];
        }

        /** A node comes behind the others: its number; NONE if there is no room. */
        int append(int parent, Field field, long number, byte[] text) {
            Node above = nodeAt(parent);
            if (above == null || size >= row.length || textBytes + text.length > MAX_TEXT_BYTES) {
                return NONE;
            }
            above.children++;
            above.latestField = field.number;
            if (field.kind == REQUIRED) {
                above.requiredThere++;
            }
            row[size] = new Node(field.number, parent, number, text);
            textBytes += text.length;
            size++;
            return size - 1;
        }

        boolean mayTake(int parent, Field field) {
            Node above = nodeAt(parent);
            // Node 0 has NONE as its field, as the schema's own fields have NONE as their group.
            if (above == null || above.field != field.group || !isOpen(parent)) {
                return false;
            }
            return field.number > above.latestField
                || (field.number == above.latestField && field.kind == REPEATED);
        }

        /** Whether a node is the latest one, or its parent, or that one's, and so on. */
        private boolean isOpen(int i) {
            int up = size - 1;
            for (int k = 0; k < size && up > i; k++) {
                Node at = nodeAt(up);
                up = at == null ? NONE : at.parent;
            }
            return up == i;
        }

        /** No field that isn't repeated comes twice, so that counting the required ones is enough. */
        boolean lacksNothing(Schema schema) {
            for (int i = 0; i < size; i++) {
                Node at = nodeAt(i);
                if (at != null && at.requiredThere < schema.requiredOf(at.field)) {
                    return false;
                }
            }
            return true;
        }
    }

    /** Reads a text into a row of node 0 alone. Each method answers false when the scanner has a fault. */
    private static final class RecordReader {
        private final Scanner text;
        private final Schema schema;
        private final NodeRow nodeRow;
        private final byte[] textRow = new byte[MAX_TEXT];
        private long number;

        RecordReader(Scanner text, Schema schema, NodeRow nodeRow) {
            this.text = text;
            this.schema = schema;
            this.nodeRow = nodeRow;
        }

        /** From { to }: the record itself (group NONE, parent 0), or a group; the depth is how many groups it is in. */
        boolean readMembers(int group, int parent, int depth) {
            if (depth > MAX_DEPTH) {
                return text.failHere();
            }
            if (!text.takeSign('{')) {
                return false;
            }
            // The first field of a group is the one behind it (and of the schema, 0).
            int first = group + 1;
            boolean more = text.next() != '}';
            for (int k = 0; k <= MAX_FIELDS && more; k++) {
                Field field = readName(group, first);
                if (field == null || !text.takeSign(':') || !readField(field, parent, depth)) {
                    return false;
                }
                first = field.number + 1;
                more = text.next() == ',' && text.takeSign(',');
            }
            if (text.next() == '}' && schema.hasRequiredFrom(first, group)) {
                return text.failHere();
            }
            return text.takeSign('}');
        }

        private Field readName(int group, int first) {
            if (!text.takeWord()) {
                return null;
            }
            Field field = schema.fieldAt(schema.meantFrom(first, group, text));
            if (field == null) {
                text.failAtWord();
            }
            return field;
        }

        private boolean readField(Field field, int parent, int depth) {
            if (field.kind != REPEATED) {
                return readValue(field, parent, depth);
            }
            if (!text.takeSign('[')) {
                return false;
            }
            boolean more = text.next() != ']';
            for (int k = 0; k <= TAPE_ROOM && more; k++) {
                if (!readValue(field, parent, depth)) {
                    return false;
                }
                more = text.next() == ',' && text.takeSign(',');
            }
            return text.takeSign(']');
        }

        private boolean readValue(Field field, int parent, int depth) {
            text.next();
            int start = text.place;
            switch (field.type) {
                case BOOL:
                    return readBool() && keep(field, parent, NO_BYTES, start);
                case INT:
                    return readNumber(LOWEST_INT) && keep(field, parent, NO_BYTES, start);
                case LONG:
                    return readNumber(LOWEST_LONG) && keep(field, parent, NO_BYTES, start);
                case TEXT:
                    number = 0L;
                    int length = readText();
                    return length != NONE && keep(field, parent, Arrays.copyOf(textRow, length), start);
                default:
                    number = 0L;
                    return keep(field, parent, NO_BYTES, start)
                        && readMembers(field.number, nodeRow.size - 1, depth + 1);
            }
        }

        private boolean keep(Field field, int parent, byte[] bytes, int start) {
            return nodeRow.append(parent, field, number, bytes) != NONE || text.fail(start);
        }

        private boolean readBool() {
            if (!text.takeWord()) {
                return false;
            }
            number = text.wordIs("true") ? 1L : 0L;
            return number == 1L || text.wordIs("false") || text.failAtWord();
        }

        /** Adds up below 0, where there is room for the lowest number too. */
        private boolean readNumber(long lowest) {
            int start = text.place;
            boolean isNegative = text.here() == '-';
            if (isNegative) {
                text.step(1);
            }
            if (!Scanner.isDigit(text.here())) {
                return text.here() == Scanner.END ? text.failHere() : text.fail(start);
            }
            if (text.here() == '0' && (isNegative || Scanner.isDigit(text.byteAt(text.place + 1)))) {
                return text.fail(start);
            }
            long limit = isNegative ? lowest : lowest + 1L;
            long below = 0L;
            for (int k = 0; k < TAPE_ROOM && Scanner.isDigit(text.here()); k++) {
                int digit = text.here() - '0';
                if (below < (limit + digit) / 10L) {
                    return text.fail(start);
                }
                below = below * 10L - digit;
                text.step(1);
            }
            number = isNegative ? below : -below;
            return true;
        }

        /** The text's bytes come into the row for them: how many; NONE if it can't stand. */
        private int readText() {
            if (!text.takeSign('\'')) {
                return NONE;
            }
            // One round more than there may be bytes: in it only the closing sign can stand.
            for (int length = 0; length <= MAX_TEXT; length++) {
                int c = text.here();
                if (c == '\'') {
                    text.step(1);
                    return length;
                }
                if (c == Scanner.END || length >= textRow.length) {
                    text.failHere();
                    return NONE;
                }
                int meant = c == '\\' ? readEscape() : readPlain(c);
                if (meant == NONE) {
                    return NONE;
                }
                textRow[length] = (byte) meant;
            }
            return NONE;
        }

        private int readPlain(int c) {
            if (c < 32 || c > 126) {
                text.failHere();
                return NONE;
            }
            text.step(1);
            return c;
        }

        private int readEscape() {
            int c = text.byteAt(text.place + 1);
            if (c == '\'' || c == '\\') {
                text.step(2);
                return c;
            }
            if (c != 'x') {
                return failEscape(c);
            }
            int high = text.byteAt(text.place + 2);
            if (hexDigit(high) == NONE) {
                return failEscape(high);
            }
            int low = text.byteAt(text.place + 3);
            if (hexDigit(low) == NONE) {
                return failEscape(low);
            }
            text.step(4);
            return hexDigit(high) * 16 + hexDigit(low);
        }

        /** By the place of the \, unless the text ended where a byte behind it was due. */
        private int failEscape(int c) {
            text.fail(c == Scanner.END ? text.size : text.place);
            return NONE;
        }

        private static int hexDigit(int c) {
            if (Scanner.isDigit(c)) {
                return c - '0';
            }
            return c >= 'a' && c <= 'f' ? c - 'a' + 10 : NONE;
        }
    }

    /** A row of bytes that grows. */
    private static final class ByteRow {
        private byte[] bytes = new byte[FIRST_OUTPUT_ROOM];
        private int size;

        void clear() {
            size = 0;
        }

        int byteAt(int k) {
            return k < 0 || k >= size || k >= bytes.length ? NONE : bytes[k] & 255;
        }

        /** The limits of nodes and of their texts keep the row below 150,000 bytes, so that none is left out. */
        void put(int c) {
            if (size >= bytes.length && bytes.length < MOST_OUTPUT_ROOM) {
                bytes = Arrays.copyOf(bytes, bytes.length * 2);
            }
            if (size < bytes.length) {
                bytes[size] = (byte) c;
                size++;
            }
        }
    }

    /** Writes a whole record in its one form. */
    private static final class RecordWriter {
        private final Schema schema;
        private final NodeRow nodeRow;
        private final ByteRow out;

        RecordWriter(Schema schema, NodeRow nodeRow, ByteRow out) {
            this.schema = schema;
            this.nodeRow = nodeRow;
            this.out = out;
        }

        /** Writes a node from { to }: the number of the first node behind all that is in it. */
        int putMembers(int i, int depth) {
            Node parent = nodeRow.nodeAt(i);
            if (parent == null || depth > MAX_DEPTH) {
                return i + 1;
            }
            out.put('{');
            int at = i + 1;
            Field before = null;
            for (int k = 0; k < parent.children; k++) {
                Node child = nodeRow.nodeAt(at);
                Field field = child == null ? null : schema.fieldAt(child.field);
                if (field == null) {
                    return at;
                }
                putBetween(before, field);
                at = field.type == GROUP ? putMembers(at, depth + 1) : putLeaf(at, child, field);
                before = field;
            }
            putClosing(before);
            out.put('}');
            return at;
        }

        private void putBetween(Field before, Field field) {
            if (before != null && before.number == field.number) {
                out.put(',');
                return;
            }
            putClosing(before);
            if (before != null) {
                out.put(',');
            }
            putBytes(field.name);
            out.put(':');
            if (field.kind == REPEATED) {
                out.put('[');
            }
        }

        private void putClosing(Field last) {
            if (last != null && last.kind == REPEATED) {
                out.put(']');
            }
        }

        private int putLeaf(int i, Node leaf, Field field) {
            if (field.type == TEXT) {
                putText(leaf.text);
            } else if (field.type == BOOL) {
                putWord(leaf.number != 0L ? "true" : "false");
            } else {
                putNumber(leaf.number);
            }
            return i + 1;
        }

        private void putBytes(byte[] bytes) {
            for (int k = 0; k < bytes.length; k++) {
                out.put(bytes[k]);
            }
        }

        private void putWord(String word) {
            for (int k = 0; k < word.length(); k++) {
                out.put(word.charAt(k));
            }
        }

        private void putText(byte[] bytes) {
            out.put('\'');
            for (int k = 0; k < bytes.length; k++) {
                putTextByte(bytes[k] & 255);
            }
            out.put('\'');
        }

        private void putTextByte(int c) {
            if (c < 32 || c > 126) {
                putWord("\\x");
                out.put(hexSign(c / 16));
                out.put(hexSign(c % 16));
                return;
            }
            if (c == '\'' || c == '\\') {
                out.put('\\');
            }
            out.put(c);
        }

        private static int hexSign(int digit) {
            return digit < 10 ? '0' + digit : 'a' + digit - 10;
        }

        /** Takes digits off below 0, where there is room for the lowest number too. */
        private void putNumber(long v) {
            if (v < 0L) {
                out.put('-');
            }
            long rest = v < 0L ? v : -v;
            long unit = 1L;
            for (int k = 0; k < 18 && rest / unit <= -10L; k++) {
                unit *= 10L;
            }
            for (; unit > 0L; unit /= 10L) {
                out.put('0' - (int) (rest / unit % 10L));
            }
        }
    }
}
