/** The promises 1 to 19: a test of its own for each sentence that names an edge. The Terms have theirs elsewhere. */
public final class PromiseSentencesTest {
    private static final int NONE = SchemaRecords.NONE;
    private static final int MIN = Integer.MIN_VALUE;
    private static final int MAX = Integer.MAX_VALUE;
    private static final String GOOD = "required int a;";

    public static void main(String[] args) {
        newObject();
        feed();
        schema();
        schemaTooFew();
        count();
        field();
        fieldEdges();
        letterAndColumn();
        find();
        findEdges();
        record();
        recordEdges();
        begin();
        add();
        addEdges();
        addText();
        addTextEdges();
        addTextTape();
        nodes();
        node();
        value();
        textByte();
        isWhole();
        write();
        output();
        Check.end();
    }

    private static void newObject() {
        Check.sentence("1", "No schema", () -> {
            SchemaRecords x = new SchemaRecords();
            Check.due("count(0)", x.count(0), 0);
            Check.due("count(1)", x.count(1), 0);
            Check.due("field(0, 0)", x.field(0, 0), NONE);
            Check.due("letter(0, 0)", x.letter(0, 0), NONE);
            Check.due("column(0)", x.column(0), NONE);
            Check.due("isWhole()", x.isWhole(), false);
            Check.due("add(0, 0, 0)", x.add(0, 0, 0), NONE);
            Check.due("addText(0, 0, 0)", x.addText(0, 0, 0), NONE);
        });
        Check.sentence("1", "an empty tape", () -> {
            SchemaRecords x = new SchemaRecords();
            Check.due("schema(1)", x.schema(1), -2);
            Check.due("record(1)", x.record(1), -2);
            Check.due("find(NONE, 1)", x.find(NONE, 1), -2);
            Check.due("addText(0, 0, 1)", x.addText(0, 0, 1), -2);
            Check.due("schema(0)", x.schema(0), 0);
        });
        Check.sentence("1", "the record is node 0 alone", () -> {
            SchemaRecords x = new SchemaRecords();
            Check.due("nodes()", x.nodes(), 1);
            Check.due("node(0, 0)", x.node(0, 0), NONE);
            Check.due("node(0, 1)", x.node(0, 1), NONE);
            Check.due("node(0, 2)", x.node(0, 2), 0);
            Check.due("node(0, 3)", x.node(0, 3), 0);
            Check.due("node(1, 2)", x.node(1, 2), NONE);
        });
        Check.sentence("The public face", "NONE = -1", () -> Check.due("NONE", SchemaRecords.NONE, -1));
    }

    private static void feed() {
        Check.sentence("2", "Twenty bytes come onto the tape: four in each number, the highest first", () -> {
            SchemaRecords x = Check.with("optional text a;");
            Check.due("feed", x.feed(0x00ff7f80, 0x04050607, 0x08090a0b, 0x0c0d0e0f, 0xfffefdfc), true);
            Check.due("twenty-one", x.addText(0, 0, 21), -2);
            Check.due("twenty", x.addText(0, 0, 20), 1);
            int[] due = {0, 255, 127, 128, 4, 5, 6, 7, 8, 9, 10, 11, 12, 13, 14, 15, 255, 254, 253, 252};
            for (int k = 0; k < due.length; k++) {
                Check.due("byte " + k, x.textByte(1, k), due[k]);
            }
        });
        Check.sentence("2", "come onto the tape (behind what is there)", () -> {
            SchemaRecords x = Check.with("optional text a;");
            x.feed(0x61616161, 0x61616161, 0x61616161, 0x61616161, 0x61616162);
            x.feed(0x63646464, 0, 0, 0, 0);
            Check.due("addText", x.addText(0, 0, 21), 1);
            Check.due("byte 19", x.textByte(1, 19), 'b');
            Check.due("byte 20", x.textByte(1, 20), 'c');
        });
        Check.sentence("2", "false if it hasn't room", () -> {
            SchemaRecords x = Check.with(GOOD);
            for (int k = 1; k <= 200; k++) {
                Check.due("feed " + k, x.feed(0x20202020, 0x20202020, 0x20202020, 0x20202020, 0x2020207b), true);
            }
            Check.due("feed 201", x.feed(0x41414141, 0x41414141, 0x41414141, 0x41414141, 0x41414141), false);
            Check.due("feed 202", x.feed(-1, -1, -1, -1, -1), false);
            Check.due("nothing of it came", x.record(4001), -2);
            Check.due("what was there stayed", x.record(4000), 39);
            Check.due("there is room again", x.feed(0, 0, 0, 0, 0), true);
        });
    }

    private static void schema() {
        Check.sentence("3", "The first n bytes of the tape, which is empty then, are a SCHEMA: NONE if so", () -> {
            SchemaRecords x = new SchemaRecords();
            Check.feed(x, GOOD + " # and more");
            Check.due("schema(15)", x.schema(15), NONE);
            Check.due("the tape is empty", x.schema(1), -2);
            Check.feed(x, "required int b;optional");
            Check.due("the new bytes come first", x.schema(15), NONE);
            Check.due("letter(0, 0)", x.letter(0, 0), 'b');
            Check.feed(x, "required int cd;");
            Check.due("what comes behind them counts for nothing", x.schema(14), 14);
            Check.feed(x, "required int c;;");
            Check.due("what comes behind them counts for nothing", x.schema(15), NONE);
        });
        Check.sentence("3", "(it is the schema then", () -> {
            SchemaRecords x = Check.with("required int a;required int b;");
            Check.due("another", Check.schema(x, "optional text c;"), NONE);
            Check.due("count(0)", x.count(0), 1);
            Check.due("count(1)", x.count(1), 1);
            Check.due("letter(0, 0)", x.letter(0, 0), 'c');
            Check.due("field(1, 0)", x.field(1, 0), NONE);
            Check.due("column(1)", x.column(1), NONE);
            Check.recordDue(x, "{a:1,b:1}", 1);
            Check.recordDue(x, "{c:''}", NONE);
        });
        Check.sentence("3", "and the record node 0 alone)", () -> {
            SchemaRecords x = Check.with("repeated int a;");
            Check.recordDue(x, "{a:[1,2]}", NONE);
            Check.due("the same again", Check.schema(x, "repeated int a;"), NONE);
            Check.due("nodes()", x.nodes(), 1);
            Check.due("node(0, 2)", x.node(0, 2), 0);
            Check.due("value(1)", x.value(1), 0);
            Check.due("written", Check.written(x), "{}");
        });
        Check.sentence("3", "else the place of what can't stand (schema and record stay", () -> {
            SchemaRecords x = Check.with(GOOD);
            Check.recordDue(x, "{a:7}", NONE);
            Check.due("schema", Check.schema(x, "optional int b;optional int b;"), 28);
            Check.due("nothing", x.schema(0), 0);
            Check.due("count(0)", x.count(0), 1);
            Check.due("letter(0, 0)", x.letter(0, 0), 'a');
            Check.due("nodes()", x.nodes(), 2);
            Check.due("value(1)", x.value(1), 7);
            Check.due("written", Check.written(x), "{a:7}");
            SchemaRecords none = new SchemaRecords();
            Check.due("schema", Check.schema(none, "optional int b;#"), 15);
            Check.due("count(0)", none.count(0), 0);
        });
        Check.sentence("3", "the tape is empty all the same)", () -> {
            SchemaRecords x = new SchemaRecords();
            Check.feed(x, "#");
            Check.due("schema(1)", x.schema(1), 0);
            Check.due("the tape is empty", x.schema(1), -2);
            Check.feed(x, GOOD);
            Check.due("schema(0)", x.schema(0), 0);
            Check.due("the tape is empty", x.schema(1), -2);
        });
    }

    private static void schemaTooFew() {
        Check.sentence("3", "If there are not so many: - 2, and the tape stays", () -> {
            SchemaRecords x = new SchemaRecords();
            Check.feed(x, GOOD);
            Check.due("schema(21)", x.schema(21), -2);
            Check.due("schema(max)", x.schema(MAX), -2);
            Check.due("count(0)", x.count(0), 0);
            Check.due("schema(15)", x.schema(15), NONE);
        });
        Check.sentence("3", "or n is below 0: - 2, and the tape stays", () -> {
            SchemaRecords x = new SchemaRecords();
            Check.feed(x, GOOD);
            Check.due("schema(-1)", x.schema(-1), -2);
            Check.due("schema(min)", x.schema(MIN), -2);
            Check.due("schema(15)", x.schema(15), NONE);
            Check.due("schema(-1), the tape empty", x.schema(-1), -2);
        });
    }

    private static void count() {
        Check.sentence("4", "How many fields (what 0), COLUMNS (1) there are", () -> {
            SchemaRecords x = Check.with("optional group a{optional group b{optional int c;}}optional int d;");
            Check.due("count(0)", x.count(0), 4);
            Check.due("count(1)", x.count(1), 2);
        });
        Check.sentence("4", "NONE for another what", () -> {
            SchemaRecords x = Check.with(GOOD);
            SchemaRecords none = new SchemaRecords();
            for (int what : new int[] {-1, 2, 3, MIN, MAX}) {
                Check.due("count(" + what + ")", x.count(what), NONE);
                Check.due("count(" + what + ") without a schema", none.count(what), NONE);
            }
        });
    }

    private static final String MIXED = "required bool a1;optional int b;repeated long c;optional text d;required group eee{repeated group f{required int g;}}";

    private static void fieldsDue(int what, int... due) {
        SchemaRecords x = Check.with(MIXED);
        for (int f = 0; f < due.length; f++) {
            Check.due("field(" + f + ", " + what + ")", x.field(f, what), due[f]);
        }
    }

    private static void field() {
        Check.sentence("5", "0 its kind: 0 required, 1 optional, 2 repeated", () -> fieldsDue(0, 0, 1, 2, 1, 0, 2, 0));
        Check.sentence("5", "1 its type: 0 bool, 1 int, 2 long, 3 text, 4 group", () -> fieldsDue(1, 0, 1, 2, 3, 4, 4, 1));
        Check.sentence("5", "2 its group (NONE of a field of the schema itself)", () -> fieldsDue(2, NONE, NONE, NONE, NONE, NONE, 4, 5));
        Check.sentence("5", "3 its column (NONE of a group)", () -> fieldsDue(3, 0, 1, 2, 3, NONE, NONE, 4));
        Check.sentence("5", "4 how many bytes its NAME has", () -> {
            fieldsDue(4, 2, 1, 1, 1, 3, 1, 1);
            SchemaRecords x = Check.with("required int abcdefghijklmnop;");
            Check.due("field(0, 4)", x.field(0, 4), 16);
        });
        Check.sentence("5", "5 REPETITION", () -> fieldsDue(5, 0, 0, 1, 0, 0, 1, 1));
        Check.sentence("5", "6 DEFINITION", () -> fieldsDue(6, 0, 1, 1, 1, 0, 1, 1));
    }

    private static void fieldEdges() {
        Check.sentence("5", "NONE if there is none such", () -> {
            SchemaRecords x = Check.with(MIXED);
            for (int f : new int[] {-1, -2, 7, 127, 128, MIN, MAX}) {
                for (int what = 0; what <= 6; what++) {
                    Check.due("field(" + f + ", " + what + ")", x.field(f, what), NONE);
                }
            }
        });
        Check.sentence("5", "or for another what", () -> {
            SchemaRecords x = Check.with(MIXED);
            for (int what : new int[] {-1, 7, 8, MIN, MAX}) {
                for (int f = -1; f <= 7; f++) {
                    Check.due("field(" + f + ", " + what + ")", x.field(f, what), NONE);
                }
            }
        });
    }

    private static void letterAndColumn() {
        Check.sentence("6", "A byte of a field's NAME", () -> {
            SchemaRecords x = Check.with("required int Az_09bcdefghijkl;optional group zZ{optional int q;}");
            String name = "Az_09bcdefghijkl";
            for (int k = 0; k < 16; k++) {
                Check.due("letter(0, " + k + ")", x.letter(0, k), name.charAt(k));
            }
            Check.due("letter(1, 1)", x.letter(1, 1), 'Z');
            Check.due("letter(2, 0)", x.letter(2, 0), 'q');
        });
        Check.sentence("6", "NONE if there is none such", () -> {
            SchemaRecords x = Check.with("required int abcdefghijklmnop;optional int bc;");
            for (int k : new int[] {-1, 16, 17, MIN, MAX}) {
                Check.due("letter(0, " + k + ")", x.letter(0, k), NONE);
            }
            Check.due("letter(1, 2)", x.letter(1, 2), NONE);
            for (int f : new int[] {-1, 2, 128, MIN, MAX}) {
                Check.due("letter(" + f + ", 0)", x.letter(f, 0), NONE);
            }
        });
        Check.sentence("7", "The field of a column", () -> {
            SchemaRecords x = Check.with(MIXED);
            int[] due = {0, 1, 2, 3, 6};
            for (int c = 0; c < due.length; c++) {
                Check.due("column(" + c + ")", x.column(c), due[c]);
            }
        });
        Check.sentence("7", "NONE if there is none such", () -> {
            SchemaRecords x = Check.with(MIXED);
            for (int c : new int[] {-1, 5, 6, 63, 64, MIN, MAX}) {
                Check.due("column(" + c + ")", x.column(c), NONE);
            }
        });
    }

    // 0 a; 1 g: 2 a, 3 h: 4 a, 5 ab; 6 ab
    private static final String SAME = "optional int a;optional group g{optional int a;optional group h{optional int a;optional int ab;}}optional int ab;";

    private static void find() {
        Check.sentence("8", "The field of a group with the NAME that the first n bytes of the tape are", () -> {
            SchemaRecords x = Check.with(SAME);
            Check.due("a of g", Check.find(x, 1, "a"), 2);
            Check.due("h of g", Check.find(x, 1, "h"), 3);
            Check.due("a of h", Check.find(x, 3, "a"), 4);
            Check.due("ab of h", Check.find(x, 3, "ab"), 5);
            Check.feed(x, "abc");
            Check.due("the first byte", x.find(3, 1), 4);
            Check.feed(x, "abc");
            Check.due("the first two bytes", x.find(3, 2), 5);
        });
        Check.sentence("8", "(NONE: of the schema itself)", () -> {
            SchemaRecords x = Check.with(SAME);
            Check.due("a", Check.find(x, NONE, "a"), 0);
            Check.due("g", Check.find(x, NONE, "g"), 1);
            Check.due("ab", Check.find(x, NONE, "ab"), 6);
            Check.due("h", Check.find(x, NONE, "h"), NONE);
        });
        Check.sentence("8", "which is empty then in any case but - 2", () -> {
            SchemaRecords x = Check.with(SAME);
            SchemaRecords none = new SchemaRecords();
            emptyBehindFind(x, NONE, 1, 0);
            emptyBehindFind(x, NONE, 0, NONE);
            emptyBehindFind(x, NONE, 20, NONE);
            emptyBehindFind(x, 9, 1, NONE);
            emptyBehindFind(none, NONE, 1, NONE);
        });
        Check.sentence("8", "- 2 (n as with schema)", () -> {
            SchemaRecords x = Check.with(SAME);
            Check.feed(x, "a");
            for (int n : new int[] {-1, 21, MIN, MAX}) {
                Check.due("find(NONE, " + n + ")", x.find(NONE, n), -2);
                Check.due("find(9, " + n + ")", x.find(9, n), -2);
            }
            Check.due("the tape stayed", x.find(NONE, 1), 0);
            SchemaRecords none = new SchemaRecords();
            Check.due("without a schema", none.find(NONE, 1), -2);
        });
    }

    private static void emptyBehindFind(SchemaRecords x, int group, int n, int want) {
        Check.feed(x, "a");
        Check.due("find(" + group + ", " + n + ")", x.find(group, n), want);
        Check.due("the tape is empty", x.find(NONE, 1), -2);
    }

    private static void findEdges() {
        Check.sentence("8", "NONE if there is none", () -> {
            SchemaRecords x = Check.with(SAME);
            String[] names = {"", "b", "A", "aba", " a", "a ", "a\n", "g", "\u00e1", "a".repeat(17), "a".repeat(400)};
            for (String name : names) {
                Check.due("find(1, " + name + ")", Check.find(x, 1, name), NONE);
            }
        });
        Check.sentence("8", "or no such group", () -> {
            SchemaRecords x = Check.with(SAME);
            for (int group : new int[] {-2, 0, 2, 6, 7, 128, MIN, MAX}) {
                Check.due("find(" + group + ", a)", Check.find(x, group, "a"), NONE);
            }
        });
    }

    private static void record() {
        Check.sentence("9", "The first n bytes of the tape are a RECORD: NONE if so (it is the present one then)", () -> {
            SchemaRecords x = Check.with("repeated int a;");
            Check.feed(x, "{a:[1,2]}#");
            Check.due("record(9)", x.record(9), NONE);
            Check.due("nodes()", x.nodes(), 3);
            Check.recordDue(x, "{a:[7]}", NONE);
            Check.due("nodes()", x.nodes(), 2);
            Check.due("value(1)", x.value(1), 7);
            Check.due("value(2)", x.value(2), 0);
            Check.due("node(0, 2)", x.node(0, 2), 1);
            Check.due("written", Check.written(x), "{a:[7]}");
        });
        Check.sentence("9", "The first n bytes of the tape (what comes behind them counts for nothing)", () -> {
            String schema = "optional int a;optional bool ab;optional text c;";
            cutDue(schema, "{ab:true}", 2, 2);
            cutDue(schema, "{ab:true}", 8, 8);
            cutDue(schema, "{ab:truex}", 8, 8);
            cutDue(schema, "{a:05}", 4, 4);
            cutDue(schema, "{a:2147483648}", 12, 12);
            cutDue(schema, "{c:'x'}", 5, 5);
            cutDue(schema, "{c:'\\''}", 5, 5);
            cutDue(schema, "{c:'\\x41'}", 6, 6);
            cutDue(schema, "{c:'\\x41'}", 7, 7);
            cutDue(schema, "{c:'\\xg1'}", 6, 6);
            cutDue(schema, "{}}", 2, NONE);
        });
        Check.sentence("9", "else as with schema (the record stays", () -> {
            SchemaRecords x = Check.with("repeated text a;optional int b;");
            Check.recordDue(x, "{a:['p','q'],b:5}", NONE);
            Check.recordDue(x, "{a:['r','s','t'],b:6,", 21);
            Check.recordDue(x, "{a:['u'],b:05}", 11);
            Check.recordDue(x, "", 0);
            Check.due("nodes()", x.nodes(), 4);
            Check.due("written", Check.written(x), "{a:['p','q'],b:5}");
            x.begin();
            x.add(0, 1, 8);
            Check.recordDue(x, "{a:['v'],b:6}}", 13);
            Check.due("one made by hand stays", Check.written(x), "{b:8}");
            Check.due("and can't take a second b", x.add(0, 1, 9), NONE);
        });
        Check.sentence("9", "the tape is empty but for - 2)", () -> {
            SchemaRecords x = Check.with("optional int a;");
            Check.feed(x, "{}");
            Check.due("one that stands", x.record(2), NONE);
            Check.due("the tape is empty", x.record(1), -2);
            Check.feed(x, "{}");
            Check.due("one that can't", x.record(1), 1);
            Check.due("the tape is empty", x.record(1), -2);
            Check.feed(x, "{}");
            Check.due("no byte", x.record(0), 0);
            Check.due("the tape is empty", x.record(1), -2);
        });
    }

    private static void cutDue(String schema, String text, int n, int want) {
        SchemaRecords x = Check.with(schema);
        Check.feed(x, text);
        Check.due("record(" + n + ") of " + text, x.record(n), want);
    }

    private static void recordEdges() {
        Check.sentence("9", "- 2 (as with schema: not so many, or n is below 0; the tape stays)", () -> {
            SchemaRecords x = Check.with("optional int a;");
            Check.feed(x, "{a:5}");
            for (int n : new int[] {-1, 21, MIN, MAX}) {
                Check.due("record(" + n + ")", x.record(n), -2);
            }
            Check.due("nodes()", x.nodes(), 1);
            Check.due("the tape stayed", x.record(5), NONE);
        });
        Check.sentence("9", "Without a schema 0 (the tape is empty then", () -> {
            SchemaRecords x = new SchemaRecords();
            Check.due("record(0)", x.record(0), 0);
            Check.feed(x, "{}");
            Check.due("record(2)", x.record(2), 0);
            Check.due("the tape is empty", x.record(1), -2);
            Check.feed(x, "  #");
            Check.due("record(3)", x.record(3), 0);
            Check.due("schema", Check.schema(x, "#"), 0);
            Check.feed(x, "{}");
            Check.due("still without one", x.record(2), 0);
            Check.due("nodes()", x.nodes(), 1);
        });
        Check.sentence("9", "but - 2 goes ahead of that)", () -> {
            SchemaRecords x = new SchemaRecords();
            for (int n : new int[] {-1, 1, MIN, MAX}) {
                Check.due("record(" + n + ")", x.record(n), -2);
            }
            Check.feed(x, GOOD);
            Check.due("record(21)", x.record(21), -2);
            Check.due("the tape stayed", x.schema(15), NONE);
        });
    }

    private static void begin() {
        Check.sentence("10", "MADE BY HAND: the record is node 0 alone", () -> {
            SchemaRecords x = Check.with("repeated int a;repeated text b;");
            Check.recordDue(x, "{a:[1,2],b:['q']}", NONE);
            x.begin();
            Check.due("nodes()", x.nodes(), 1);
            Check.due("node(0, 2)", x.node(0, 2), 0);
            Check.due("node(1, 0)", x.node(1, 0), NONE);
            Check.due("value(1)", x.value(1), 0);
            Check.due("textByte(3, 0)", x.textByte(3, 0), NONE);
            Check.due("an earlier field may come again", x.add(0, 0, 5), 1);
            x.begin();
            x.begin();
            Check.due("nodes()", x.nodes(), 1);
            Check.due("count(0)", x.count(0), 2);
        });
        Check.sentence("10", "(nothing else changes: the tape, and no schema stays none)", () -> {
            SchemaRecords x = new SchemaRecords();
            Check.feed(x, GOOD);
            x.begin();
            Check.due("nodes()", x.nodes(), 1);
            Check.due("isWhole()", x.isWhole(), false);
            Check.due("the tape stayed", x.schema(15), NONE);
        });
    }

    // 0 a bool, 1 b int, 2 c long, 3 d text, 4 e group: 5 f
    private static final String EACH = "repeated bool a;repeated int b;repeated long c;repeated text d;repeated group e{repeated int f;}";

    private static void addDue(int field, long v, long want) {
        SchemaRecords x = Check.with(EACH);
        Check.due("add(0, " + field + ", " + v + ")", x.add(0, field, v), 1);
        Check.due("its value", x.value(1), want);
        Check.due("its field", x.node(1, 0), field);
    }

    private static void addRefused(int field, long v) {
        SchemaRecords x = Check.with(EACH);
        Check.due("add(0, " + field + ", " + v + ")", x.add(0, field, v), NONE);
        Check.due("nodes()", x.nodes(), 1);
        Check.due("node(0, 2)", x.node(0, 2), 0);
    }

    private static void add() {
        Check.sentence("11", "of a bool field (v not 0: true)", () -> {
            addDue(0, 0, 0);
            for (long v : new long[] {1, -1, 2, 256, 4294967296L, Long.MIN_VALUE, Long.MAX_VALUE}) {
                addDue(0, v, 1);
            }
        });
        Check.sentence("11", "int or long (v)", () -> {
            for (long v : new long[] {0, 1, -1, Integer.MAX_VALUE, Integer.MIN_VALUE}) {
                addDue(1, v, v);
                addDue(2, v, v);
            }
            addDue(2, 2147483648L, 2147483648L);
            addDue(2, Long.MAX_VALUE, Long.MAX_VALUE);
            addDue(2, Long.MIN_VALUE, Long.MIN_VALUE);
        });
        Check.sentence("11", "group (v counts for nothing)", () -> {
            for (long v : new long[] {0, 1, -1, 4294967296L, Long.MIN_VALUE, Long.MAX_VALUE}) {
                addDue(4, v, 0);
            }
        });
        Check.sentence("11", "its number", () -> {
            SchemaRecords x = Check.with(EACH);
            for (int k = 1; k <= 20; k++) {
                Check.due("add", x.add(0, 1, k), k);
                Check.due("nodes()", x.nodes(), k + 1);
            }
        });
    }

    private static void addEdges() {
        Check.sentence("11", "NONE if it may not (no such parent)", () -> {
            SchemaRecords x = Check.with(EACH);
            for (int parent : new int[] {-1, -2, 1, 1999, 2000, MIN, MAX}) {
                Check.due("add(" + parent + ", 1, 0)", x.add(parent, 1, 0), NONE);
            }
            Check.due("nodes()", x.nodes(), 1);
        });
        Check.sentence("11", "NONE if it may not (no such field, or one that add isn't for)", () -> {
            for (int field : new int[] {-1, -2, 6, 127, 128, MIN, MAX}) {
                addRefused(field, 0);
            }
            addRefused(3, 0);
            addRefused(3, 1);
            addRefused(5, 0);
            SchemaRecords none = new SchemaRecords();
            Check.due("without a schema", none.add(0, 0, 0), NONE);
            Check.due("without a schema", none.add(0, NONE, 0), NONE);
        });
        Check.sentence("11", "NONE if it may not (a refused call changes nothing)", () -> {
            SchemaRecords x = Check.with("optional int a;optional int b;optional int c;");
            Check.due("b", x.add(0, 1, 5), 1);
            Check.due("a", x.add(0, 0, 5), NONE);
            Check.due("b again", x.add(0, 1, 6), NONE);
            Check.due("c, too big", x.add(0, 2, 2147483648L), NONE);
            Check.due("node(0, 2)", x.node(0, 2), 1);
            Check.due("c", x.add(0, 2, 7), 2);
            Check.due("written", Check.written(x), "{b:5,c:7}");
        });
        Check.sentence("11", "v isn't in the field's range", () -> {
            for (long v : new long[] {2147483648L, -2147483649L, 4294967295L, 4294967296L, -4294967296L, Long.MIN_VALUE, Long.MAX_VALUE}) {
                addRefused(1, v);
            }
        });
        Check.sentence("11", "or there is no room", () -> {
            SchemaRecords x = Check.with("repeated int a;");
            Check.recordDue(x, "{a:[" + "1,".repeat(1996) + "1]}", NONE);
            Check.due("the 1999th node", x.add(0, 0, 8), 1998);
            Check.due("the 2000th node", x.add(0, 0, 9), 1999);
            Check.due("one more", x.add(0, 0, 9), NONE);
            Check.due("nodes()", x.nodes(), 2000);
            Check.due("node(0, 2)", x.node(0, 2), 1999);
        });
    }

    private static void addText() {
        Check.sentence("12", "A node of a text field comes, with the first n bytes of the tape", () -> {
            SchemaRecords x = Check.with(EACH);
            Check.feed(x, "ab'\\\n\u0000\u00ffcd");
            Check.due("addText(0, 3, 7)", x.addText(0, 3, 7), 1);
            Check.due("the text", Check.textOf(x, 1), "ab'\\\n\u0000\u00ff");
            Check.due("its field", x.node(1, 0), 3);
            Check.due("its value", x.value(1), 0);
            Check.feed(x, "zzzzzzzzz");
            Check.due("what comes onto the tape later counts for nothing", Check.textOf(x, 1), "ab'\\\n\u0000\u00ff");
            Check.due("no byte", x.addText(0, 3, 0), 2);
            Check.due("its size", x.node(2, 3), 0);
        });
        Check.sentence("12", "(at most 255)", () -> {
            SchemaRecords x = Check.with(EACH);
            Check.due("255", Check.addText(x, 0, 3, "q".repeat(255)), 1);
            Check.due("its size", x.node(1, 3), 255);
            Check.due("256", Check.addText(x, 0, 3, "q".repeat(256)), NONE);
            Check.due("4000", Check.addText(x, 0, 3, "q".repeat(4000)), NONE);
            Check.due("nodes()", x.nodes(), 2);
        });
        Check.sentence("12", "which is empty then", () -> {
            SchemaRecords x = Check.with(EACH);
            Check.feed(x, "abc");
            Check.due("addText(0, 3, 1)", x.addText(0, 3, 1), 1);
            Check.due("the tape is empty", x.addText(0, 3, 1), -2);
        });
        Check.sentence("12", "its number", () -> {
            SchemaRecords x = Check.with(EACH);
            for (int k = 1; k <= 20; k++) {
                Check.due("addText", Check.addText(x, 0, 3, "t"), k);
            }
        });
    }

    private static void textRefused(SchemaRecords x, int parent, int field) {
        int before = x.nodes();
        Check.due("addText(" + parent + ", " + field + ", 1)", Check.addText(x, parent, field, "q"), NONE);
        Check.due("nodes()", x.nodes(), before);
    }

    private static void addTextEdges() {
        Check.sentence("12", "NONE if it may not (no such parent or field, or no text field)", () -> {
            SchemaRecords x = Check.with(EACH);
            for (int parent : new int[] {-1, 1, 2000, MIN, MAX}) {
                textRefused(x, parent, 3);
            }
            for (int field : new int[] {-1, 0, 1, 2, 4, 5, 6, 128, MIN, MAX}) {
                textRefused(x, 0, field);
            }
            textRefused(new SchemaRecords(), 0, 0);
        });
        Check.sentence("12", "NONE if it may not (MADE BY HAND)", () -> {
            SchemaRecords x = Check.with("optional text a;repeated group g{optional text b;optional text c;}optional text d;");
            textRefused(x, 0, 2);
            Check.due("a", Check.addText(x, 0, 0, "q"), 1);
            textRefused(x, 0, 0);
            textRefused(x, 1, 0);
            Check.due("g", x.add(0, 1, 0), 2);
            textRefused(x, 0, 0);
            textRefused(x, 2, 4);
            Check.due("c", Check.addText(x, 2, 3, "q"), 3);
            textRefused(x, 2, 2);
            Check.due("g", x.add(0, 1, 0), 4);
            textRefused(x, 2, 3);
            Check.due("b", Check.addText(x, 4, 2, "q"), 5);
            Check.due("d", Check.addText(x, 0, 4, "q"), 6);
            textRefused(x, 4, 3);
        });
        Check.sentence("12", "or as above (there is no room for a node)", () -> {
            SchemaRecords x = Check.with("repeated int a;repeated text b;");
            Check.recordDue(x, "{a:[" + "1,".repeat(1996) + "1]}", NONE);
            Check.due("the 1999th node", Check.addText(x, 0, 1, "y"), 1998);
            Check.due("the 2000th node", Check.addText(x, 0, 1, "z"), 1999);
            textRefused(x, 0, 1);
            Check.due("nor without a byte", x.addText(0, 1, 0), NONE);
        });
        Check.sentence("12", "or as above (there is no room for the bytes)", () -> {
            // More calls than an object is used for: fewer can't bring so many bytes.
            SchemaRecords x = Check.with("repeated text a;");
            for (int k = 0; k < 80; k++) {
                Check.addText(x, 0, 0, "w".repeat(199));
            }
            Check.due("nodes()", x.nodes(), 81);
            Check.due("81 bytes where there is room for 80", Check.addText(x, 0, 0, "w".repeat(81)), NONE);
            Check.due("the tape is empty", x.addText(0, 0, 1), -2);
            Check.due("80 bytes", Check.addText(x, 0, 0, "w".repeat(80)), 81);
            textRefused(x, 0, 0);
        });
    }

    private static void emptyBehindText(SchemaRecords x, int parent, int field, int n) {
        Check.feed(x, "q".repeat(300));
        Check.due("addText(" + parent + ", " + field + ", " + n + ")", x.addText(parent, field, n), NONE);
        Check.due("the tape is empty", x.addText(0, 0, 1), -2);
    }

    private static void addTextTape() {
        Check.sentence("12", "(the tape is empty in any case", () -> {
            SchemaRecords x = Check.with(EACH);
            emptyBehindText(x, 9, 3, 1);
            emptyBehindText(x, 0, 9, 1);
            emptyBehindText(x, 0, 1, 1);
            emptyBehindText(x, 0, 3, 256);
            emptyBehindText(x, 0, 9, 0);
            emptyBehindText(new SchemaRecords(), 0, 0, 5);
        });
        Check.sentence("12", "but that there are not so many: - 2)", () -> {
            SchemaRecords x = Check.with(EACH);
            Check.feed(x, "qr");
            Check.due("addText(0, 3, 21)", x.addText(0, 3, 21), -2);
            Check.due("addText(0, 3, max)", x.addText(0, 3, MAX), -2);
            Check.due("addText(9, 9, 21)", x.addText(9, 9, 21), -2);
            Check.due("nodes()", x.nodes(), 1);
            Check.due("the tape stayed", x.addText(0, 3, 2), 1);
            Check.due("the text", Check.textOf(x, 1), "qr");
            Check.due("without a schema", new SchemaRecords().addText(0, 0, 1), -2);
        });
        Check.sentence("12", "or n is below 0: - 2)", () -> {
            SchemaRecords x = Check.with(EACH);
            Check.feed(x, "qr");
            Check.due("addText(0, 3, -1)", x.addText(0, 3, -1), -2);
            Check.due("addText(0, 3, min)", x.addText(0, 3, MIN), -2);
            Check.due("addText(9, 9, -1)", x.addText(9, 9, -1), -2);
            Check.due("the tape stayed", x.addText(0, 3, 2), 1);
        });
    }

    private static void nodes() {
        Check.sentence("13", "How many nodes there are", () -> {
            SchemaRecords x = Check.with(EACH);
            Check.due("of a new schema", x.nodes(), 1);
            Check.recordDue(x, "{a:[],e:[{},{f:[1,2]}]}", NONE);
            Check.due("of a record", x.nodes(), 5);
            x.add(0, 4, 0);
            Check.due("one more", x.nodes(), 6);
            x.begin();
            Check.due("behind begin()", x.nodes(), 1);
        });
    }

    private static void nodesDue(int what, int... due) {
        SchemaRecords x = Check.with(EACH);
        Check.recordDue(x, "{a:[true],d:['','xyz'],e:[{f:[1,2]},{}]}", NONE);
        for (int i = 0; i < due.length; i++) {
            Check.due("node(" + i + ", " + what + ")", x.node(i, what), due[i]);
        }
    }

    private static void node() {
        Check.sentence("14", "0 its field (NONE of node 0)", () -> nodesDue(0, NONE, 0, 3, 3, 4, 5, 5, 4));
        Check.sentence("14", "1 its PARENT (NONE of node 0)", () -> nodesDue(1, NONE, 0, 0, 0, 0, 4, 4, 0));
        Check.sentence("14", "2 how many nodes have it as PARENT", () -> nodesDue(2, 5, 0, 0, 0, 2, 0, 0, 0));
        Check.sentence("14", "3 how many bytes its text has (0 if it is none)", () -> nodesDue(3, 0, 0, 0, 3, 0, 0, 0, 0));
        Check.sentence("14", "NONE if there is none such", () -> {
            SchemaRecords x = Check.with(EACH);
            Check.recordDue(x, "{a:[true]}", NONE);
            for (int i : new int[] {-1, -2, 2, 1999, 2000, MIN, MAX}) {
                for (int what = 0; what <= 3; what++) {
                    Check.due("node(" + i + ", " + what + ")", x.node(i, what), NONE);
                }
            }
        });
        Check.sentence("14", "or for another what", () -> {
            SchemaRecords x = Check.with(EACH);
            Check.recordDue(x, "{d:['xy']}", NONE);
            for (int what : new int[] {-1, 4, 5, MIN, MAX}) {
                for (int i = -1; i <= 2; i++) {
                    Check.due("node(" + i + ", " + what + ")", x.node(i, what), NONE);
                }
            }
        });
    }

    private static void value() {
        Check.sentence("15", "A node's number: 1 or 0 of a bool", () -> {
            SchemaRecords x = Check.with(EACH);
            Check.recordDue(x, "{a:[true,false],b:[-5],c:[9223372036854775807]}", NONE);
            long[] due = {0, 1, 0, -5, Long.MAX_VALUE};
            for (int i = 0; i < due.length; i++) {
                Check.due("value(" + i + ")", x.value(i), due[i]);
            }
        });
        Check.sentence("15", "0 of texts and groups", () -> {
            SchemaRecords x = Check.with(EACH);
            Check.recordDue(x, "{c:[7],d:['5'],e:[{f:[6]},{}]}", NONE);
            long[] due = {0, 7, 0, 0, 6, 0};
            for (int i = 0; i < due.length; i++) {
                Check.due("value(" + i + ")", x.value(i), due[i]);
            }
        });
        Check.sentence("15", "and if there is none such", () -> {
            SchemaRecords x = Check.with(EACH);
            Check.recordDue(x, "{b:[1,2,3]}", NONE);
            Check.recordDue(x, "{b:[4]}", NONE);
            for (int i : new int[] {-1, 2, 3, 4, 1999, 2000, MIN, MAX}) {
                Check.due("value(" + i + ")", x.value(i), 0);
            }
        });
    }

    private static void textByte() {
        Check.sentence("16", "A byte of a node's text", () -> {
            SchemaRecords x = Check.with(EACH);
            Check.recordDue(x, "{d:['','\\x00\\xff~']}", NONE);
            Check.due("textByte(2, 0)", x.textByte(2, 0), 0);
            Check.due("textByte(2, 1)", x.textByte(2, 1), 255);
            Check.due("textByte(2, 2)", x.textByte(2, 2), '~');
        });
        Check.sentence("16", "NONE if there is none such", () -> {
            SchemaRecords x = Check.with(EACH);
            Check.recordDue(x, "{a:[true],d:['','xy'],e:[{}]}", NONE);
            for (int k : new int[] {-1, 2, 255, MIN, MAX}) {
                Check.due("textByte(3, " + k + ")", x.textByte(3, k), NONE);
            }
            for (int i : new int[] {-1, 0, 1, 2, 4, 5, 2000, MIN, MAX}) {
                Check.due("textByte(" + i + ", 0)", x.textByte(i, 0), NONE);
            }
            SchemaRecords full = Check.with(EACH);
            Check.addText(full, 0, 3, "q".repeat(255));
            Check.due("textByte(1, 254)", full.textByte(1, 254), 'q');
            Check.due("textByte(1, 255)", full.textByte(1, 255), NONE);
        });
    }

    private static void isWhole() {
        Check.sentence("17", "Whether the record is WHOLE", () -> {
            SchemaRecords x = Check.with(GOOD);
            Check.due("node 0 alone", x.isWhole(), false);
            Check.recordDue(x, "{a:1}", NONE);
            Check.due("one from a text", x.isWhole(), true);
            x.begin();
            Check.due("behind begin()", x.isWhole(), false);
            x.add(0, 0, 1);
            Check.due("behind add", x.isWhole(), true);
            Check.due("schema", Check.schema(x, "optional int a;"), NONE);
            Check.due("nothing required", x.isWhole(), true);
        });
        Check.sentence("17", "False without a schema", () -> {
            SchemaRecords x = new SchemaRecords();
            Check.due("isWhole()", x.isWhole(), false);
            x.begin();
            Check.due("isWhole() behind begin()", x.isWhole(), false);
            Check.due("schema", Check.schema(x, "optional int a"), 14);
            Check.due("isWhole() behind a text that can't stand", x.isWhole(), false);
        });
    }

    private static void write() {
        Check.sentence("18", "The record is WRITTEN to the output: how many bytes", () -> {
            SchemaRecords x = Check.with(EACH);
            Check.due("node 0 alone", x.write(), 2);
            Check.recordDue(x, "{d:['\\x00']}", NONE);
            Check.due("write()", x.write(), 12);
            Check.due("written again", Check.written(x), "{d:['\\x00']}");
            Check.due("the record stays", x.nodes(), 2);
        });
        Check.sentence("18", "which stays till the next write()", () -> {
            SchemaRecords x = Check.with("optional int a;");
            Check.recordDue(x, "{a:12}", NONE);
            Check.due("write()", x.write(), 6);
            x.begin();
            Check.due("behind begin()", Check.output(x, 6), "{a:12}");
            x.add(0, 0, 5);
            Check.due("behind add", Check.output(x, 6), "{a:12}");
            Check.recordDue(x, "{a:345}", NONE);
            Check.recordDue(x, "{a:345", 6);
            Check.due("behind record", Check.output(x, 6), "{a:12}");
            Check.due("schema", Check.schema(x, "required int b;"), NONE);
            Check.due("behind schema", Check.output(x, 6), "{a:12}");
            Check.recordDue(x, "{b:1}", NONE);
            Check.due("written", Check.written(x), "{b:1}");
            Check.due("nothing of the one before", x.output(5), NONE);
        });
        Check.sentence("18", "NONE if it isn't WHOLE", () -> {
            SchemaRecords x = Check.with("optional group g{required int a;}");
            x.add(0, 0, 0);
            Check.due("write()", x.write(), NONE);
            x.add(1, 1, 0);
            Check.due("write()", x.write(), 9);
            Check.due("without a schema", new SchemaRecords().write(), NONE);
        });
        Check.sentence("18", "(the output is empty then)", () -> {
            SchemaRecords x = Check.with(GOOD);
            x.add(0, 0, 5);
            Check.due("write()", x.write(), 5);
            x.begin();
            Check.due("write()", x.write(), NONE);
            for (int k = 0; k < 6; k++) {
                Check.due("output(" + k + ")", x.output(k), NONE);
            }
        });
    }

    private static void output() {
        Check.sentence("19", "A byte of the output", () -> {
            SchemaRecords x = Check.with(EACH);
            Check.recordDue(x, "{ b : [ 1 ] , d : [ '~' ] }", NONE);
            Check.due("write()", x.write(), 15);
            Check.due("the output", Check.output(x, 15), "{b:[1],d:['~']}");
        });
        Check.sentence("19", "NONE if there is none such", () -> {
            SchemaRecords x = Check.with("optional int a;");
            Check.due("before a write()", x.output(0), NONE);
            Check.due("write()", x.write(), 2);
            Check.due("output(1)", x.output(1), '}');
            for (int k : new int[] {-1, 2, 3, 1023, 1024, MIN, MAX}) {
                Check.due("output(" + k + ")", x.output(k), NONE);
            }
        });
        Check.sentence("19", "NONE if there is none such (behind a long output)", () -> {
            SchemaRecords x = Check.with("repeated int a;");
            String most = "{a:[" + "1,".repeat(1996) + "1]}";
            Check.recordDue(x, most, NONE);
            Check.due("write()", x.write(), most.length());
            for (int k : new int[] {1023, 1024, 2047, 2048, most.length() - 1}) {
                Check.due("output(" + k + ")", x.output(k), most.charAt(k));
            }
            Check.due("behind it", x.output(most.length()), NONE);
        });
    }
}
