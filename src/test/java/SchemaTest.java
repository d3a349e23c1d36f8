/** Promises 3 (schema), 4 (count), 5 (field), 6 (letter), 7 (column) and 8 (find). */
public final class SchemaTest {
    private static final int NONE = SchemaRecords.NONE;
    private static final String NESTED =
        "required int a; optional group b{repeated text c;repeated group d {required bool e; optional long f;}} repeated long a_9;";

    public static void main(String[] args) {
        properties();
        lettersAndColumns();
        blanks();
        places();
        names();
        limits();
        whatStays();
        finds();
        Check.end();
    }

    private static void properties() {
        SchemaRecords x = Check.with(NESTED);
        int[][] due = {
            {0, 1, NONE, 0, 1, 0, 0},
            {1, 4, NONE, NONE, 1, 0, 1},
            {2, 3, 1, 1, 1, 1, 2},
            {2, 4, 1, NONE, 1, 1, 2},
            {0, 0, 3, 2, 1, 1, 2},
            {1, 2, 3, 3, 1, 1, 3},
            {2, 2, NONE, 4, 3, 1, 1},
        };
        Check.due("count(0)", x.count(0), 7);
        Check.due("count(1)", x.count(1), 5);
        Check.due("count(2)", x.count(2), NONE);
        Check.due("count(-1)", x.count(-1), NONE);
        for (int f = 0; f < due.length; f++) {
            for (int what = 0; what < 7; what++) {
                Check.due("field(" + f + ", " + what + ")", x.field(f, what), due[f][what]);
            }
            Check.due("field(" + f + ", 7)", x.field(f, 7), NONE);
            Check.due("field(" + f + ", -1)", x.field(f, -1), NONE);
        }
        int[] bad = {-1, 7, 127, 128, Integer.MIN_VALUE, Integer.MAX_VALUE};
        for (int f : bad) {
            Check.due("field(" + f + ", 0)", x.field(f, 0), NONE);
            Check.due("letter(" + f + ", 0)", x.letter(f, 0), NONE);
            Check.due("column(" + f + ")", x.column(f), NONE);
        }
    }

    private static void lettersAndColumns() {
        SchemaRecords x = Check.with(NESTED);
        Check.due("letter(6, 0)", x.letter(6, 0), 'a');
        Check.due("letter(6, 1)", x.letter(6, 1), '_');
        Check.due("letter(6, 2)", x.letter(6, 2), '9');
        Check.due("letter(6, 3)", x.letter(6, 3), NONE);
        Check.due("letter(6, -1)", x.letter(6, -1), NONE);
        Check.due("letter(6, max)", x.letter(6, Integer.MAX_VALUE), NONE);
        int[] columns = {0, 2, 4, 5, 6};
        for (int c = 0; c < columns.length; c++) {
            Check.due("column(" + c + ")", x.column(c), columns[c]);
        }
        Check.due("column(5)", x.column(5), NONE);
    }

    private static void blanks() {
        Check.schemaDue("required int a;", NONE);
        Check.schemaDue(" \n required\nint  a \n; \n", NONE);
        Check.schemaDue("required group g{required int a;}", NONE);
        Check.schemaDue("\nrequired\ngroup\ng\n{\nrequired int a;\n}\n", NONE);
        Check.schemaDue("required int a;optional int b;repeated int c;", NONE);
        Check.schemaDue("required\tint a;", 8);
        Check.schemaDue("required\rint a;", 8);
        Check.schemaDue("required int a;\u0000", 15);
        Check.schemaDue("required int a\u00e4;", 14);
        Check.schemaDue("\u00a0required int a;", 0);
    }

    private static void places() {
        Check.schemaDue("", 0);
        Check.schemaDue(" \n ", 3);
        Check.schemaDue("int a;", 0);
        Check.schemaDue("  requ", 2);
        Check.schemaDue("Required int a;", 0);
        Check.schemaDue("requiredint a;", 0);
        Check.schemaDue("required", 8);
        Check.schemaDue("required ", 9);
        Check.schemaDue("required in", 9);
        Check.schemaDue("required int", 12);
        Check.schemaDue("required Int a;", 9);
        Check.schemaDue("required integer a;", 9);
        Check.schemaDue("required ;", 9);
        Check.schemaDue("required int ;", 13);
        Check.schemaDue("required int 5;", 13);
        Check.schemaDue("required int _a;", 13);
        Check.schemaDue("required int a", 14);
        Check.schemaDue("required int a  ", 16);
        Check.schemaDue("required int a b;", 15);
        Check.schemaDue("required int a-b;", 14);
        Check.schemaDue("required int a{", 14);
        Check.schemaDue("required int a;;", 15);
        Check.schemaDue("required int a;}", 15);
        Check.schemaDue("required int a; x", 16);
        Check.schemaDue("required int a; optional", 24);
        Check.schemaDue("required int a; 'x'", 16);
        Check.schemaDue("required group g;", 16);
        Check.schemaDue("required group g", 16);
        Check.schemaDue("required group g{", 17);
        Check.schemaDue("required group g{ }", 18);
        Check.schemaDue("required group {required int a;}", 15);
        Check.schemaDue("required group g{required int a;", 32);
        Check.schemaDue("required group g{required int a;;}", 32);
        Check.schemaDue("required group g{required int a;}}", 33);
        Check.schemaDue("required group g{required int a;};", 33);
        Check.schemaDue("required group g{required int a;} g", 34);
        Check.schemaDue("required group g{required group h{}}", 34);
        Check.schemaDue("required group g{int a;}", 17);
        Check.schemaDue("#", 0);
    }

    private static void names() {
        Check.schemaDue("required int abcdefghijklmnop;", NONE);
        Check.schemaDue("required int abcdefghijklmnopq;", 13);
        Check.schemaDue("required int required; optional int int; repeated group group{required bool bool;} "
            + "required text true; required long repeated;", NONE);
        Check.schemaDue("required int AZaz09_;", NONE);
        Check.schemaDue("required int A;required int Z;required int a;required int z;", NONE);
        String signs = "@[`{/:0 9_-.".replace(" ", "");
        for (int k = 0; k < signs.length(); k++) {
            Check.schemaDue("required int " + signs.charAt(k) + "a;", 13);
        }
        Check.schemaDue("required int a@;", 14);
        Check.schemaDue("required int a[;", 14);
        Check.schemaDue("required int a`;", 14);
        Check.schemaDue("required int a/;", 14);
        Check.schemaDue("required int a:;", 14);
        Check.schemaDue("required int a; required int a;", 29);
        Check.schemaDue("required int a; required int A;", NONE);
        Check.schemaDue("required int a; required group a{required int b;}", 31);
        Check.schemaDue("required group a{required int a;}", NONE);
        Check.schemaDue("required group a{required int b; required int b;}", 46);
        Check.schemaDue("required group a{required int b;} required group c{required int b;} required int b;", NONE);
        Check.schemaDue("required group a{required int b;} required int a;", 47);
        Check.schemaDue("required int a; required int ab; required int a_;", NONE);
    }

    private static void limits() {
        String columns = fields(0, 64);
        SchemaRecords x = Check.with(columns);
        Check.due("count(1)", x.count(1), 64);
        Check.due("column(63)", x.column(63), 63);
        Check.due("column(64)", x.column(64), NONE);
        Check.schemaDue(columns + "optional int z;", columns.length() + 13);
        Check.schemaDue(columns + "optional group z{optional int z;}", columns.length() + 30);
        Check.schemaDue(columns + "optional int z", columns.length() + 13);

        // 64 groups with a column in each: 128 fields.
        String full = pairs(64);
        SchemaRecords y = Check.with(full);
        Check.due("count(0)", y.count(0), 128);
        Check.due("count(1)", y.count(1), 64);
        Check.due("field(127, 2)", y.field(127, 2), 126);
        Check.due("field(127, 3)", y.field(127, 3), 63);
        Check.due("field(128, 0)", y.field(128, 0), NONE);
        Check.schemaDue(full + "optional group z{", full.length() + 15);
        Check.schemaDue(full + "optional int z;", full.length() + 13);
        Check.schemaDue(full + "optional int", full.length() + 12);
        Check.schemaDue(full + "optional x", full.length() + 9);

        // 65 groups, 63 columns: the 129th field would be a column.
        String many = pairs(62) + "optional group y{optional group y{optional group y{optional int y;";
        Check.schemaDue(many + "}optional int z;}}", many.length() + 1 + 13);

        Check.schemaDue(nest(16, ""), NONE);
        Check.schemaDue(nest(17, ""), nest(16, "").indexOf("int") - 9 + 15);
        SchemaRecords deep = Check.with(nest(16, "repeated long b;"));
        Check.due("field(16, 5)", deep.field(16, 5), 16);
        Check.due("field(16, 6)", deep.field(16, 6), 17);
        Check.due("field(17, 5)", deep.field(17, 5), 17);
        Check.due("field(17, 6)", deep.field(17, 6), 17);
        Check.due("field(17, 2)", deep.field(17, 2), 15);
        String beside = nest(16, "") + "required group h{" + nest(15, "") + "}";
        Check.schemaDue(beside, NONE);
    }

    private static String fields(int from, int to) {
        StringBuilder text = new StringBuilder();
        for (int k = from; k < to; k++) {
            text.append("optional int f").append(k).append(";");
        }
        return text.toString();
    }

    private static String pairs(int n) {
        StringBuilder text = new StringBuilder();
        for (int k = 0; k < n; k++) {
            text.append("optional group g").append(k).append("{optional int a;}");
        }
        return text.toString();
    }

    /** Groups one within another, an optional column and more in the innermost. */
    private static String nest(int depth, String more) {
        return "repeated group g{".repeat(depth) + "optional int a;" + more + "}".repeat(depth);
    }

    private static void whatStays() {
        SchemaRecords x = Check.with("required int a;");
        Check.recordDue(x, "{a:5}", NONE);
        Check.due("written", Check.written(x), "{a:5}");
        Check.due("bad schema", Check.schema(x, "required int b; required int b;"), 29);
        Check.due("count(0)", x.count(0), 1);
        Check.due("letter(0, 0)", x.letter(0, 0), 'a');
        Check.due("nodes()", x.nodes(), 2);
        Check.due("value(1)", x.value(1), 5);
        Check.due("schema(5)", x.schema(5), -2);
        Check.due("nodes()", x.nodes(), 2);
        Check.due("good schema", Check.schema(x, "optional int b; optional int c;"), NONE);
        Check.due("count(0)", x.count(0), 2);
        Check.due("nodes()", x.nodes(), 1);
        Check.due("node(0, 2)", x.node(0, 2), 0);
        Check.due("the output stays", Check.output(x, 5), "{a:5}");
        Check.due("written", Check.written(x), "{}");
    }

    private static void finds() {
        SchemaRecords x = Check.with(NESTED);
        Check.due("find a", Check.find(x, NONE, "a"), 0);
        Check.due("find b", Check.find(x, NONE, "b"), 1);
        Check.due("find a_9", Check.find(x, NONE, "a_9"), 6);
        Check.due("find a_", Check.find(x, NONE, "a_"), NONE);
        Check.due("find a_90", Check.find(x, NONE, "a_90"), NONE);
        Check.due("find A", Check.find(x, NONE, "A"), NONE);
        Check.due("find ' a'", Check.find(x, NONE, " a"), NONE);
        Check.due("find nothing", Check.find(x, NONE, ""), NONE);
        Check.due("find c of the schema", Check.find(x, NONE, "c"), NONE);
        Check.due("find c", Check.find(x, 1, "c"), 2);
        Check.due("find d", Check.find(x, 1, "d"), 3);
        Check.due("find e of b", Check.find(x, 1, "e"), NONE);
        Check.due("find e", Check.find(x, 3, "e"), 4);
        Check.due("find f", Check.find(x, 3, "f"), 5);
        Check.due("find a of a column", Check.find(x, 0, "a"), NONE);
        Check.due("find a of -2", Check.find(x, -2, "a"), NONE);
        Check.due("find a of 7", Check.find(x, 7, "a"), NONE);
        Check.due("find of a long name", Check.find(x, NONE, "a".repeat(300)), NONE);
        Check.feed(x, "a_9");
        Check.due("find with the first byte", x.find(NONE, 1), 0);
    }
}
