/** The Terms as far as they are about the tape, words and schemas: a test of its own for each sentence that names an edge. */
public final class SchemaSentencesTest {
    private static final int NONE = SchemaRecords.NONE;
    private static final String GOOD = "required int a;";

    public static void main(String[] args) {
        tape();
        blanks();
        words();
        whatCantStand();
        fields();
        names();
        limits();
        numbers();
        levels();
        Check.end();
    }

    private static void tape() {
        Check.sentence("Terms", "THE TAPE takes bytes, twenty a call", () -> {
            SchemaRecords x = new SchemaRecords();
            for (int k = 1; k <= 3; k++) {
                Check.due("feed", x.feed(0, 0, 0, 0, 0), true);
                Check.due("more than " + 20 * k, x.schema(20 * k + 1), -2);
            }
            Check.due("all of them", x.schema(60), 0);
        });
        Check.sentence("Terms", "at most 4000", () -> {
            SchemaRecords x = new SchemaRecords();
            for (int k = 1; k <= 199; k++) {
                feedBlanks(x);
            }
            Check.due("the 200th", feedBlanks(x), true);
            Check.due("the 201st", feedBlanks(x), false);
            Check.due("4001 bytes", x.schema(4001), -2);
            Check.due("4000 bytes", x.schema(4000), 4000);
            Check.schemaDue(" ".repeat(4000 - 15) + GOOD, NONE);
            Check.schemaDue(GOOD + "\n".repeat(4000 - 15), NONE);
        });
        Check.sentence("Terms", "a text is cut off it", () -> {
            SchemaRecords x = new SchemaRecords();
            Check.feed(x, GOOD + "zzzzz" + GOOD + "zzzzz");
            Check.due("the first fifteen bytes", x.schema(15), NONE);
            Check.due("nothing is left", x.schema(1), -2);
        });
    }

    private static boolean feedBlanks(SchemaRecords x) {
        return x.feed(0x20202020, 0x20202020, 0x20202020, 0x20202020, 0x20202020);
    }

    private static void blanks() {
        Check.sentence("Terms", "BLANKS are bytes 32 and 10", () -> {
            for (int c = 0; c < 256; c++) {
                boolean isBlank = c == 32 || c == 10;
                Check.schemaDue((char) c + ";", isBlank ? 1 : 0);
                Check.schemaDue(GOOD + (char) c, isBlank ? NONE : 15);
            }
        });
        Check.sentence("Terms", "ahead of, between and behind words, signs, numbers and texts there may be some", () -> {
            Check.schemaDue("\n  required \n int\n\na\n ; \n", NONE);
            Check.schemaDue("\n repeated\n group  g \n{ \n required int a;\n\n } \n", NONE);
            SchemaRecords x = Check.with("repeated int a; optional text b; optional bool c;");
            Check.recordDue(x, " \n{\n a \n: \n[ \n1 \n, \n-2\n ]\n , \nb\n : \n'x'\n ,\n c \n: \ntrue \n} \n", NONE);
            Check.recordDue(x, "{a:[1,-2],b:'x',c:true}", NONE);
        });
        Check.sentence("Terms", "none within them", () -> {
            Check.schemaDue("requi red int a;", 0);
            Check.schemaDue("required i\nnt a;", 9);
            Check.schemaDue("required int a b;", 15);
            SchemaRecords x = Check.with("optional int ab; optional bool c; optional text d;");
            Check.recordDue(x, "{a b:1}", 1);
            Check.recordDue(x, "{ab:1 2}", 6);
            Check.recordDue(x, "{ab:- 2}", 4);
            Check.recordDue(x, "{c:tr ue}", 3);
            Check.recordDue(x, "{d:'\n'}", 4);
            Check.recordDue(x, "{d:'\\ ''}", 4);
            Check.recordDue(x, "{d:'\\x 41'}", 4);
            Check.recordDue(x, "{d:'\\x4 1'}", 4);
        });
        Check.sentence("Terms", "in a text 32 stands for itself", () -> {
            SchemaRecords x = Check.with("optional text a;");
            Check.recordDue(x, "{a: '  b ' }", NONE);
            Check.due("the text", Check.textOf(x, 1), "  b ");
        });
    }

    private static boolean isLetter(int c) {
        return "abcdefghijklmnopqrstuvwxyzABCDEFGHIJKLMNOPQRSTUVWXYZ".indexOf(c) >= 0;
    }

    private static boolean isOfWord(int c) {
        return isLetter(c) || "0123456789_".indexOf(c) >= 0;
    }

    private static void words() {
        Check.sentence("Terms", "A WORD is a letter", () -> {
            for (int c = 0; c < 256; c++) {
                boolean isBlank = c == 32 || c == 10;
                Check.schemaDue("required int " + (char) c + ";", isLetter(c) ? NONE : isBlank ? 14 : 13);
            }
        });
        Check.sentence("Terms", "and letters, digits, _", () -> {
            for (int c = 0; c < 256; c++) {
                boolean isBlank = c == 32 || c == 10;
                Check.schemaDue("required int Z" + (char) c + ";", isOfWord(c) || isBlank ? NONE : c == ';' ? 15 : 14);
                SchemaRecords x = Check.with("optional int Z;");
                if (isOfWord(c)) {
                    Check.recordDue(x, "{Z" + (char) c + ":1}", 1);
                }
            }
        });
    }

    private static void whatCantStand() {
        Check.sentence("Terms", "the place where the word begins that should not be there", () -> {
            Check.schemaDue("abc int a;", 0);
            Check.schemaDue("required abc a;", 9);
            Check.schemaDue("required int a abc;", 15);
            Check.schemaDue("required int a; abc", 16);
        });
        Check.sentence("Terms", "the place where the sign begins that should not be there", () -> {
            Check.schemaDue("; ", 0);
            Check.schemaDue("required {", 9);
            Check.schemaDue("required int }", 13);
            Check.schemaDue("required int a,", 14);
            Check.schemaDue("required group a;", 16);
        });
        Check.sentence("Terms", "the place where the number begins that should not be there", () -> {
            Check.schemaDue("12", 0);
            Check.schemaDue("required 12", 9);
            Check.schemaDue("required int -12;", 13);
            Check.schemaDue("required int a 12;", 15);
        });
        Check.sentence("Terms", "the place where the text begins that should not be there", () -> {
            Check.schemaDue("'required' int a;", 0);
            Check.schemaDue("required 'int' a;", 9);
            Check.schemaDue("required int 'a';", 13);
            Check.schemaDue("required int a 'b';", 15);
        });
        Check.sentence("Terms", "or by that of a byte that is none of them", () -> {
            Check.schemaDue("\u0000required int a;", 0);
            Check.schemaDue("required #int a;", 9);
            Check.schemaDue("required int a\u00ff;", 14);
            Check.schemaDue("required int a; \t", 16);
        });
        Check.sentence("Terms", "by the text's size if it ends too early", () -> {
            int[] schemaPlaces = {0, 0, 0, 0, 0, 0, 0, 0, 8, 9, 9, 9, 12, 13, 14, NONE};
            for (int n = 0; n < schemaPlaces.length; n++) {
                SchemaRecords x = new SchemaRecords();
                Check.feed(x, GOOD);
                Check.due("the first " + n + " of " + GOOD, x.schema(n), schemaPlaces[n]);
            }
            Check.schemaDue(" \n ", 3);
            Check.schemaDue("required \n", 10);
            Check.schemaDue("required group g { required int a ; ", 36);
            String record = "{a:-12,b:[true],c:'\\x41'}";
            int[] recordPlaces = {0, 1, 2, 3, 4, 5, 6, 7, 8, 9, 10, 10, 10, 10, 14, 15, 16, 17, 18, 19, 20, 21, 22, 23, 24, NONE};
            for (int n = 0; n < recordPlaces.length; n++) {
                SchemaRecords x = Check.with("optional int a; repeated bool b; optional text c;");
                Check.feed(x, record);
                Check.due("the first " + n + " of " + record, x.record(n), recordPlaces[n]);
            }
        });
        Check.sentence("Terms", "The first such place counts", () -> {
            Check.schemaDue("required int a; required int a; # required", 29);
            Check.schemaDue("required integer 12 #", 9);
            SchemaRecords x = Check.with("optional int a; optional int b;");
            Check.recordDue(x, "{a:05,b:-0,c:#", 3);
            Check.recordDue(x, "{c:05", 1);
        });
    }

    private static void fields() {
        Check.sentence("Terms", "A SCHEMA is one FIELD or more", () -> {
            Check.schemaDue("", 0);
            Check.schemaDue("  ", 2);
            Check.schemaDue(GOOD, NONE);
            Check.schemaDue(GOOD + "required int b;", NONE);
            Check.schemaDue(GOOD + "}", 15);
        });
        Check.sentence("Terms", "required, optional or repeated", () -> {
            String[] kinds = {"required", "optional", "repeated"};
            for (int kind = 0; kind < 3; kind++) {
                SchemaRecords x = Check.with(kinds[kind] + " int a;");
                Check.due("the kind", x.field(0, 0), kind);
                Check.schemaDue(kinds[kind].substring(1) + " int a;", 0);
                Check.schemaDue(kinds[kind] + "s int a;", 0);
                Check.schemaDue(kinds[kind].toUpperCase() + " int a;", 0);
                Check.schemaDue(kinds[kind] + " " + kinds[kind] + " int a;", 9);
            }
        });
        Check.sentence("Terms", "then bool, int, long or text, a NAME and a semicolon", () -> {
            String[] types = {"bool", "int", "long", "text"};
            for (int type = 0; type < 4; type++) {
                SchemaRecords x = Check.with("optional " + types[type] + " a;");
                int behind = 9 + types[type].length();
                Check.due("the type", x.field(0, 1), type);
                Check.schemaDue("optional " + types[type].substring(1) + " a;", 9);
                Check.schemaDue("optional " + types[type] + "s a;", 9);
                Check.schemaDue("optional " + types[type].toUpperCase() + " a;", 9);
                Check.schemaDue("optional " + types[type] + ";", behind);
                Check.schemaDue("optional " + types[type] + " a", behind + 2);
                Check.schemaDue("optional " + types[type] + " a{optional int b;}", behind + 2);
                Check.schemaDue("optional " + types[type] + " a;;", behind + 3);
            }
        });
        Check.sentence("Terms", "or group, a NAME, { , one FIELD or more, }", () -> {
            SchemaRecords x = Check.with("optional group g{optional int a;}");
            Check.due("the type", x.field(0, 1), 4);
            Check.schemaDue("optional group {optional int a;}", 15);
            Check.schemaDue("optional group g;", 16);
            Check.schemaDue("optional group g optional int a;}", 17);
            Check.schemaDue("optional group g{}", 17);
            Check.schemaDue("optional group g{optional group h{optional int a;}}", NONE);
            Check.schemaDue("optional group g{optional group h{}}", 34);
            Check.schemaDue("optional group g{optional int a;optional int b;}", NONE);
            Check.schemaDue("optional group g{optional int a;", 32);
            Check.schemaDue("optional group g{optional int a;};", 33);
            Check.schemaDue("optional group g{optional int a;}}", 33);
        });
    }

    private static void names() {
        Check.sentence("Terms", "A NAME is a word of at most 16 bytes", () -> {
            Check.schemaDue("required int a;", NONE);
            Check.schemaDue("required int a23456789_123456;", NONE);
            Check.schemaDue("required int a23456789_1234567;", 13);
            Check.schemaDue("required group a23456789_123456{required int a;}", NONE);
            Check.schemaDue("required group a23456789_1234567{required int a;}", 15);
            Check.schemaDue("required int " + "a".repeat(300), 13);
        });
        Check.sentence("Terms", "(required, int and the others, too)", () -> {
            String[] words = {"required", "optional", "repeated", "bool", "int", "long", "text", "group", "true", "false"};
            for (String word : words) {
                SchemaRecords x = Check.with("optional int " + word + ";");
                Check.recordDue(x, "{" + word + ":1}", NONE);
                Check.schemaDue("required group " + word + "{required bool " + word + ";}", NONE);
            }
        });
        Check.sentence("Terms", "that no other field of the same group has", () -> {
            Check.schemaDue("required group g{required int a;required int a;}", 45);
            Check.schemaDue("required group g{required int a;required int b;required text a;}", 61);
            Check.schemaDue("required group g{required int a;required group a{required int b;}}", 47);
            Check.schemaDue("required group g{required group a{required int b;}required int a;}", 63);
            Check.schemaDue("required group g{required int a;required int A;required int aa;}", NONE);
            Check.schemaDue("required group g{required int a;}required group h{required int a;}", NONE);
            Check.schemaDue("required group g{required int g;}", NONE);
        });
        Check.sentence("Terms", "(or of the schema itself)", () -> {
            Check.schemaDue("required int a;required int a;", 28);
            Check.schemaDue("required int a;required group g{required int a;}required int a;", 61);
            Check.schemaDue("required int a;required group g{required int a;}required int g;", 61);
            Check.schemaDue("required int a;required group g{required int a;}required int b;", NONE);
        });
    }

    private static void limits() {
        Check.sentence("Terms", "At most 128 fields: the NAME of one more can't stand", () -> {
            String most = chains(7) + columns(9);
            SchemaRecords x = Check.with(most);
            Check.due("fields", x.count(0), 128);
            Check.schemaDue(most + "required int z;", most.length() + 13);
            Check.schemaDue(most + "required int z", most.length() + 13);
            Check.schemaDue(most + "required group z{required int a;}", most.length() + 15);
            Check.schemaDue(most + "required int ;", most.length() + 13);
            Check.schemaDue(most + "required z", most.length() + 9);
            Check.schemaDue(most + "z", most.length());
        });
        Check.sentence("Terms", "64 of them COLUMNS (no groups): the NAME of one more can't stand", () -> {
            String most = columns(64);
            SchemaRecords x = Check.with(most);
            Check.due("columns", x.count(1), 64);
            Check.schemaDue(most + "required bool z;", most.length() + 14);
            Check.schemaDue(most + "required text z", most.length() + 14);
            Check.schemaDue(most + "required group z{required int a;}", most.length() + 30);
            String within = columns(62) + "required group z{required int a;required int b;";
            Check.schemaDue(within + "}", NONE);
            Check.schemaDue(within + "required int c;}", within.length() + 13);
        });
        Check.sentence("Terms", "and 16 groups one within another: the NAME of one more can't stand", () -> {
            String deep = "required group g{".repeat(16);
            Check.schemaDue(deep + "required int a;" + "}".repeat(16), NONE);
            Check.schemaDue(deep + "required group g{required int a;" + "}".repeat(17), deep.length() + 15);
            Check.schemaDue(deep + "required int a;required group g{required int a;" + "}".repeat(17), deep.length() + 30);
            String again = deep + "required int a;" + "}" + "required group h{required int a;" + "}".repeat(16);
            Check.schemaDue(again, NONE);
            Check.schemaDue(again + again.replaceFirst(" g\\{", " i{"), NONE);
        });
    }

    /** Fields of the schema with seventeen fields each: sixteen groups one within another, a column in the innermost. */
    private static String chains(int n) {
        StringBuilder text = new StringBuilder();
        for (int k = 0; k < n; k++) {
            text.append("required group g").append(k).append("{").append("required group g{".repeat(15));
            text.append("required int a;").append("}".repeat(16));
        }
        return text.toString();
    }

    private static String columns(int n) {
        StringBuilder text = new StringBuilder();
        for (int k = 0; k < n; k++) {
            text.append("optional int f").append(k).append(";");
        }
        return text.toString();
    }

    private static void numbers() {
        Check.sentence("Terms", "Fields are numbered in their order, a group before those in it", () -> {
            SchemaRecords x = Check.with("optional int a;optional group b{optional int c;optional group d{optional int e;}}optional int f;");
            for (int f = 0; f < 6; f++) {
                Check.due("the name of " + f, x.letter(f, 0), 'a' + f);
            }
        });
        Check.sentence("Terms", "COLUMNS likewise", () -> {
            SchemaRecords x = Check.with("optional group a{optional int b;optional group c{optional int d;}}optional int e;");
            int[] fields = {1, 3, 4};
            for (int c = 0; c < fields.length; c++) {
                Check.due("the field of " + c, x.column(c), fields[c]);
                Check.due("the column of " + fields[c], x.field(fields[c], 3), c);
            }
        });
    }

    private static void levels() {
        Check.sentence("Terms", "REPETITION: how many repeated fields there are from the schema down to it, itself among them", () ->
            levelsDue("required group a{repeated group b{optional group c{repeated int d;optional int e;}}}repeated int f;", 5,
                new int[] {0, 1, 1, 2, 1, 1}));
        Check.sentence("Terms", "DEFINITION: how many optional or repeated ones", () ->
            levelsDue("required group a{repeated group b{optional group c{repeated int d;required int e;}}}optional int f;", 6,
                new int[] {0, 1, 2, 3, 2, 1}));
    }

    private static void levelsDue(String schema, int what, int[] due) {
        SchemaRecords x = Check.with(schema);
        for (int f = 0; f < due.length; f++) {
            Check.due("field(" + f + ", " + what + ")", x.field(f, what), due[f]);
        }
    }
}
