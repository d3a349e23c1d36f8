/** The Terms as far as they are about records and nodes: a test of its own for each sentence that names an edge. */
public final class RecordSentencesTest {
    private static final int NONE = SchemaRecords.NONE;

    public static void main(String[] args) {
        members();
        required();
        values();
        numbers();
        ranges();
        textBytes();
        escapes();
        faultsInTexts();
        nodes();
        room();
        madeByHand();
        parents();
        whole();
        written();
        writtenTexts();
        Check.end();
    }

    private static void members() {
        Check.sentence("Terms", "A RECORD: {", () -> {
            SchemaRecords x = Check.with("optional int a;");
            Check.recordDue(x, "", 0);
            Check.recordDue(x, "a:1}", 0);
            Check.recordDue(x, "}", 0);
            Check.recordDue(x, "[]", 0);
            Check.recordDue(x, "{{", 1);
        });
        Check.sentence("Terms", "for each field of the schema, in their order", () -> {
            SchemaRecords x = Check.with("optional int a;optional int b;optional int c;");
            Check.recordDue(x, "{a:1,b:2,c:3}", NONE);
            Check.recordDue(x, "{b:2,a:1}", 5);
            Check.recordDue(x, "{a:1,c:3,b:2}", 9);
            Check.recordDue(x, "{a:1,a:1}", 5);
            Check.recordDue(x, "{c:1,c:1}", 5);
            Check.recordDue(x, "{d:1}", 1);
        });
        Check.sentence("Terms", "NAME : VALUE", () -> {
            SchemaRecords x = Check.with("optional int a;");
            Check.recordDue(x, "{:1}", 1);
            Check.recordDue(x, "{a 1}", 3);
            Check.recordDue(x, "{a}", 2);
            Check.recordDue(x, "{a:}", 3);
            Check.recordDue(x, "{a::1}", 3);
            Check.recordDue(x, "{'a':1}", 1);
            Check.recordDue(x, "{A:1}", 1);
            Check.recordDue(x, "{aa:1}", 1);
        });
        Check.sentence("Terms", "with commas between", () -> {
            SchemaRecords x = Check.with("optional int a;optional int b;optional int c;");
            Check.recordDue(x, "{,a:1}", 1);
            Check.recordDue(x, "{a:1 b:2}", 5);
            Check.recordDue(x, "{a:1,,b:2}", 5);
            Check.recordDue(x, "{a:1;b:2}", 4);
            Check.recordDue(x, "{a:1,}", 5);
            Check.recordDue(x, "{a:1,b:2,c:3,}", 13);
            Check.recordDue(x, "{,}", 1);
        });
        Check.sentence("Terms", "} (of a record)", () -> {
            SchemaRecords x = Check.with("optional int a;");
            Check.recordDue(x, "{a:1", 4);
            Check.recordDue(x, "{a:1]", 4);
            Check.recordDue(x, "{a:1}}", 5);
            Check.recordDue(x, "{a:1} {", 6);
            Check.recordDue(x, "{a:1},", 5);
            Check.recordDue(x, "{}", NONE);
        });
    }

    private static void required() {
        Check.sentence("Terms", "A required one must be there", () -> {
            SchemaRecords x = Check.with("required int a;");
            Check.recordDue(x, "{a:1}", NONE);
            Check.recordDue(x, "{}", 1);
            SchemaRecords y = Check.with("optional group g{optional int a;required int b;}");
            Check.recordDue(y, "{}", NONE);
            Check.recordDue(y, "{g:{b:1}}", NONE);
            Check.recordDue(y, "{g:{}}", 4);
            Check.recordDue(y, "{g:{a:1}}", 7);
        });
        Check.sentence("Terms", "others may lack", () -> {
            SchemaRecords x = Check.with("optional int a;repeated int b;optional group c{optional int d;}repeated group e{required int f;}");
            Check.recordDue(x, "{}", NONE);
            Check.recordDue(x, "{a:1}", NONE);
            Check.recordDue(x, "{b:[1]}", NONE);
            Check.recordDue(x, "{c:{}}", NONE);
            Check.recordDue(x, "{a:1,e:[{f:1}]}", NONE);
        });
        Check.sentence("Terms", "Of a name that comes where a required one is missed out, that name can't stand", () -> {
            SchemaRecords x = Check.with("optional int a;required int b;optional int c;required int d;optional int e;");
            Check.recordDue(x, "{c:1,d:1}", 1);
            Check.recordDue(x, "{a:1, d:1}", 6);
            Check.recordDue(x, "{b:1,e:1}", 5);
            Check.recordDue(x, "{b:1,c:1,e:1}", 9);
            Check.recordDue(x, "{b:1,d:1,e:1}", NONE);
            SchemaRecords y = Check.with("required group g{required int a;required int b;}required int h;");
            Check.recordDue(y, "{g:{b:1}}", 4);
            Check.recordDue(y, "{h:1}", 1);
        });
        Check.sentence("Terms", "if it lacks at the end, }", () -> {
            SchemaRecords x = Check.with("optional int a;required int b;");
            Check.recordDue(x, "{}", 1);
            Check.recordDue(x, "{ \n}", 3);
            Check.recordDue(x, "{a:1}", 4);
            Check.recordDue(x, "{a:1 } }", 5);
            Check.recordDue(x, "{a:1", 4);
            Check.recordDue(x, "{a:1]", 4);
        });
    }

    private static void values() {
        Check.sentence("Terms", "VALUE of a repeated field: [ , its values with commas between, or nothing, ]", () -> {
            SchemaRecords x = Check.with("repeated int a;optional int b;");
            nodesDue(x, "{a:[]}", 1);
            nodesDue(x, "{a:[ \n]}", 1);
            nodesDue(x, "{a:[1]}", 2);
            nodesDue(x, "{a:[1,2,3]}", 4);
            Check.recordDue(x, "{a:1}", 3);
            Check.recordDue(x, "{a:1]}", 3);
            Check.recordDue(x, "{a:}", 3);
            Check.recordDue(x, "{a:,b:2}", 3);
            Check.recordDue(x, "{a:]}", 3);
            Check.recordDue(x, "{a:{1}}", 3);
            Check.recordDue(x, "{a:[,1]}", 4);
            Check.recordDue(x, "{a:[1,]}", 6);
            Check.recordDue(x, "{a:[1,,2]}", 6);
            Check.recordDue(x, "{a:[1 2]}", 6);
            Check.recordDue(x, "{a:[1;2]}", 5);
            Check.recordDue(x, "{a:[1}", 5);
            Check.recordDue(x, "{a:[1,b:2}", 6);
            Check.recordDue(x, "{a:[[1]]}", 4);
            Check.recordDue(x, "{a:[1],a:[2]}", 7);
            Check.recordDue(x, "{a:[1]]}", 6);
            Check.recordDue(x, "{a:[", 4);
            Check.recordDue(x, "{a:[1,", 6);
        });
        Check.sentence("Terms", "else the value itself", () -> {
            SchemaRecords x = Check.with("required int a;optional int b;");
            Check.recordDue(x, "{a:[1]}", 3);
            Check.recordDue(x, "{a:1,b:[1]}", 7);
            Check.recordDue(x, "{a:1,b:[]}", 7);
            Check.recordDue(x, "{a:1,b:1}", NONE);
        });
        Check.sentence("Terms", "Of a group: like a record, of its fields", () -> {
            SchemaRecords x = Check.with("optional group g{optional int a;optional group h{required int a;}}repeated group i{optional int a;}optional int b;");
            nodesDue(x, "{g:{}}", 2);
            nodesDue(x, "{g:{a:1,h:{a:2}},i:[{},{a:3}]}", 8);
            Check.recordDue(x, "{g:1}", 3);
            Check.recordDue(x, "{g:[]}", 3);
            Check.recordDue(x, "{g:}", 3);
            Check.recordDue(x, "{g:{b:1}}", 4);
            Check.recordDue(x, "{g:{h:{}}}", 7);
            Check.recordDue(x, "{i:{}}", 3);
            Check.recordDue(x, "{i:[{}{}]}", 6);
            Check.recordDue(x, "{g:{h:{a:1},a:1}}", 12);
            Check.recordDue(x, "{h:{a:1}}", 1);
        });
        Check.sentence("Terms", "Of a group: like a record, of its fields (sixteen one within another)", () -> {
            SchemaRecords x = Check.with("optional group g{".repeat(16) + "required int a;" + "}".repeat(16));
            String deep = "{g:".repeat(16) + "{a:1}" + "}".repeat(16);
            nodesDue(x, deep, 18);
            Check.due("written", Check.written(x), deep);
            Check.recordDue(x, "{g:".repeat(16) + "{}", 3 * 16 + 1);
            Check.recordDue(x, "{g:".repeat(16) + "{g:", 3 * 16 + 1);
        });
        Check.sentence("Terms", "bool: true or false", () -> {
            SchemaRecords x = Check.with("optional bool a;");
            String[] wrong = {"True", "FALSE", "tru", "truee", "fals", "false_", "t", "0", "1", "-1", "'true'", "{}", "-", "_"};
            for (String word : wrong) {
                Check.recordDue(x, "{a:" + word + "}", 3);
            }
            Check.recordDue(x, "{a:true}", NONE);
            Check.recordDue(x, "{a:false}", NONE);
            Check.recordDue(x, "{a:true false}", 8);
            Check.recordDue(x, "{a:}", 3);
            Check.recordDue(x, "{a: }", 4);
        });
    }

    private static void nodesDue(SchemaRecords x, String text, int want) {
        Check.recordDue(x, text, NONE);
        Check.due("nodes of " + text, x.nodes(), want);
    }

    private static void numberDue(String type, String number, long want) {
        SchemaRecords x = Check.with("optional " + type + " a;");
        Check.recordDue(x, "{a:" + number + "}", NONE);
        Check.due("value of " + number, x.value(1), want);
    }

    private static void numberWrong(String type, String number, int want) {
        Check.recordDue(Check.with("optional " + type + " a;"), "{a:" + number, want);
    }

    private static void numbers() {
        String[] types = {"int", "long"};
        Check.sentence("Terms", "int, long: perhaps - , and digits", () -> {
            for (String type : types) {
                numberDue(type, "0", 0);
                numberDue(type, "9", 9);
                numberDue(type, "-9", -9);
                numberDue(type, "1234567890", 1234567890);
                String[] wrong = {"+1}", "/}", ":}", "x}", "true}", "'1'}", ".5}", "_1}", "{}}", "}", ",", "\u00b2}"};
                for (String number : wrong) {
                    numberWrong(type, number, 3);
                }
                numberWrong(type, "1.5}", 4);
                numberWrong(type, "1e5}", 4);
                numberWrong(type, "1_0}", 4);
                numberWrong(type, "1-1}", 4);
                numberWrong(type, "1/}", 4);
                numberWrong(type, "1:}", 4);
            }
        });
        Check.sentence("Terms", "without a 0 in front: 05", () -> {
            for (String type : types) {
                numberDue(type, "10", 10);
                numberWrong(type, "05}", 3);
                numberWrong(type, " 05}", 4);
                numberWrong(type, "00}", 3);
                numberWrong(type, "01", 3);
                numberWrong(type, "-05}", 3);
                numberWrong(type, "0 5}", 5);
            }
        });
        Check.sentence("Terms", "(and not - 0)", () -> {
            for (String type : types) {
                numberWrong(type, "-0}", 3);
                numberWrong(type, "  -0}", 5);
                numberWrong(type, "-0", 3);
                numberWrong(type, "-00}", 3);
            }
        });
        Check.sentence("Terms", "and - without a digit right behind it, too", () -> {
            for (String type : types) {
                numberWrong(type, "-}", 3);
                numberWrong(type, "- }", 3);
                numberWrong(type, "- 1}", 3);
                numberWrong(type, "- ", 3);
                numberWrong(type, "--1}", 3);
                numberWrong(type, "-x}", 3);
                numberWrong(type, " -/}", 4);
                numberWrong(type, " -:}", 4);
            }
        });
        Check.sentence("Terms", "but - at the text's end: its size", () -> {
            for (String type : types) {
                numberWrong(type, "-", 4);
                numberWrong(type, " \n-", 6);
                SchemaRecords x = Check.with("repeated " + type + " a;");
                Check.recordDue(x, "{a:[1,-", 7);
                Check.feed(x, "{a:[-5]}");
                Check.due("the text ends behind -", x.record(5), 5);
            }
            // Where no number may come a - is a sign that should not be there.
            Check.recordDue(Check.with("optional bool a;"), "{a:-", 3);
            Check.recordDue(Check.with("optional int a;"), "{-", 1);
        });
    }

    private static void ranges() {
        Check.sentence("Terms", "in the range of 32 bits (else it can't stand, by the place of its - or first digit)", () -> {
            numberDue("int", "2147483647", Integer.MAX_VALUE);
            numberDue("int", "-2147483648", Integer.MIN_VALUE);
            numberWrong("int", "2147483648}", 3);
            numberWrong("int", " -2147483649}", 4);
            numberWrong("int", "4294967295}", 3);
            numberWrong("int", "4294967297}", 3);
            numberWrong("int", "9223372036854775807}", 3);
            numberWrong("int", "-18446744073709551615}", 3);
            numberWrong("int", "21474836470", 3);
        });
        Check.sentence("Terms", "in the range of 64 bits (else it can't stand, by the place of its - or first digit)", () -> {
            numberDue("long", "2147483648", 2147483648L);
            numberDue("long", "9223372036854775807", Long.MAX_VALUE);
            numberDue("long", "-9223372036854775808", Long.MIN_VALUE);
            numberWrong("long", "9223372036854775808}", 3);
            numberWrong("long", " -9223372036854775809}", 4);
            numberWrong("long", "18446744073709551616}", 3);
            numberWrong("long", "18446744073709551617}", 3);
            numberWrong("long", "92233720368547758070", 3);
            numberWrong("long", "-" + "1".repeat(3000) + "}", 3);
        });
    }

    private static void textDue(SchemaRecords x, String text, String want) {
        Check.recordDue(x, "{a:'" + text + "'}", NONE);
        Check.due("size of " + text, x.node(1, 3), want.length());
        Check.due("bytes of " + text, Check.textOf(x, 1), want);
    }

    private static void textBytes() {
        Check.sentence("Terms", "text: '", () -> {
            SchemaRecords x = Check.with("optional text a;");
            String[] wrong = {"x'", "\"x\"", "`x'", "5", "true", "\\'x'", "{}", "[]"};
            for (String text : wrong) {
                Check.recordDue(x, "{a:" + text + "}", 3);
            }
            Check.recordDue(x, "{a:}", 3);
        });
        Check.sentence("Terms", "at most 255 bytes", () -> {
            SchemaRecords x = Check.with("optional text a;");
            textDue(x, "", "");
            textDue(Check.with("optional text a;"), "q".repeat(254), "q".repeat(254));
            SchemaRecords y = Check.with("optional text a;");
            textDue(y, "q".repeat(255), "q".repeat(255));
            SchemaRecords z = Check.with("optional text a;");
            textDue(z, "\\x41".repeat(255), "A".repeat(255));
        });
        Check.sentence("Terms", "each from 32 to 126 stands for itself", () -> {
            for (int c = 32; c <= 126; c++) {
                if (c != '\'' && c != '\\') {
                    textDue(Check.with("optional text a;"), "" + (char) c, "" + (char) c);
                }
            }
        });
        Check.sentence("Terms", "' (at a text's end)", () -> {
            SchemaRecords x = Check.with("optional text a;");
            Check.recordDue(x, "{a:'x}", 6);
            Check.recordDue(x, "{a:'x\"}", 7);
            Check.recordDue(x, "{a:'x''}", 6);
            Check.recordDue(x, "{a:'x'y'}", 6);
            Check.recordDue(x, "{a:'x\\'}", 8);
        });
    }

    private static void escapes() {
        Check.sentence("Terms", "but \\ (92, one byte) before ' or itself stands for these", () -> {
            SchemaRecords x = Check.with("optional text a;");
            textDue(x, "\\'", "'");
            textDue(x, "\\\\", "\\");
            textDue(x, "\\\\\\'\\\\", "\\'\\");
            textDue(x, "\\\\x41", "\\x41");
        });
        Check.sentence("Terms", "and before x and two digits 0 .. 9, a .. f (of sixteen) for that byte", () -> {
            for (int c = 0; c < 256; c++) {
                textDue(Check.with("optional text a;"), String.format("\\x%02x", c), "" + (char) c);
            }
            SchemaRecords x = Check.with("optional text a;");
            textDue(x, "\\x411", "A1");
        });
    }

    private static void faultsInTexts() {
        Check.sentence("Terms", "In a text a byte that can't stand is told by its own place", () -> {
            for (int c = 0; c < 256; c++) {
                if (c < 32 || c > 126) {
                    SchemaRecords x = Check.with("optional text a;");
                    Check.recordDue(x, "{a:'" + (char) c + "'}", 4);
                    Check.recordDue(x, "{a:'yz" + (char) c, 6);
                }
            }
        });
        Check.sentence("Terms", "or is the 256th, is told by its own place", () -> {
            String[] more = {"q'}", "q", " '}", "\n'}", "\\''}", "\\\\'}", "\\x41'}", "\\n'}", "\u00ff'}", "}"};
            for (String behind : more) {
                SchemaRecords x = Check.with("optional text a;");
                Check.recordDue(x, "{a:'" + "q".repeat(255) + behind, 4 + 255);
            }
            SchemaRecords x = Check.with("optional text a;");
            Check.recordDue(x, "{a:'" + "\\x41".repeat(255) + "q'}", 4 + 4 * 255);
            Check.recordDue(x, "{a:'" + "\\'".repeat(255) + "\\''}", 4 + 2 * 255);
        });
        Check.sentence("Terms", "\\ and what is wrong behind it by that of \\", () -> {
            for (int c = 0; c < 256; c++) {
                SchemaRecords x = Check.with("optional text a;");
                if (c != '\'' && c != '\\' && c != 'x') {
                    Check.recordDue(x, "{a:'y\\" + (char) c + "41'}", 5);
                }
                if ("0123456789abcdef".indexOf(c) < 0) {
                    Check.recordDue(x, "{a:'y\\x" + (char) c + "1'}", 5);
                    Check.recordDue(x, "{a:'y\\x4" + (char) c + "'}", 5);
                    Check.recordDue(x, "{a:'y\\x4" + (char) c, 5);
                }
            }
        });
        Check.sentence("Terms", "the text's size, if it ends there and all is right so far", () -> {
            String[] ends = {"", "y", "y ", "\\", "y\\", "\\'", "\\\\", "\\x", "\\x4", "\\x41", "q".repeat(255), "\\x41".repeat(255)};
            for (String text : ends) {
                SchemaRecords x = Check.with("optional text a;");
                Check.recordDue(x, "{a:'" + text, 4 + text.length());
            }
            SchemaRecords x = Check.with("optional text a;");
            Check.recordDue(x, "{a:'\n", 4);
            Check.recordDue(x, "{a:'\\xg", 4);
        });
    }

    private static void nodes() {
        Check.sentence("Terms", "node 0 is the record itself", () -> {
            SchemaRecords x = Check.with("optional int a;");
            Check.due("nodes()", x.nodes(), 1);
            Check.recordDue(x, "{}", NONE);
            Check.due("nodes()", x.nodes(), 1);
            Check.due("its field", x.node(0, 0), NONE);
            Check.due("its parent", x.node(0, 1), NONE);
        });
        Check.sentence("Terms", "behind its PARENT (that of the group it is in, or 0), in the record's order", () -> {
            SchemaRecords x = Check.with("optional int a;repeated group g{repeated int b;optional group h{optional int c;}}optional int d;");
            Check.recordDue(x, "{a:7,g:[{b:[1,2],h:{c:3}},{b:[4]}],d:5}", NONE);
            int[] fields = {NONE, 0, 1, 2, 2, 3, 4, 1, 2, 5};
            int[] parents = {NONE, 0, 0, 2, 2, 2, 5, 0, 7, 0};
            long[] values = {0, 7, 0, 1, 2, 0, 3, 0, 4, 5};
            for (int i = 0; i < fields.length; i++) {
                Check.due("field of " + i, x.node(i, 0), fields[i]);
                Check.due("parent of " + i, x.node(i, 1), parents[i]);
                Check.due("value of " + i, x.value(i), values[i]);
            }
        });
    }

    private static void room() {
        Check.sentence("Terms", "There are at most 2000", () -> {
            SchemaRecords x = Check.with("repeated int a;repeated group g{optional int b;}repeated text t;");
            Check.recordDue(x, "{a:[" + "1,".repeat(1996) + "1]}", NONE);
            Check.due("nodes()", x.nodes(), 1998);
            Check.due("the 1999th", x.add(0, 1, 0), 1998);
            Check.due("the 2000th", x.add(1998, 2, 5), 1999);
            Check.due("one more group", x.add(0, 1, 0), NONE);
            Check.due("one more text", x.addText(0, 3, 0), NONE);
            Check.due("nodes()", x.nodes(), 2000);
            Check.due("value of the last", x.value(1999), 5);
            Check.due("nodes in 0", x.node(0, 2), 1998);
            x.begin();
            Check.due("room again", x.add(0, 0, 0), 1);
        });
        Check.sentence("Terms", "and 16000 bytes of texts", () -> {
            // More calls than an object is used for: fewer can't bring so many bytes.
            SchemaRecords x = Check.with("repeated text t;optional int a;");
            for (int k = 0; k < 62; k++) {
                Check.addText(x, 0, 0, "w".repeat(255));
            }
            Check.due("bytes 15811 to 16001", Check.addText(x, 0, 0, "w".repeat(191)), NONE);
            Check.due("nodes()", x.nodes(), 63);
            Check.due("bytes 15811 to 16000", Check.addText(x, 0, 0, "w".repeat(190)), 63);
            Check.due("byte 16001", Check.addText(x, 0, 0, "w"), NONE);
            Check.due("no byte", Check.addText(x, 0, 0, ""), 64);
            Check.due("an int", x.add(0, 1, 0), 65);
            Check.recordDue(x, "{t:['w']}", NONE);
            Check.due("room behind record", Check.addText(x, 0, 0, "w".repeat(255)), 2);
            // The row that was full comes back, and is empty then.
            Check.recordDue(x, "{t:['v']}", NONE);
            Check.due("room behind record", Check.addText(x, 0, 0, "w".repeat(255)), 2);
        });
        Check.sentence("Terms", "and 16000 bytes of texts (of the present record alone)", () -> {
            SchemaRecords x = Check.with("repeated text t;");
            for (int k = 0; k < 80; k++) {
                Check.addText(x, 0, 0, "w".repeat(200));
            }
            Check.due("byte 16001", Check.addText(x, 0, 0, "w"), NONE);
            x.begin();
            Check.due("room behind begin()", Check.addText(x, 0, 0, "w"), 1);
            for (int k = 1; k < 80; k++) {
                Check.addText(x, 0, 0, "w".repeat(200));
            }
            Check.due("the last 199", Check.addText(x, 0, 0, "w".repeat(199)), 81);
            Check.due("schema", Check.schema(x, "repeated text u;"), NONE);
            Check.due("room behind schema", Check.addText(x, 0, 0, "w"), 1);
        });
    }

    private static void madeByHand() {
        Check.sentence("Terms", "a value of a field whose group is its parent's", () -> {
            SchemaRecords x = Check.with("optional group g{optional group h{optional int a;}optional int b;}optional group i{optional int c;}");
            Check.due("h in 0", x.add(0, 1, 0), NONE);
            Check.due("a in 0", x.add(0, 2, 0), NONE);
            Check.due("g", x.add(0, 0, 0), 1);
            Check.due("a in g", x.add(1, 2, 0), NONE);
            Check.due("c in g", x.add(1, 5, 0), NONE);
            Check.due("h in g", x.add(1, 1, 0), 2);
            Check.due("b in h", x.add(2, 3, 0), NONE);
            Check.due("a in h", x.add(2, 2, 0), 3);
            Check.due("a in a", x.add(3, 2, 0), NONE);
            Check.due("b in a", x.add(3, 3, 0), NONE);
            Check.due("b in g", x.add(1, 3, 0), 4);
        });
        Check.sentence("Terms", "(the parent being node 0 for fields of the schema)", () -> {
            SchemaRecords x = Check.with("optional int a;optional group g{optional int b;}optional int c;");
            Check.due("a", x.add(0, 0, 0), 1);
            Check.due("g in a", x.add(1, 1, 0), NONE);
            Check.due("g in NONE", x.add(NONE, 1, 0), NONE);
            Check.due("g", x.add(0, 1, 0), 2);
            Check.due("c in g", x.add(2, 3, 0), NONE);
            Check.due("c", x.add(0, 3, 0), 3);
        });
        Check.sentence("Terms", "and the parent has none of a later field", () -> {
            SchemaRecords x = Check.with("repeated int a;repeated group g{repeated int b;repeated int c;}repeated int d;");
            Check.due("g", x.add(0, 1, 0), 1);
            Check.due("a behind g", x.add(0, 0, 0), NONE);
            Check.due("c", x.add(1, 3, 0), 2);
            Check.due("b behind c", x.add(1, 2, 0), NONE);
            Check.due("g", x.add(0, 1, 0), 3);
            Check.due("b, where there is no c yet", x.add(3, 2, 0), 4);
            Check.due("d", x.add(0, 4, 0), 5);
            Check.due("g behind d", x.add(0, 1, 0), NONE);
        });
        Check.sentence("Terms", "nor one of the same field that isn't repeated", () -> {
            SchemaRecords x = Check.with("required int a;optional int b;repeated int c;optional group d{optional int e;}");
            for (int field = 0; field < 2; field++) {
                Check.due("the first of " + field, x.add(0, field, 0), field + 1);
                Check.due("the second of " + field, x.add(0, field, 0), NONE);
            }
            Check.due("the first c", x.add(0, 2, 0), 3);
            Check.due("the second c", x.add(0, 2, 0), 4);
            Check.due("the first d", x.add(0, 3, 0), 5);
            Check.due("the second d", x.add(0, 3, 0), NONE);
            Check.due("e", x.add(5, 4, 0), 6);
            Check.due("the second d behind e", x.add(0, 3, 0), NONE);
        });
    }

    private static void parents() {
        String schema = "repeated group g{repeated group h{repeated int a;}}repeated int b;";
        Check.sentence("Terms", "if the parent is the latest node", () -> {
            SchemaRecords x = Check.with(schema);
            Check.due("g", x.add(0, 0, 0), 1);
            Check.due("h in the latest", x.add(1, 1, 0), 2);
            Check.due("a in the latest", x.add(2, 2, 0), 3);
        });
        Check.sentence("Terms", "or the latest one's parent, or that one's, and so on", () -> {
            SchemaRecords x = Check.with(schema);
            x.add(0, 0, 0);
            x.add(1, 1, 0);
            x.add(2, 2, 0);
            Check.due("a in the latest one's parent", x.add(2, 2, 0), 4);
            Check.due("h in that one's", x.add(1, 1, 0), 5);
            Check.due("a in the first h", x.add(2, 2, 0), NONE);
            Check.due("a in the second h", x.add(5, 2, 0), 6);
            Check.due("g in 0", x.add(0, 0, 0), 7);
            Check.due("h in the first g", x.add(1, 1, 0), NONE);
            Check.due("a in the second h", x.add(5, 2, 0), NONE);
            Check.due("b in 0", x.add(0, 3, 0), 8);
            Check.due("h in the second g", x.add(7, 1, 0), NONE);
            Check.due("b in 0", x.add(0, 3, 0), 9);
        });
        Check.sentence("Terms", "and so on (seventeen nodes up)", () -> {
            SchemaRecords x = Check.with("optional group g{".repeat(16) + "repeated int a;" + "}".repeat(16) + "optional int b;");
            for (int k = 0; k < 16; k++) {
                Check.due("g", x.add(k, k, 0), k + 1);
            }
            Check.due("a", x.add(16, 16, 0), 17);
            Check.due("a", x.add(16, 16, 0), 18);
            Check.due("b in 0", x.add(0, 17, 0), 19);
            Check.due("a", x.add(16, 16, 0), NONE);
        });
    }

    private static void whole() {
        Check.sentence("Terms", "A record is WHOLE if no node lacks a required field", () -> {
            SchemaRecords x = Check.with("required int a;repeated group g{optional int b;required group h{required int c;}}optional int d;");
            Check.due("node 0 lacks a", x.isWhole(), false);
            x.add(0, 0, 0);
            Check.due("nothing lacks", x.isWhole(), true);
            x.add(0, 1, 0);
            Check.due("g lacks h", x.isWhole(), false);
            x.add(2, 2, 0);
            Check.due("b is not what lacks", x.isWhole(), false);
            x.add(2, 3, 0);
            Check.due("h lacks c", x.isWhole(), false);
            x.add(4, 4, 0);
            Check.due("nothing lacks", x.isWhole(), true);
            x.add(0, 1, 0);
            Check.due("the second g lacks h", x.isWhole(), false);
            x.add(0, 5, 0);
            Check.due("and for good", x.isWhole(), false);
        });
    }

    private static void writtenDue(SchemaRecords x, String text, String want) {
        Check.recordDue(x, text, NONE);
        Check.due("written", Check.written(x), want);
    }

    private static void written() {
        Check.sentence("Terms", "WRITTEN: without blanks", () -> {
            SchemaRecords x = Check.with("repeated int a;optional group g{optional text b;optional bool c;}");
            writtenDue(x, " { a : [ 1 , -2 ] , g : { b : ' x ' , c : true } } \n", "{a:[1,-2],g:{b:' x ',c:true}}");
        });
        Check.sentence("Terms", "fields that lack aren't written", () -> {
            SchemaRecords x = Check.with("optional int a;optional group g{optional int b;optional int c;}optional int d;");
            writtenDue(x, "{}", "{}");
            writtenDue(x, "{g:{}}", "{g:{}}");
            writtenDue(x, "{a:1,d:2}", "{a:1,d:2}");
            writtenDue(x, "{g:{c:1}}", "{g:{c:1}}");
        });
        Check.sentence("Terms", "or repeated ones without values, aren't written", () -> {
            SchemaRecords x = Check.with("repeated int a;repeated group g{repeated int b;}optional int c;repeated int d;");
            writtenDue(x, "{a:[],g:[],d:[]}", "{}");
            writtenDue(x, "{a:[],g:[],c:1,d:[]}", "{c:1}");
            writtenDue(x, "{a:[1],g:[{b:[]},{b:[2]}],d:[]}", "{a:[1],g:[{},{b:[2]}]}");
        });
        Check.sentence("Terms", "written (true and false)", () -> {
            SchemaRecords x = Check.with("repeated bool a;");
            writtenDue(x, "{a:[true,false,false,true]}", "{a:[true,false,false,true]}");
            x.begin();
            x.add(0, 0, -7);
            x.add(0, 0, 0);
            Check.due("written", Check.written(x), "{a:[true,false]}");
        });
        Check.sentence("Terms", "written (numbers from the lowest to the highest)", () -> {
            SchemaRecords x = Check.with("repeated long a;");
            String numbers = "0,1,-1,9,10,-10,99,100,2147483648,999999999999999999,1000000000000000000,-1000000000000000000,"
                + "9223372036854775807,-9223372036854775808";
            writtenDue(x, "{a:[" + numbers + "]}", "{a:[" + numbers + "]}");
        });
    }

    private static void writtenTexts() {
        Check.sentence("Terms", "in texts \\ stands only before ' and itself", () -> {
            SchemaRecords x = Check.with("optional text a;");
            writtenDue(x, "{a:'\\x27\\x5c\\'\\\\'}", "{a:'\\'\\\\\\'\\\\'}");
            for (int c = 32; c <= 126; c++) {
                String want = c == '\'' || c == '\\' ? "\\" + (char) c : "" + (char) c;
                writtenDue(Check.with("optional text a;"), String.format("{a:'\\x%02x'}", c), "{a:'" + want + "'}");
            }
        });
        Check.sentence("Terms", "and before x for bytes below 32 or above 126, with digits a .. f", () -> {
            for (int c = 0; c < 256; c++) {
                if (c < 32 || c > 126) {
                    SchemaRecords x = Check.with("optional text a;");
                    Check.due("addText", Check.addText(x, 0, 0, "" + (char) c), 1);
                    Check.due("written", Check.written(x), String.format("{a:'\\x%02x'}", c));
                }
            }
        });
    }
}
