/** Promises 9 (record), 13 (nodes), 14 (node), 15 (value) and 16 (textByte). */
public final class RecordTest {
    private static final int NONE = SchemaRecords.NONE;

    public static void main(String[] args) {
        nodes();
        members();
        lists();
        bools();
        ints();
        longs();
        texts();
        longTexts();
        whatStays();
        onlyTheFirstBytes();
        full();
        deep();
        Check.end();
    }

    private static void nodes() {
        SchemaRecords x = Check.with("optional int a; repeated group b{repeated text c; optional group d{required bool e;}} "
            + "optional long f;");
        Check.recordDue(x, " {\na : -12 , b : [ { c : [ 'x' , 'yz' ] , d : { e : true } } , { } , { c : [ ] } ] , f : 7 } \n", NONE);
        int[][] due = {
            {NONE, NONE, 5, 0},
            {0, 0, 0, 0},
            {1, 0, 3, 0},
            {2, 2, 0, 1},
            {2, 2, 0, 2},
            {3, 2, 1, 0},
            {4, 5, 0, 0},
            {1, 0, 0, 0},
            {1, 0, 0, 0},
            {5, 0, 0, 0},
        };
        long[] values = {0, -12, 0, 0, 0, 0, 1, 0, 0, 7};
        Check.due("nodes()", x.nodes(), due.length);
        for (int i = 0; i < due.length; i++) {
            for (int what = 0; what < 4; what++) {
                Check.due("node(" + i + ", " + what + ")", x.node(i, what), due[i][what]);
            }
            Check.due("node(" + i + ", 4)", x.node(i, 4), NONE);
            Check.due("node(" + i + ", -1)", x.node(i, -1), NONE);
            Check.due("value(" + i + ")", x.value(i), values[i]);
        }
        int[] bad = {-1, 10, 1999, 2000, Integer.MIN_VALUE, Integer.MAX_VALUE};
        for (int i : bad) {
            Check.due("node(" + i + ", 2)", x.node(i, 2), NONE);
            Check.due("value(" + i + ")", x.value(i), 0);
            Check.due("textByte(" + i + ", 0)", x.textByte(i, 0), NONE);
        }
        Check.due("textByte(3, 0)", x.textByte(3, 0), 'x');
        Check.due("textByte(3, 1)", x.textByte(3, 1), NONE);
        Check.due("textByte(4, 1)", x.textByte(4, 1), 'z');
        Check.due("textByte(4, -1)", x.textByte(4, -1), NONE);
        Check.due("textByte(4, max)", x.textByte(4, Integer.MAX_VALUE), NONE);
        Check.due("textByte(1, 0)", x.textByte(1, 0), NONE);
    }

    private static void members() {
        SchemaRecords x = Check.with("required int a; optional int b; required int c; optional int d;");
        Check.recordDue(x, "{a:1,b:2,c:3,d:4}", NONE);
        Check.recordDue(x, "{a:1,c:3}", NONE);
        Check.recordDue(x, "{a:1,c:3,d:4}", NONE);
        Check.recordDue(x, "", 0);
        Check.recordDue(x, "  ", 2);
        Check.recordDue(x, "a", 0);
        Check.recordDue(x, "[", 0);
        Check.recordDue(x, "{", 1);
        Check.recordDue(x, "{}", 1);
        Check.recordDue(x, "{ }", 2);
        Check.recordDue(x, "{,", 1);
        Check.recordDue(x, "{a", 2);
        Check.recordDue(x, "{a 1", 3);
        Check.recordDue(x, "{a:", 3);
        Check.recordDue(x, "{a:1", 4);
        Check.recordDue(x, "{a:1 ", 5);
        Check.recordDue(x, "{a:1}", 4);
        Check.recordDue(x, "{a:1 }", 5);
        Check.recordDue(x, "{a:1,", 5);
        Check.recordDue(x, "{a:1,}", 5);
        Check.recordDue(x, "{a:1,,", 5);
        Check.recordDue(x, "{a:1;", 4);
        Check.recordDue(x, "{a:1 b", 5);
        Check.recordDue(x, "{a:1b", 4);
        Check.recordDue(x, "{b:2,a:1,c:3}", 1);
        Check.recordDue(x, "{a:1,a:1", 5);
        Check.recordDue(x, "{a:1,d:4", 5);
        Check.recordDue(x, "{a:1,b:2,d:4", 9);
        Check.recordDue(x, "{a:1,b:2}", 8);
        Check.recordDue(x, "{a:1,b:2]", 8);
        Check.recordDue(x, "{a:1,c:3,b:2", 9);
        Check.recordDue(x, "{a:1,x:3", 5);
        Check.recordDue(x, "{a:1,cc:3", 5);
        Check.recordDue(x, "{ab:1", 1);
        Check.recordDue(x, "{A:1", 1);
        Check.recordDue(x, "{'a':1", 1);
        Check.recordDue(x, "{a:1,c:3,d:4} x", 14);
        Check.recordDue(x, "{a:1,c:3}}", 9);
        Check.recordDue(x, "{a:1,c:3}\n ", NONE);
        Check.recordDue(x, "{a:1,c:3}\t", 9);
        Check.recordDue(x, "{a::1", 3);
        Check.recordDue(x, "{a:[1]", 3);
        Check.recordDue(x, "{a:{}", 3);
        // Behind the last field a comma is read as a sign between; what comes then can't stand.
        Check.recordDue(x, "{a:1,c:3,d:4,}", 13);
        Check.recordDue(x, "{a:1,c:3,d:4,e:5}", 13);
        Check.recordDue(x, "{a:1,c:3,d:4,", 13);
    }

    private static void lists() {
        SchemaRecords x = Check.with("repeated int a; repeated group g{required int b; optional int c;}");
        Check.recordDue(x, "{}", NONE);
        Check.recordDue(x, "{a:[]}", NONE);
        Check.due("nodes()", x.nodes(), 1);
        Check.recordDue(x, "{a:[ ],g:[\n]}", NONE);
        Check.recordDue(x, "{a:[1],g:[{b:1},{b:2,c:3}]}", NONE);
        Check.due("nodes()", x.nodes(), 7);
        Check.recordDue(x, "{a:1}", 3);
        Check.recordDue(x, "{a:", 3);
        Check.recordDue(x, "{a:}", 3);
        Check.recordDue(x, "{a:,g:[]}", 3);
        Check.recordDue(x, "{a:]}", 3);
        Check.recordDue(x, "{a:[", 4);
        Check.recordDue(x, "{a:[,", 4);
        Check.recordDue(x, "{a:[}", 4);
        Check.recordDue(x, "{a:[1", 5);
        Check.recordDue(x, "{a:[1,", 6);
        Check.recordDue(x, "{a:[1,]", 6);
        Check.recordDue(x, "{a:[1 2", 6);
        Check.recordDue(x, "{a:[1}", 5);
        Check.recordDue(x, "{a:[1],a:[2]}", 7);
        Check.recordDue(x, "{a:[[1]]}", 4);
        Check.recordDue(x, "{g:{b:1}}", 3);
        Check.recordDue(x, "{g:[{}]}", 5);
        Check.recordDue(x, "{g:[{c:1}]}", 5);
        Check.recordDue(x, "{g:[{b:1}{b:1}]}", 9);
        Check.recordDue(x, "{g:[{b:1},]}", 10);
        Check.recordDue(x, "{g:[{b:1", 8);
        Check.recordDue(x, "{g:[{b:1}", 9);
        Check.recordDue(x, "{g:[{b:1}]", 10);
        Check.recordDue(x, "{g:[],a:[]}", 6);
        Check.recordDue(x, "{g:[1]}", 4);
    }

    private static void bools() {
        SchemaRecords x = Check.with("repeated bool a; optional bool b;");
        Check.recordDue(x, "{a:[true,false,true],b:false}", NONE);
        Check.due("value(1)", x.value(1), 1);
        Check.due("value(2)", x.value(2), 0);
        Check.due("value(3)", x.value(3), 1);
        Check.due("value(4)", x.value(4), 0);
        Check.recordDue(x, "{b:tru", 3);
        Check.recordDue(x, "{b:true", 7);
        Check.recordDue(x, "{b:truex}", 3);
        Check.recordDue(x, "{b:True}", 3);
        Check.recordDue(x, "{b:1}", 3);
        Check.recordDue(x, "{b:-", 3);
        Check.recordDue(x, "{b:'true'}", 3);
        Check.recordDue(x, "{b:}", 3);
        Check.recordDue(x, "{b: ", 4);
    }

    private static void ints() {
        SchemaRecords x = Check.with("optional int a;");
        stands(x, "0", 0);
        stands(x, "7", 7);
        stands(x, "-1", -1);
        stands(x, "10", 10);
        stands(x, "2147483647", 2147483647L);
        stands(x, "-2147483648", -2147483648L);
        Check.recordDue(x, "{a: 2147483648}", 4);
        Check.recordDue(x, "{a: -2147483649}", 4);
        Check.recordDue(x, "{a:4294967296}", 3);
        Check.recordDue(x, "{a:99999999999999999999999999}", 3);
        Check.recordDue(x, "{a:21474836470", 3);
        Check.recordDue(x, "{a:18446744073709551617}", 3);
        numbersThatCantStand(x);
    }

    private static void longs() {
        SchemaRecords x = Check.with("optional long a;");
        stands(x, "0", 0);
        stands(x, "2147483648", 2147483648L);
        stands(x, "9223372036854775807", Long.MAX_VALUE);
        stands(x, "-9223372036854775807", -Long.MAX_VALUE);
        stands(x, "-9223372036854775808", Long.MIN_VALUE);
        Check.recordDue(x, "{a: 9223372036854775808}", 4);
        Check.recordDue(x, "{a: -9223372036854775809}", 4);
        Check.recordDue(x, "{a:18446744073709551616}", 3);
        Check.recordDue(x, "{a:92233720368547758070}", 3);
        Check.recordDue(x, "{a:-92233720368547758080}", 3);
        Check.recordDue(x, "{a:10000000000000000000}", 3);
        numbersThatCantStand(x);
    }

    private static void stands(SchemaRecords x, String number, long want) {
        Check.recordDue(x, "{a:" + number + "}", NONE);
        Check.due("value of " + number, x.value(1), want);
    }

    private static void numbersThatCantStand(SchemaRecords x) {
        Check.recordDue(x, "{a:05}", 3);
        Check.recordDue(x, "{a:00}", 3);
        Check.recordDue(x, "{a: -0}", 4);
        Check.recordDue(x, "{a:-05}", 3);
        Check.recordDue(x, "{a:-0", 3);
        Check.recordDue(x, "{a:0", 4);
        Check.recordDue(x, "{a:05", 3);
        Check.recordDue(x, "{a:-", 4);
        Check.recordDue(x, "{a: -", 5);
        Check.recordDue(x, "{a:- ", 3);
        Check.recordDue(x, "{a:- 5}", 3);
        Check.recordDue(x, "{a:--5}", 3);
        Check.recordDue(x, "{a:-x}", 3);
        Check.recordDue(x, "{a:-}", 3);
        Check.recordDue(x, "{a:+5}", 3);
        Check.recordDue(x, "{a:5.0}", 4);
        Check.recordDue(x, "{a:5 5}", 5);
        Check.recordDue(x, "{a:0x5}", 4);
        Check.recordDue(x, "{a:12", 5);
        Check.recordDue(x, "{a:x}", 3);
        Check.recordDue(x, "{a:}", 3);
        Check.recordDue(x, "{a:true}", 3);
        Check.recordDue(x, "{a:'5'}", 3);
    }

    private static void texts() {
        SchemaRecords x = Check.with("optional text a;");
        text(x, "''", "");
        text(x, "' '", " ");
        text(x, "'  a b  '", "  a b  ");
        text(x, "'~ !\"#{}[],:;'", "~ !\"#{}[],:;");
        text(x, "'\\''", "'");
        text(x, "'\\\\'", "\\");
        text(x, "'\\\\\\''", "\\'");
        text(x, "'\\x00\\xff\\x0a\\x41\\x9f\\xa0'", "\u0000\u00ff\nA\u009f\u00a0");
        text(x, "'\\x5cx41'", "\\x41");
        Check.recordDue(x, "{a:'\\x5c'}", NONE);
        Check.due("value of a text", x.value(1), 0);
        Check.recordDue(x, "{a:x}", 3);
        Check.recordDue(x, "{a:\"x\"}", 3);
        Check.recordDue(x, "{a:5}", 3);
        Check.recordDue(x, "{a:}", 3);
        Check.recordDue(x, "{a:,", 3);
        Check.recordDue(x, "{a:'", 4);
        Check.recordDue(x, "{a:'x", 5);
        Check.recordDue(x, "{a:'x ", 6);
        Check.recordDue(x, "{a:'x'", 6);
        Check.recordDue(x, "{a:'x''", 6);
        Check.recordDue(x, "{a:'x\n'}", 5);
        Check.recordDue(x, "{a:'x\t'}", 5);
        Check.recordDue(x, "{a:'\u001f'}", 4);
        Check.recordDue(x, "{a:'\u007f'}", 4);
        Check.recordDue(x, "{a:'y\u00ff'}", 5);
        Check.recordDue(x, "{a:'y\\", 6);
        Check.recordDue(x, "{a:'y\\'", 7);
        Check.recordDue(x, "{a:'y\\'}", 8);
        Check.recordDue(x, "{a:'y\\x", 7);
        Check.recordDue(x, "{a:'y\\x4", 8);
        Check.recordDue(x, "{a:'y\\x41", 9);
        Check.recordDue(x, "{a:'y\\n'}", 5);
        Check.recordDue(x, "{a:'y\\X41'}", 5);
        Check.recordDue(x, "{a:'y\\xg", 5);
        Check.recordDue(x, "{a:'y\\x4g", 5);
        Check.recordDue(x, "{a:'y\\x4F'}", 5);
        Check.recordDue(x, "{a:'y\\xA0'}", 5);
        Check.recordDue(x, "{a:'y\\x'}", 5);
        Check.recordDue(x, "{a:'y\\x4'}", 5);
        Check.recordDue(x, "{a:'y\\ '}", 5);
        Check.recordDue(x, "{a:'y\\\n'}", 5);
        Check.recordDue(x, "{a:'\\x/0'}", 4);
        Check.recordDue(x, "{a:'\\x0:'}", 4);
        Check.recordDue(x, "{a:'\\x`0'}", 4);
    }

    private static void text(SchemaRecords x, String text, String want) {
        Check.recordDue(x, "{a:" + text + "}", NONE);
        Check.due("size of " + text, x.node(1, 3), want.length());
        Check.due("text of " + text, Check.textOf(x, 1), want);
    }

    private static void longTexts() {
        SchemaRecords x = Check.with("optional text a;");
        String most = "z".repeat(255);
        text(Check.with("optional text a;"), "'" + most + "'", most);
        Check.recordDue(x, "{a:'" + most + "z'}", 4 + 255);
        Check.recordDue(x, "{a:'" + most, 4 + 255);
        Check.recordDue(x, "{a:'" + most + "z", 4 + 255);
        Check.recordDue(x, "{a:'" + most + "\\''}", 4 + 255);
        Check.recordDue(x, "{a:'" + most + "\u0001'}", 4 + 255);
        Check.recordDue(x, "{a:'" + most + "}", 4 + 255);
        Check.recordDue(x, "{a:'" + most + " '}", 4 + 255);
        SchemaRecords y = Check.with("optional text a;");
        text(y, "'" + "\\x27".repeat(255) + "'", "'".repeat(255));
        Check.recordDue(y, "{a:'" + "\\x27".repeat(255) + "\\x27'}", 4 + 4 * 255);
        Check.recordDue(y, "{a:'" + "\\\\".repeat(255) + "\\\\'}", 4 + 2 * 255);
    }

    private static void whatStays() {
        SchemaRecords x = Check.with("repeated text a; optional int b;");
        Check.recordDue(x, "{a:['one','two'],b:3}", NONE);
        Check.recordDue(x, "{a:['three','four','five'],b:4", 30);
        Check.recordDue(x, "{}}", 2);
        Check.due("record(9)", x.record(9), -2);
        Check.due("nodes()", x.nodes(), 4);
        Check.due("text", Check.textOf(x, 1), "one");
        Check.due("text", Check.textOf(x, 2), "two");
        Check.due("value(3)", x.value(3), 3);
        Check.due("node(0, 2)", x.node(0, 2), 3);
        Check.recordDue(x, "{b:9}", NONE);
        Check.due("nodes()", x.nodes(), 2);
        Check.due("node(0, 2)", x.node(0, 2), 1);
        Check.due("node(2, 0)", x.node(2, 0), NONE);
        Check.due("value(1)", x.value(1), 9);
        Check.feed(x, "{b:8}zzz");
        Check.due("record(5) of more bytes", x.record(5), NONE);
        Check.due("value(1)", x.value(1), 8);
    }

    /** What is on the tape behind the text's bytes, or was there before, counts for nothing. */
    private static void onlyTheFirstBytes() {
        SchemaRecords x = Check.with("optional int a; optional bool ab; optional text c;");
        firstBytes(x, "{a:12}", 4, 4);
        firstBytes(x, "{a:-5}", 4, 4);
        firstBytes(x, "{a:05}", 4, 4);
        firstBytes(x, "{a:2147483648}", 12, 12);
        firstBytes(x, "{ab:true}", 2, 2);
        firstBytes(x, "{ab:true}", 3, 3);
        firstBytes(x, "{ab:true}", 7, 4);
        firstBytes(x, "{ab:truex}", 8, 8);
        firstBytes(x, "{c:'\\x41'}", 5, 5);
        firstBytes(x, "{c:'\\x41'}", 6, 6);
        firstBytes(x, "{c:'\\x41'}", 7, 7);
        firstBytes(x, "{c:'\\x41'}", 8, 8);
        firstBytes(x, "{c:'x'}", 6, 6);
        firstBytes(x, "{}}", 2, NONE);
        firstBytes(x, "{}  ", 1, 1);
        SchemaRecords y = new SchemaRecords();
        Check.feed(y, "required int ab;");
        Check.due("schema(14)", y.schema(14), 14);
        Check.feed(y, "required int a;;");
        Check.due("schema(15)", y.schema(15), NONE);
        String[] full = {"{" + " ".repeat(3998) + "a", "{" + " ".repeat(3996) + "a:7", "{a:" + "7".repeat(3997)};
        int[] places = {4000, 4000, 3};
        for (int k = 0; k < full.length; k++) {
            Check.recordDue(Check.with("required int a;"), full[k], places[k]);
        }
    }

    private static void firstBytes(SchemaRecords x, String text, int n, int want) {
        Check.feed(x, text);
        Check.due("record(" + n + ") of " + text, x.record(n), want);
    }

    /** The tape full of one record; then nodes come by hand till there are 2000. */
    private static void full() {
        SchemaRecords x = Check.with("repeated int a;");
        String text = "{a:[" + "1,".repeat(1996) + "1]}";
        Check.recordDue(x, text, NONE);
        Check.due("nodes()", x.nodes(), 1998);
        Check.longWritten(x, text);
        Check.due("add", x.add(0, 0, 5), 1998);
        Check.due("add", x.add(0, 0, 6), 1999);
        Check.due("add over", x.add(0, 0, 7), NONE);
        Check.due("nodes()", x.nodes(), 2000);
        Check.due("node(0, 2)", x.node(0, 2), 1999);
        Check.due("value(1999)", x.value(1999), 6);
        Check.due("node(2000, 0)", x.node(2000, 0), NONE);
        Check.longWritten(x, "{a:[" + "1,".repeat(1997) + "5,6]}");
        x.begin();
        Check.due("add", x.add(0, 0, 7), 1);
    }

    private static void deep() {
        SchemaRecords x = Check.with("optional group g{".repeat(16) + "required int a;" + "}".repeat(16));
        String text = "{g:".repeat(16) + "{a:1}" + "}".repeat(16);
        Check.recordDue(x, text, NONE);
        Check.due("nodes()", x.nodes(), 18);
        Check.due("node(17, 1)", x.node(17, 1), 16);
        Check.due("written", Check.written(x), text);
        Check.recordDue(x, "{g:".repeat(16) + "{g", 3 * 16 + 1);
        Check.recordDue(x, "{g:".repeat(16) + "{}", 3 * 16 + 1);
    }
}
