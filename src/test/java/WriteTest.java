/** Promises 17 (isWhole), 18 (write) and 19 (output). */
public final class WriteTest {
    private static final int NONE = SchemaRecords.NONE;

    public static void main(String[] args) {
        whole();
        oneForm();
        numbers();
        everyByte();
        outputStays();
        longOutput();
        widestOutput();
        Check.end();
    }

    private static void whole() {
        SchemaRecords x = Check.with("optional int a;");
        Check.due("isWhole() of nothing required", x.isWhole(), true);
        Check.due("written", Check.written(x), "{}");

        SchemaRecords y = Check.with("required int a; repeated group g{required int b; optional int c; required group d{optional int e;}} required int f;");
        Check.due("isWhole()", y.isWhole(), false);
        y.add(0, 0, 1);
        Check.due("isWhole() without f", y.isWhole(), false);
        Check.due("add f", y.add(0, 6, 1), 2);
        Check.due("isWhole()", y.isWhole(), true);
        y.begin();
        y.add(0, 0, 1);
        int g = y.add(0, 1, 0);
        y.add(g, 2, 1);
        int d = y.add(g, 4, 0);
        Check.due("isWhole() without f", y.isWhole(), false);
        int second = y.add(0, 1, 0);
        y.add(0, 6, 1);
        Check.due("isWhole(), the second g lacks all", y.isWhole(), false);
        Check.due("write()", y.write(), NONE);
        Check.due("children of g", y.node(second, 2), 0);
        Check.due("parent of d", y.node(d, 1), g);
        Check.recordDue(y, "{a:1,g:[{b:2,d:{}}],f:3}", NONE);
        Check.due("isWhole()", y.isWhole(), true);
        y.begin();
        Check.due("isWhole()", y.isWhole(), false);
    }

    private static void oneForm() {
        SchemaRecords x = Check.with("repeated bool a; optional group b{repeated int c; optional text d;} repeated group e{repeated group f{optional long g;}} "
            + "optional bool h;");
        form(x, "{ }", "{}");
        form(x, "{a:[]}", "{}");
        form(x, "{a:[],b:{c:[],d:''},e:[]}", "{b:{d:''}}");
        form(x, " { a : [ true , false ] , b : { c : [ 1 , -2 ] , d : 'q  r' } , e : [ ] , h : false } ",
            "{a:[true,false],b:{c:[1,-2],d:'q  r'},h:false}");
        form(x, "{b:{}}", "{b:{}}");
        form(x, "{e:[{}]}", "{e:[{}]}");
        form(x, "{e:[{f:[]},{f:[{},{g:1}]},{f:[{g:2}]}],h:true}", "{e:[{},{f:[{},{g:1}]},{f:[{g:2}]}],h:true}");
        form(x, "{a:[true],e:[{f:[{g:9}]}]}", "{a:[true],e:[{f:[{g:9}]}]}");
        form(x, "{b:{d:'\\x41\\x7f\\x1f\\xff\\x27\\x5c\\'\\\\'}}", "{b:{d:'A\\x7f\\x1f\\xff\\'\\\\\\'\\\\'}}");
    }

    private static void form(SchemaRecords x, String text, String want) {
        Check.recordDue(x, text, NONE);
        Check.due("isWhole()", x.isWhole(), true);
        Check.due("write() of " + text, Check.written(x), want);
        Check.recordDue(x, want, NONE);
        Check.due("write() of " + want, Check.written(x), want);
    }

    private static void numbers() {
        long ten = 1;
        for (int k = 0; k < 19; k++) {
            number(ten);
            number(-ten);
            number(ten - 1);
            number(1 - ten);
            ten *= 10;
        }
        number(Long.MAX_VALUE);
        number(Long.MIN_VALUE);
        number(1234567890123456789L);
        number(-1020304050607080900L);
    }

    private static void number(long v) {
        SchemaRecords x = Check.with("optional long a;");
        x.add(0, 0, v);
        Check.due("write() of " + v, Check.written(x), "{a:" + v + "}");
    }

    private static void everyByte() {
        for (int c = 0; c < 256; c++) {
            SchemaRecords x = Check.with("optional text a;");
            Check.due("addText " + c, Check.addText(x, 0, 0, String.valueOf((char) c)), 1);
            String want = c < 32 || c > 126 ? String.format("\\x%02x", c)
                : c == '\'' || c == '\\' ? "\\" + (char) c : String.valueOf((char) c);
            Check.due("write() of byte " + c, Check.written(x), "{a:'" + want + "'}");
            Check.recordDue(x, "{a:'" + want + "'}", NONE);
            Check.due("textByte of byte " + c, x.textByte(1, 0), c);
        }
    }

    private static void outputStays() {
        SchemaRecords x = Check.with("required int a;");
        Check.recordDue(x, "{a:12}", NONE);
        Check.due("output(0) before write()", x.output(0), NONE);
        Check.due("write()", x.write(), 6);
        Check.due("output(-1)", x.output(-1), NONE);
        Check.due("output(5)", x.output(5), '}');
        Check.due("output(6)", x.output(6), NONE);
        Check.due("output(min)", x.output(Integer.MIN_VALUE), NONE);
        Check.due("output(max)", x.output(Integer.MAX_VALUE), NONE);
        Check.recordDue(x, "{a:3}", NONE);
        Check.due("the output stays", Check.output(x, 6), "{a:12}");
        Check.due("write()", x.write(), 5);
        Check.due("output(5)", x.output(5), NONE);
        x.begin();
        Check.due("the output stays", Check.output(x, 5), "{a:3}");
        Check.due("write()", x.write(), NONE);
        Check.due("output(0)", x.output(0), NONE);
    }

    /** Long enough to make the output's row grow more than once. */
    private static void longOutput() {
        SchemaRecords x = Check.with("repeated text abcdefghijklmnop;");
        StringBuilder want = new StringBuilder("{abcdefghijklmnop:[");
        for (int k = 0; k < 20; k++) {
            Check.addText(x, 0, 0, "\u0080".repeat(255));
            want.append(k == 0 ? "'" : ",'").append("\\x80".repeat(255)).append("'");
        }
        want.append("]}");
        Check.longWritten(x, want.toString());
        Check.longWritten(x, want.toString());
    }

    /** The widest record: nothing of it is left out. More calls than are promised, as fewer can't make it. */
    private static void widestOutput() {
        StringBuilder schema = new StringBuilder("repeated text text_of_16_bytes;repeated group g{");
        for (int k = 10; k < 70; k++) {
            schema.append("repeated long name_16_bytes_").append(k).append(';');
        }
        SchemaRecords x = Check.with(schema.append('}').toString());
        StringBuilder want = new StringBuilder("{text_of_16_bytes:[");
        for (int k = 0; k < 63; k++) {
            int size = k < 62 ? 255 : 190;
            Check.due("a text", Check.addText(x, 0, 0, "\u0000".repeat(size)), k + 1);
            want.append(k == 0 ? "'" : ",'").append("\\x00".repeat(size)).append("'");
        }
        want.append("],g:[{");
        int group = x.add(0, 1, 0);
        int inGroup = 0;
        for (int k = x.nodes(); k < 2000; k++) {
            if (inGroup == 60) {
                inGroup = 0;
                group = x.add(0, 1, 0);
                want.append("},{");
                continue;
            }
            Check.due("a number", x.add(group, 2 + inGroup, Long.MIN_VALUE), k);
            want.append(inGroup == 0 ? "" : ",").append("name_16_bytes_").append(10 + inGroup).append(":[-9223372036854775808]");
            inGroup++;
        }
        Check.due("no room for one more", x.add(0, 1, 0), NONE);
        Check.longWritten(x, want.append("}]}").toString());
        Check.due("its size", want.length() > 140000, true);
    }
}
