/** Promises 1 (a new object) and 2 (feed), and when the tape stays or is empty (3, 8, 9, 12). */
public final class TapeTest {
    private static final int NONE = SchemaRecords.NONE;

    public static void main(String[] args) {
        newObject();
        feedOrder();
        feedRoom();
        tapeStaysOrNot();
        Check.end();
    }

    private static void newObject() {
        SchemaRecords x = new SchemaRecords();
        Check.due("NONE", NONE, -1);
        Check.due("count(0)", x.count(0), 0);
        Check.due("count(1)", x.count(1), 0);
        Check.due("field(0, 0)", x.field(0, 0), NONE);
        Check.due("letter(0, 0)", x.letter(0, 0), NONE);
        Check.due("column(0)", x.column(0), NONE);
        Check.due("find(NONE, 0)", x.find(NONE, 0), NONE);
        Check.due("nodes()", x.nodes(), 1);
        Check.due("node(0, 0)", x.node(0, 0), NONE);
        Check.due("node(0, 1)", x.node(0, 1), NONE);
        Check.due("node(0, 2)", x.node(0, 2), 0);
        Check.due("node(0, 3)", x.node(0, 3), 0);
        Check.due("node(1, 0)", x.node(1, 0), NONE);
        Check.due("value(0)", x.value(0), 0);
        Check.due("textByte(0, 0)", x.textByte(0, 0), NONE);
        Check.due("isWhole()", x.isWhole(), false);
        Check.due("output(0)", x.output(0), NONE);
        Check.due("write()", x.write(), NONE);
        Check.due("add(0, 0, 0)", x.add(0, 0, 0), NONE);
        Check.due("addText(0, 0, 0)", x.addText(0, 0, 0), NONE);
        Check.due("addText(0, 0, 1)", x.addText(0, 0, 1), -2);
        Check.due("schema(1)", x.schema(1), -2);
        Check.due("schema(0)", x.schema(0), 0);
    }

    private static void feedOrder() {
        SchemaRecords x = Check.with("repeated text t;");
        Check.due("feed", x.feed(0x01020304, 0x05060708, 0x090a0b0c, 0x0d0e0f10, 0xfffefdfc), true);
        Check.due("addText", x.addText(0, 0, 20), 1);
        for (int k = 0; k < 16; k++) {
            Check.due("textByte(1, " + k + ")", x.textByte(1, k), k + 1);
        }
        for (int k = 16; k < 20; k++) {
            Check.due("textByte(1, " + k + ")", x.textByte(1, k), 255 - (k - 16));
        }
        x.feed(0x61616161, 0, 0, 0, 0);
        x.feed(0x62626262, 0, 0, 0, 0);
        Check.due("addText", x.addText(0, 0, 21), 2);
        Check.due("textByte(2, 20)", x.textByte(2, 20), 0x62);
    }

    private static void feedRoom() {
        SchemaRecords x = new SchemaRecords();
        for (int k = 0; k < 200; k++) {
            Check.due("feed " + k, x.feed(0x20202020, 0x20202020, 0x20202020, 0x20202020, 0x20202020), true);
        }
        Check.due("feed over", x.feed(1, 2, 3, 4, 5), false);
        Check.due("feed over again", x.feed(1, 2, 3, 4, 5), false);
        Check.due("schema(4001)", x.schema(4001), -2);
        Check.due("schema(4000)", x.schema(4000), 4000);
        Check.due("feed again", x.feed(0, 0, 0, 0, 0), true);
        Check.due("schema(21)", x.schema(21), -2);
        Check.due("schema(20)", x.schema(20), 0);
    }

    private static void tapeStaysOrNot() {
        SchemaRecords x = Check.with("optional text a;");
        int[] bad = {-1, 21, Integer.MIN_VALUE, Integer.MAX_VALUE};
        Check.feed(x, "{a:'q'}");
        for (int n : bad) {
            Check.due("schema(" + n + ")", x.schema(n), -2);
            Check.due("find(NONE, " + n + ")", x.find(NONE, n), -2);
            Check.due("find(9, " + n + ")", x.find(9, n), -2);
            Check.due("record(" + n + ")", x.record(n), -2);
            Check.due("addText(0, 0, " + n + ")", x.addText(0, 0, n), -2);
            Check.due("addText(9, 9, " + n + ")", x.addText(9, 9, n), -2);
        }
        Check.due("record, the tape stayed", x.record(7), NONE);
        Check.due("record, the tape is empty", x.record(1), -2);
        Check.feed(x, "{a:'r'}");
        Check.due("schema(0)", x.schema(0), 0);
        Check.due("schema(1)", x.schema(1), -2);
        Check.feed(x, "a");
        Check.due("find of no group", x.find(0, 1), NONE);
        Check.due("find, the tape is empty", x.find(NONE, 1), -2);
        Check.feed(x, "a");
        Check.due("find", x.find(NONE, 1), 0);
        Check.due("find, the tape is empty", x.find(NONE, 1), -2);
        Check.feed(x, "{b");
        Check.due("record that can't stand", x.record(2), 1);
        Check.due("record, the tape is empty", x.record(1), -2);
        Check.feed(x, "ab");
        Check.due("addText that may not", x.addText(0, 0, 1), NONE);
        Check.due("addText, the tape is empty", x.addText(0, 0, 1), -2);
        Check.due("textByte", x.textByte(1, 0), 'q');

        SchemaRecords none = new SchemaRecords();
        Check.feed(none, "{}");
        Check.due("record(21) without a schema", none.record(21), -2);
        Check.due("record(2) without a schema", none.record(2), 0);
        Check.due("record(1) without a schema", none.record(1), -2);
    }
}
