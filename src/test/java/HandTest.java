/** Promises 10 (begin), 11 (add) and 12 (addText). */
public final class HandTest {
    private static final int NONE = SchemaRecords.NONE;
    // 0 a; 1 g: 2 b, 3 h: 4 c, 5 d; 6 i: 7 e; 8 t; 9 l
    private static final String SCHEMA = "optional int a; repeated group g{required bool b; repeated group h{repeated int c; "
        + "optional text d;}} optional group i{required int e;} repeated text t; optional long l;";

    public static void main(String[] args) {
        order();
        openParents();
        groups();
        ranges();
        texts();
        textRoom();
        beginAgain();
        behindARecord();
        Check.end();
    }

    private static void order() {
        SchemaRecords x = Check.with(SCHEMA);
        Check.due("add a", x.add(0, 0, 1), 1);
        Check.due("add a again", x.add(0, 0, 1), NONE);
        Check.due("add g", x.add(0, 1, 1), 2);
        Check.due("add g again", x.add(0, 1, 1), 3);
        Check.due("add a behind g", x.add(0, 0, 1), NONE);
        Check.due("add i", x.add(0, 6, 1), 4);
        Check.due("add i again", x.add(0, 6, 1), NONE);
        Check.due("add g behind i", x.add(0, 1, 1), NONE);
        Check.due("add l", x.add(0, 9, 1), 5);
        Check.due("add l again", x.add(0, 9, 1), NONE);
        Check.due("addText behind l", x.addText(0, 8, 0), NONE);
        Check.due("nodes()", x.nodes(), 6);
        Check.due("node(0, 2)", x.node(0, 2), 5);
        // A required field may be missed out by hand: the record isn't whole then.
        Check.due("isWhole()", x.isWhole(), false);
    }

    private static void openParents() {
        SchemaRecords x = Check.with(SCHEMA);
        Check.due("add g", x.add(0, 1, 0), 1);
        Check.due("add h", x.add(1, 3, 0), 2);
        Check.due("add c", x.add(2, 4, 0), 3);
        Check.due("add c", x.add(2, 4, 0), 4);
        Check.due("add h", x.add(1, 3, 0), 5);
        Check.due("add c to the first h", x.add(2, 4, 0), NONE);
        Check.due("add c to the second h", x.add(5, 4, 0), 6);
        Check.due("add g", x.add(0, 1, 0), 7);
        Check.due("add h to the first g", x.add(1, 3, 0), NONE);
        Check.due("add c to the second h", x.add(5, 4, 0), NONE);
        Check.due("add h to the second g", x.add(7, 3, 0), 8);
        Check.due("add b behind h", x.add(7, 2, 0), NONE);
        Check.due("node(1, 2)", x.node(1, 2), 2);
        Check.due("node(5, 2)", x.node(5, 2), 1);
        Check.due("node(8, 1)", x.node(8, 1), 7);
    }

    private static void groups() {
        SchemaRecords x = Check.with(SCHEMA);
        Check.due("add b to node 0", x.add(0, 2, 0), NONE);
        Check.due("add to no node", x.add(1, 0, 0), NONE);
        Check.due("add to -1", x.add(-1, 0, 0), NONE);
        Check.due("add to min", x.add(Integer.MIN_VALUE, 0, 0), NONE);
        Check.due("add to max", x.add(Integer.MAX_VALUE, 0, 0), NONE);
        Check.due("add no field", x.add(0, 10, 0), NONE);
        Check.due("add field -1", x.add(0, -1, 0), NONE);
        Check.due("add field min", x.add(0, Integer.MIN_VALUE, 0), NONE);
        Check.due("add field max", x.add(0, Integer.MAX_VALUE, 0), NONE);
        Check.due("add a", x.add(0, 0, 0), 1);
        Check.due("add a field to a column's node", x.add(1, 9, 0), NONE);
        Check.due("add g", x.add(0, 1, 9), 2);
        Check.due("value of a group", x.value(2), 0);
        Check.due("add a field of the schema to a group", x.add(2, 9, 0), NONE);
        Check.due("add g within g", x.add(2, 1, 0), NONE);
        Check.due("add e to g", x.add(2, 7, 0), NONE);
        Check.due("add c to g", x.add(2, 4, 0), NONE);
        Check.due("add b", x.add(2, 2, 0), 3);
        Check.due("nodes()", x.nodes(), 4);
        Check.due("node(3, 0)", x.node(3, 0), 2);
        Check.due("node(3, 1)", x.node(3, 1), 2);
    }

    private static void ranges() {
        SchemaRecords x = Check.with("repeated bool a; repeated int b; repeated long c; repeated text d; repeated group e{optional int f;}");
        long[] bools = {0, 1, -1, 2, 256, 4294967296L, Long.MIN_VALUE};
        for (long v : bools) {
            int i = x.add(0, 0, v);
            Check.due("bool of " + v, x.value(i), v != 0 ? 1 : 0);
        }
        int before = x.nodes();
        Check.due("int too big", x.add(0, 1, 2147483648L), NONE);
        Check.due("int too low", x.add(0, 1, -2147483649L), NONE);
        Check.due("int far off", x.add(0, 1, 4294967296L), NONE);
        Check.due("nodes()", x.nodes(), before);
        Check.due("int biggest", x.value(x.add(0, 1, 2147483647L)), 2147483647L);
        Check.due("int lowest", x.value(x.add(0, 1, -2147483648L)), -2147483648L);
        Check.due("long biggest", x.value(x.add(0, 2, Long.MAX_VALUE)), Long.MAX_VALUE);
        Check.due("long lowest", x.value(x.add(0, 2, Long.MIN_VALUE)), Long.MIN_VALUE);
        Check.due("add of a text", x.add(0, 3, 0), NONE);
        Check.due("group", x.value(x.add(0, 4, Long.MIN_VALUE)), 0);
    }

    private static void texts() {
        SchemaRecords x = Check.with(SCHEMA);
        Check.due("addText to an int", Check.addText(x, 0, 0, "a"), NONE);
        Check.due("addText to a group", Check.addText(x, 0, 1, "a"), NONE);
        Check.due("addText to no field", Check.addText(x, 0, 10, "a"), NONE);
        Check.due("addText to field -1", Check.addText(x, 0, -1, "a"), NONE);
        Check.due("addText to no node", Check.addText(x, 1, 8, "a"), NONE);
        Check.due("addText to another group", Check.addText(x, 0, 5, "a"), NONE);
        Check.due("nodes()", x.nodes(), 1);
        Check.due("addText", Check.addText(x, 0, 8, "\u0000'\\\u00ff\n"), 1);
        Check.due("text", Check.textOf(x, 1), "\u0000'\\\u00ff\n");
        Check.due("value", x.value(1), 0);
        Check.due("addText", Check.addText(x, 0, 8, ""), 2);
        Check.due("node(2, 3)", x.node(2, 3), 0);
        Check.due("textByte(2, 0)", x.textByte(2, 0), NONE);
        Check.due("addText of 255", Check.addText(x, 0, 8, "q".repeat(255)), 3);
        Check.due("node(3, 3)", x.node(3, 3), 255);
        Check.due("textByte(3, 254)", x.textByte(3, 254), 'q');
        Check.due("textByte(3, 255)", x.textByte(3, 255), NONE);
        Check.due("addText of 256", Check.addText(x, 0, 8, "q".repeat(256)), NONE);
        Check.due("addText, the tape is empty", x.addText(0, 8, 1), -2);
        Check.feed(x, "q".repeat(300));
        Check.due("addText of 321", x.addText(0, 8, 321), -2);
        Check.due("addText of the first 3", x.addText(0, 8, 3), 4);
        Check.due("text", Check.textOf(x, 4), "qqq");
        Check.due("nodes()", x.nodes(), 5);
    }

    /** More calls than are promised: the room for texts can't be filled within 512. */
    private static void textRoom() {
        SchemaRecords x = Check.with("repeated text t; optional int a;");
        for (int k = 1; k <= 62; k++) {
            Check.due("addText " + k, Check.addText(x, 0, 0, "w".repeat(255)), k);
        }
        Check.due("addText of 191", Check.addText(x, 0, 0, "w".repeat(191)), NONE);
        Check.due("addText of 190", Check.addText(x, 0, 0, "w".repeat(190)), 63);
        Check.due("addText of 1", Check.addText(x, 0, 0, "w"), NONE);
        Check.due("addText of 0", Check.addText(x, 0, 0, ""), 64);
        Check.due("add", x.add(0, 1, 1), 65);
        x.begin();
        Check.due("addText of 255", Check.addText(x, 0, 0, "w".repeat(255)), 1);
    }

    private static void beginAgain() {
        SchemaRecords x = Check.with(SCHEMA);
        x.begin();
        Check.due("add g", x.add(0, 1, 0), 1);
        Check.due("add b", x.add(1, 2, 1), 2);
        Check.due("written", Check.written(x), "{g:[{b:true}]}");
        x.begin();
        Check.due("nodes()", x.nodes(), 1);
        Check.due("node(0, 2)", x.node(0, 2), 0);
        Check.due("node(1, 0)", x.node(1, 0), NONE);
        Check.due("value(2)", x.value(2), 0);
        Check.due("count(0)", x.count(0), 10);
        Check.due("the output stays", Check.output(x, 14), "{g:[{b:true}]}");
        Check.due("add a", x.add(0, 0, 3), 1);
        Check.due("written", Check.written(x), "{a:3}");
        Check.feed(x, "{a:4}");
        x.begin();
        Check.due("record, the tape stayed", x.record(5), NONE);
        SchemaRecords none = new SchemaRecords();
        none.begin();
        Check.due("nodes()", none.nodes(), 1);
    }

    private static void behindARecord() {
        SchemaRecords x = Check.with(SCHEMA);
        Check.recordDue(x, "{a:1,g:[{b:true,h:[{c:[1]}]}]}", NONE);
        Check.due("add a", x.add(0, 0, 1), NONE);
        Check.due("add c", x.add(4, 4, 2), 6);
        Check.due("addText d", Check.addText(x, 4, 5, "x"), 7);
        Check.due("add c behind d", x.add(4, 4, 2), NONE);
        Check.due("add h", x.add(2, 3, 0), 8);
        Check.due("add g", x.add(0, 1, 0), 9);
        Check.due("add b", x.add(9, 2, 0), 10);
        Check.recordDue(x, "{a:x", 3);
        Check.due("written", Check.written(x), "{a:1,g:[{b:true,h:[{c:[1,2],d:'x'},{}]},{b:false}]}");
        // What a text's reading left aside must not come back.
        Check.recordDue(x, "{t:['u']}", NONE);
        Check.due("nodes()", x.nodes(), 2);
        Check.due("add l", x.add(0, 9, -5), 2);
        Check.due("written", Check.written(x), "{t:['u'],l:-5}");
    }
}
