import java.nio.charset.StandardCharsets;

/** What the tests share: texts as calls, and the count of answers that are not as due. */
final class Check {
    private static int calls = 0;
    private static int wrong = 0;

    private Check() {
    }

    static void due(String what, long got, long want) {
        calls++;
        if (got != want) {
            wrong++;
            System.out.println(what + " answered " + got + ", due is " + want);
        }
    }

    static void due(String what, boolean got, boolean want) {
        due(what, got ? 1 : 0, want ? 1 : 0);
    }

    static void due(String what, String got, String want) {
        calls++;
        if (!got.equals(want)) {
            wrong++;
            System.out.println(what + " answered " + got + ", due is " + want);
        }
    }

    /** A sentence of the document with the test of its own; one without answers, or with wrong ones, is told by its words. */
    static void sentence(String where, String words, Runnable test) {
        int callsBefore = calls;
        int wrongBefore = wrong;
        test.run();
        if (calls == callsBefore) {
            wrong++;
            System.out.println("no answer was looked at");
        }
        if (wrong != wrongBefore) {
            System.out.println("  so this does not hold (" + where + "): " + words);
        }
    }

    static int wrongSoFar() {
        return wrong;
    }

    static void end() {
        System.out.println(calls + " answers, " + wrong + " of them not as due");
        if (wrong != 0 || calls == 0) {
            System.exit(1);
        }
    }

    /** Puts a text (characters 0 to 255) onto the tape, with zeros behind it; whether all had room. */
    static boolean feed(SchemaRecords x, String text) {
        byte[] bytes = text.getBytes(StandardCharsets.ISO_8859_1);
        boolean all = true;
        for (int k = 0; k < bytes.length; k += 20) {
            all &= x.feed(four(bytes, k), four(bytes, k + 4), four(bytes, k + 8),
                four(bytes, k + 12), four(bytes, k + 16));
        }
        return all;
    }

    private static int four(byte[] bytes, int from) {
        int number = 0;
        for (int k = from; k < from + 4; k++) {
            number = number << 8 | (k < bytes.length ? bytes[k] & 255 : 0);
        }
        return number;
    }

    static int schema(SchemaRecords x, String text) {
        feed(x, text);
        return x.schema(text.length());
    }

    static int record(SchemaRecords x, String text) {
        feed(x, text);
        return x.record(text.length());
    }

    static int find(SchemaRecords x, int group, String name) {
        feed(x, name);
        return x.find(group, name.length());
    }

    static int addText(SchemaRecords x, int parent, int field, String text) {
        feed(x, text);
        return x.addText(parent, field, text.length());
    }

    /** A new object with a schema that must stand. */
    static SchemaRecords with(String schema) {
        SchemaRecords x = new SchemaRecords();
        due("schema " + schema, schema(x, schema), SchemaRecords.NONE);
        return x;
    }

    /** The place of what can't stand in the schema's text, on a new object. */
    static void schemaDue(String text, int want) {
        due("schema " + shown(text), schema(new SchemaRecords(), text), want);
    }

    static void recordDue(SchemaRecords x, String text, int want) {
        due("record " + shown(text), record(x, text), want);
    }

    /** What write() puts out; "NONE" if it answers NONE. */
    static String written(SchemaRecords x) {
        int n = x.write();
        return n == SchemaRecords.NONE ? "NONE" : output(x, n);
    }

    /** As written(), of an output so long that all its bytes would take more calls than an object has. */
    static void longWritten(SchemaRecords x, String want) {
        due("write()", x.write(), want.length());
        for (int k = 0; k < want.length(); k += 1 + want.length() / 100) {
            due("output(" + k + ")", x.output(k), want.charAt(k));
        }
        due("the last byte", x.output(want.length() - 1), want.charAt(want.length() - 1));
        due("behind it", x.output(want.length()), SchemaRecords.NONE);
    }

    static String output(SchemaRecords x, int n) {
        StringBuilder text = new StringBuilder();
        for (int k = 0; k < n; k++) {
            text.append((char) x.output(k));
        }
        return text.toString();
    }

    static String textOf(SchemaRecords x, int i) {
        StringBuilder text = new StringBuilder();
        int n = x.node(i, 3);
        for (int k = 0; k < n; k++) {
            text.append((char) x.textByte(i, k));
        }
        return text.toString();
    }

    private static String shown(String text) {
        String line = text.replace("\n", "~");
        return line.length() <= 80 ? line : line.substring(0, 77) + "..";
    }
}
