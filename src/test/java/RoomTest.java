import com.sun.management.ThreadMXBean;
import java.lang.management.ManagementFactory;
import java.util.function.IntUnaryOperator;

/**
 * The dearest runs of 512 calls stay within the room that all calls of a run have: 7.3 million fields and
 * elements, 600,000 objects. Each element takes a byte at least, and each object sixteen, so that a run
 * that takes fewer bytes than elements are allowed keeps both.
 */
public final class RoomTest {
    private static final long MOST_BYTES = 7_300_000L;
    private static final int MOST_CALLS = 512;

    private static final ThreadMXBean MACHINE = (ThreadMXBean) ManagementFactory.getThreadMXBean();

    /** What one round of a run does: how many calls it took. */
    interface Round {
        int go(SchemaRecords x, int k);
    }

    public static void main(String[] args) {
        String members = "0,".repeat(1996) + "0";
        within("schemas without a text", "optional int a;", (x, k) -> call(x.schema(0)));
        within("records without a text", "optional int a;", (x, k) -> call(x.record(0)));
        within("names without a text", "optional int a;", (x, k) -> call(x.find(-1, 0)));
        within("schemas of many fields", "optional int a;", (x, k) -> stands(x, manyFields(), x::schema));
        within("records of many nodes", "repeated int a;", (x, k) -> stands(x, "{a:[" + members + "]}", x::record));
        within("records of short texts", "repeated text a;", (x, k) -> stands(x, "{a:[" + "'',".repeat(1330) + "'']}", x::record));
        within("records of one text", "required text a;", (x, k) -> stands(x, "{a:'x'}", x::record));
        within("texts by hand", "repeated text a;", (x, k) -> comes(x, "x".repeat(255)));
        within("short texts by hand", "repeated text a;", (x, k) -> comes(x, "x"));
        within("numbers by hand, written each time", "repeated group sixteen_bytes_16{optional long sixteen_bytes_17;}", (x, k) -> {
            x.add(0, 0, 0);
            x.add(x.nodes() - 1, 1, Long.MIN_VALUE);
            return 3 + call(x.write());
        });
        within("groups by hand, begun again", "optional group a{optional int b;}", (x, k) -> {
            x.begin();
            return 1 + call(x.add(0, 0, 0));
        });
        Check.end();
    }

    private static String manyFields() {
        StringBuilder text = new StringBuilder();
        for (int k = 0; k < 63; k++) {
            text.append("optional int a").append(k).append(';');
        }
        return text.append("optional group g").append("{optional group g".repeat(15)).append('{').append("optional int b;")
            .append("}".repeat(16)).toString();
    }

    private static void within(String what, String schema, Round round) {
        long before = MACHINE.getThreadAllocatedBytes(Thread.currentThread().getId());
        SchemaRecords x = new SchemaRecords();
        int calls = stands(x, schema, x::schema);
        for (int k = 0; k < MOST_CALLS && calls < MOST_CALLS; k++) {
            calls += round.go(x, k);
        }
        long taken = MACHINE.getThreadAllocatedBytes(Thread.currentThread().getId()) - before;
        System.out.println(what + ": " + taken + " bytes in " + calls + " calls");
        Check.due(what + " stay within the room", taken < MOST_BYTES, true);
    }

    private static int call(int answer) {
        return 1;
    }

    private static int stands(SchemaRecords x, String text, IntUnaryOperator last) {
        Check.feed(x, text);
        Check.due("a text of " + text.length() + " bytes", last.applyAsInt(text.length()), SchemaRecords.NONE);
        return (text.length() + 19) / 20 + 1;
    }

    private static int comes(SchemaRecords x, String text) {
        int number = x.nodes();
        Check.feed(x, text);
        Check.due("a node of " + text.length() + " bytes", x.addText(0, 0, text.length()), number);
        return (text.length() + 19) / 20 + 2;
    }
}
