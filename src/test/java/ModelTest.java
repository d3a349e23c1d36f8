import java.math.BigInteger;
import java.util.ArrayList;
import java.util.List;
import java.util.Random;
import java.util.regex.Matcher;
import java.util.regex.Pattern;

/** Long runs of calls, made from fixed seeds, against a second and slower program that is written another way. */
public final class ModelTest {
    private static final int RUNS = 20000;
    private static final int CALLS_OF_AN_OBJECT = 512;

    public static void main(String[] args) {
        for (int seed = 0; seed < RUNS && Check.wrongSoFar() < 20; seed++) {
            new Run(seed).go();
        }
        Check.end();
    }

    /** Where a text can't stand. */
    private static final class Fault extends RuntimeException {
        private static final long serialVersionUID = 1L;
        private final int place;

        Fault(int place) {
            this.place = place;
        }
    }

    /** The object of a run has had all the calls that are promised. */
    private static final class Spent extends RuntimeException {
        private static final long serialVersionUID = 1L;
    }

    private static final class ModelField {
        private String kind;
        private String type;
        private String name;
        private int group;

        boolean is(String what) {
            return kind.equals(what) || type.equals(what);
        }
    }

    private static final class ModelNode {
        private int field = -1;
        private int parent = -1;
        private long value = 0;
        private String text = "";
    }

    private static final class Model {
        private static final Pattern WORD = Pattern.compile("[A-Za-z][A-Za-z0-9_]*");
        private static final Pattern NUMBER = Pattern.compile("-?[0-9]+");
        private static final Pattern GOOD_NUMBER = Pattern.compile("0|-?[1-9][0-9]*");
        private static final Pattern TEXT_BYTE = Pattern.compile("[ -~&&[^'\\\\]]|\\\\['\\\\]|\\\\x[0-9a-f]{2}");
        private static final Pattern CUT_ESCAPE = Pattern.compile("\\\\(x[0-9a-f]?)?");

        private String tape = "";
        private List<ModelField> fields = new ArrayList<>();
        private List<ModelNode> nodes = alone();
        private String output = "";
        private String text;
        private int at;

        private static List<ModelNode> alone() {
            List<ModelNode> row = new ArrayList<>();
            row.add(new ModelNode());
            return row;
        }

        private boolean cut(int n) {
            if (n < 0 || n > tape.length()) {
                return false;
            }
            text = tape.substring(0, n);
            tape = "";
            at = 0;
            return true;
        }

        private void skip() {
            while (at < text.length() && " \n".indexOf(text.charAt(at)) >= 0) {
                at++;
            }
        }

        private boolean sees(String sign) {
            skip();
            return text.startsWith(sign, at);
        }

        private void sign(String sign) {
            if (!sees(sign)) {
                throw new Fault(at);
            }
            at += sign.length();
        }

        private String match(Pattern pattern) {
            skip();
            Matcher matcher = pattern.matcher(text).region(at, text.length());
            if (!matcher.lookingAt()) {
                throw new Fault(at);
            }
            return matcher.group();
        }

        private String oneOf(String... words) {
            String word = match(WORD);
            if (!List.of(words).contains(word)) {
                throw new Fault(at);
            }
            at += word.length();
            return word;
        }

        int schema(int n) {
            if (!cut(n)) {
                return -2;
            }
            List<ModelField> read = new ArrayList<>();
            try {
                do {
                    schemaField(read, -1, 0);
                    skip();
                } while (at < text.length());
            } catch (Fault fault) {
                return fault.place;
            }
            fields = read;
            nodes = alone();
            return -1;
        }

        private void schemaField(List<ModelField> read, int group, int depth) {
            ModelField field = new ModelField();
            field.kind = oneOf("required", "optional", "repeated");
            field.type = oneOf("bool", "int", "long", "text", "group");
            field.name = match(WORD);
            field.group = group;
            boolean isGroup = field.is("group");
            long columns = read.stream().filter(f -> !f.is("group")).count();
            boolean twice = read.stream().anyMatch(f -> f.group == group && f.name.equals(field.name));
            if (field.name.length() > 16 || twice || read.size() == 128 || (!isGroup && columns == 64) || (isGroup && depth == 16)) {
                throw new Fault(at);
            }
            at += field.name.length();
            read.add(field);
            int number = read.size() - 1;
            if (!isGroup) {
                sign(";");
                return;
            }
            sign("{");
            do {
                schemaField(read, number, depth + 1);
            } while (!sees("}"));
            sign("}");
        }

        int record(int n) {
            if (!cut(n)) {
                return -2;
            }
            if (fields.isEmpty()) {
                return 0;
            }
            List<ModelNode> read = alone();
            try {
                members(read, -1, 0);
                skip();
                if (at < text.length()) {
                    throw new Fault(at);
                }
            } catch (Fault fault) {
                return fault.place;
            }
            nodes = read;
            return -1;
        }

        private List<Integer> fieldsOf(int group) {
            List<Integer> row = new ArrayList<>();
            for (int f = 0; f < fields.size(); f++) {
                if (fields.get(f).group == group) {
                    row.add(f);
                }
            }
            return row;
        }

        private void members(List<ModelNode> read, int group, int parent) {
            List<Integer> left = fieldsOf(group);
            sign("{");
            boolean more = !sees("}");
            while (more) {
                String name = match(WORD);
                while (!left.isEmpty() && !fields.get(left.get(0)).name.equals(name) && !fields.get(left.get(0)).is("required")) {
                    left.remove(0);
                }
                if (left.isEmpty() || !fields.get(left.get(0)).name.equals(name)) {
                    throw new Fault(at);
                }
                at += name.length();
                sign(":");
                values(read, left.remove(0), parent);
                more = sees(",");
                if (more) {
                    sign(",");
                }
            }
            if (sees("}") && left.stream().anyMatch(f -> fields.get(f).is("required"))) {
                throw new Fault(at);
            }
            sign("}");
        }

        private void values(List<ModelNode> read, int f, int parent) {
            if (!fields.get(f).is("repeated")) {
                oneValue(read, f, parent);
                return;
            }
            sign("[");
            if (!sees("]")) {
                oneValue(read, f, parent);
                while (sees(",")) {
                    sign(",");
                    oneValue(read, f, parent);
                }
            }
            sign("]");
        }

        private void oneValue(List<ModelNode> read, int f, int parent) {
            ModelNode node = new ModelNode();
            node.field = f;
            node.parent = parent;
            read.add(node);
            switch (fields.get(f).type) {
                case "bool" -> node.value = oneOf("true", "false").equals("true") ? 1 : 0;
                case "int" -> node.value = number(31);
                case "long" -> node.value = number(63);
                case "text" -> node.text = textValue();
                default -> members(read, f, read.size() - 1);
            }
        }

        private long number(int bits) {
            skip();
            if (text.substring(at).equals("-")) {
                throw new Fault(text.length());
            }
            String digits = match(NUMBER);
            if (!GOOD_NUMBER.matcher(digits).matches() || new BigInteger(digits).bitLength() > bits) {
                throw new Fault(at);
            }
            at += digits.length();
            return new BigInteger(digits).longValueExact();
        }

        private String textValue() {
            sign("'");
            StringBuilder read = new StringBuilder();
            while (!text.startsWith("'", at)) {
                Matcher matcher = TEXT_BYTE.matcher(text).region(at, text.length());
                boolean ends = at == text.length() || CUT_ESCAPE.matcher(text.substring(at)).matches();
                if (read.length() == 255) {
                    throw new Fault(at);
                }
                if (!matcher.lookingAt()) {
                    throw new Fault(ends ? text.length() : at);
                }
                String seen = matcher.group();
                at += seen.length();
                read.append(seen.length() == 4 ? (char) Integer.parseInt(seen.substring(2), 16) : seen.charAt(seen.length() - 1));
            }
            at++;
            return read.toString();
        }

        int find(int group, int n) {
            if (!cut(n)) {
                return -2;
            }
            return fieldsOf(group).stream().filter(f -> fields.get(f).name.equals(text)).findFirst().orElse(-1);
        }

        private boolean may(int parent, int f) {
            if (parent < 0 || parent >= nodes.size() || f < 0 || f >= fields.size() || nodes.size() >= 2000) {
                return false;
            }
            boolean open = false;
            for (int up = nodes.size() - 1; up >= 0; up = nodes.get(up).parent) {
                open |= up == parent;
            }
            boolean late = nodes.stream().anyMatch(node -> node.parent == parent
                && (node.field > f || (node.field == f && !fields.get(f).is("repeated"))));
            return open && !late && fields.get(f).group == nodes.get(parent).field;
        }

        int add(int parent, int f, long v) {
            if (!may(parent, f) || fields.get(f).is("text") || (fields.get(f).is("int") && Math.abs(v + 0.5) > 2147483648.0)) {
                return -1;
            }
            ModelNode node = new ModelNode();
            node.field = f;
            node.parent = parent;
            node.value = fields.get(f).is("bool") ? Math.abs(Long.signum(v)) : fields.get(f).is("group") ? 0 : v;
            nodes.add(node);
            return nodes.size() - 1;
        }

        int addText(int parent, int f, int n) {
            if (!cut(n)) {
                return -2;
            }
            int bytes = nodes.stream().mapToInt(node -> node.text.length()).sum();
            if (!may(parent, f) || !fields.get(f).is("text") || n > 255 || bytes + n > 16000) {
                return -1;
            }
            ModelNode node = new ModelNode();
            node.field = f;
            node.parent = parent;
            node.text = text;
            nodes.add(node);
            return nodes.size() - 1;
        }

        private List<Integer> childrenOf(int parent, int f) {
            List<Integer> row = new ArrayList<>();
            for (int i = 0; i < nodes.size(); i++) {
                if (nodes.get(i).parent == parent && (f == -1 || nodes.get(i).field == f)) {
                    row.add(i);
                }
            }
            return row;
        }

        boolean isWhole() {
            for (int i = 0; i < nodes.size(); i++) {
                int group = nodes.get(i).field;
                for (int f : fieldsOf(group)) {
                    if (fields.get(f).is("required") && childrenOf(i, f).isEmpty()) {
                        return false;
                    }
                }
            }
            return !fields.isEmpty();
        }

        int write() {
            output = isWhole() ? shown(0) : "";
            return isWhole() ? output.length() : -1;
        }

        private String shown(int i) {
            ModelNode node = nodes.get(i);
            String type = node.field == -1 ? "group" : fields.get(node.field).type;
            switch (type) {
                case "bool":
                    return node.value == 1 ? "true" : "false";
                case "int":
                case "long":
                    return Long.toString(node.value);
                case "text":
                    return "'" + node.text.chars().mapToObj(c -> c < 32 || c > 126 ? String.format("\\x%02x", c)
                        : c == '\'' || c == '\\' ? "\\" + (char) c : "" + (char) c)
                        .reduce("", String::concat) + "'";
                default:
                    return group(i);
            }
        }

        private String group(int i) {
            List<String> members = new ArrayList<>();
            for (int f : fieldsOf(nodes.get(i).field)) {
                List<String> values = childrenOf(i, f).stream().map(this::shown).toList();
                String joined = String.join(",", values);
                if (!values.isEmpty()) {
                    members.add(fields.get(f).name + ":" + (fields.get(f).is("repeated") ? "[" + joined + "]" : joined));
                }
            }
            return "{" + String.join(",", members) + "}";
        }

        int fieldProperty(int f, int what) {
            if (f < 0 || f >= fields.size()) {
                return -1;
            }
            ModelField field = fields.get(f);
            int repetition = 0;
            int definition = 0;
            for (int up = f; up != -1; up = fields.get(up).group) {
                repetition += fields.get(up).is("repeated") ? 1 : 0;
                definition += fields.get(up).is("required") ? 0 : 1;
            }
            int column = (int) fields.subList(0, f).stream().filter(other -> !other.is("group")).count();
            int[] all = {
                List.of("required", "optional", "repeated").indexOf(field.kind),
                List.of("bool", "int", "long", "text", "group").indexOf(field.type),
                field.group, field.is("group") ? -1 : column, field.name.length(), repetition, definition,
            };
            return what < 0 || what >= all.length ? -1 : all[what];
        }

        int nodeProperty(int i, int what) {
            if (i < 0 || i >= nodes.size()) {
                return -1;
            }
            int[] all = {nodes.get(i).field, nodes.get(i).parent, childrenOf(i, -1).size(), nodes.get(i).text.length()};
            return what < 0 || what >= all.length ? -1 : all[what];
        }
    }

    /** One run: a class and its model get the same calls. */
    private static final class Run {
        private static final String[] NAMES = {"a", "b", "c", "aa", "a_1", "B", "int", "true", "required", "abcdefghijklmnop", "z9"};
        private static final String NOISE = " \n{}[]:;,'\\-0159abcdefxtrue_\u0000\u007f\u00ff\t.";

        private final int seed;
        private final Random random;
        private final SchemaRecords object = new SchemaRecords();
        private final Model model = new Model();
        private int calls;
        private int made;

        Run(int seed) {
            this.seed = seed;
            this.random = new Random(seed);
        }

        void go() {
            try {
                for (int k = 0; k < CALLS_OF_AN_OBJECT; k++) {
                    step(k == 0 || chance(6));
                    looks();
                }
            } catch (Spent end) {
                due("calls", calls > CALLS_OF_AN_OBJECT ? 1 : 0, 1);
            }
        }

        private void step(boolean withSchema) {
            if (withSchema) {
                readSchema();
            }
            switch (random.nextInt(3)) {
                case 0 -> readRecords();
                case 1 -> makeByHand();
                default -> {
                    readRecords();
                    addSome(random.nextInt(12));
                }
            }
        }

        /** The object for one call more. */
        private SchemaRecords x() {
            calls++;
            if (calls > CALLS_OF_AN_OBJECT) {
                throw new Spent();
            }
            return object;
        }

        private void due(String what, long got, long want) {
            Check.due("seed " + seed + ": " + what, got, want);
        }

        private boolean chance(int outOf) {
            return random.nextInt(outOf) == 0;
        }

        private void feed(String text) {
            boolean had = model.tape.length() + (text.length() + 19) / 20 * 20 <= 4000;
            if (had) {
                calls += Math.max(0, (text.length() + 19) / 20 - 1);
                due("feed", Check.feed(x(), text) ? 1 : 0, 1);
                model.tape += text + "\u0000".repeat((20 - text.length() % 20) % 20);
            }
        }

        private int size(String text) {
            return chance(60) ? random.nextInt(45) - 2 : text.length();
        }

        private void readSchema() {
            made = 0;
            String text = "";
            int n = 1 + random.nextInt(4);
            for (int k = 0; k < n; k++) {
                text += blank() + schemaField(0);
            }
            text = noise(text + blank(), 4);
            feed(text);
            int cut = size(text);
            due("schema " + text, x().schema(cut), model.schema(cut));
        }

        private String blank() {
            return chance(4) ? chance(2) ? " " : "\n " : "";
        }

        private String schemaField(int depth) {
            made++;
            String[] kinds = {"required", "optional", "repeated"};
            String[] types = {"bool", "int", "long", "text", "group", "group"};
            String type = types[random.nextInt(depth > 4 || made > 20 ? 4 : 6)];
            String name = NAMES[random.nextInt(NAMES.length)];
            name = chance(3) ? name : ("f" + made);
            String head = kinds[random.nextInt(3)] + " " + blank() + type + " " + name + blank();
            if (!type.equals("group")) {
                return head + ";";
            }
            StringBuilder text = new StringBuilder(head + "{");
            int n = 1 + random.nextInt(3);
            for (int k = 0; k < n; k++) {
                text.append(blank()).append(schemaField(depth + 1));
            }
            return text + blank() + "}";
        }

        /** Often as it is; else cut short, or with a byte more, less or changed. */
        private String noise(String text, int outOf) {
            if (!chance(outOf) || text.isEmpty()) {
                return text;
            }
            int at = random.nextInt(text.length());
            char c = NOISE.charAt(random.nextInt(NOISE.length()));
            switch (random.nextInt(4)) {
                case 0:
                    return text.substring(0, at);
                case 1:
                    return text.substring(0, at) + c + text.substring(at);
                case 2:
                    return text.substring(0, at) + text.substring(at + 1);
                default:
                    return text.substring(0, at) + c + text.substring(at + 1);
            }
        }

        private void readRecords() {
            int n = 1 + random.nextInt(3);
            for (int k = 0; k < n; k++) {
                made = 0;
                String text = noise(blank() + members(-1) + blank(), 2);
                text = text.length() > 4000 ? text.substring(0, 4000) : text;
                feed(text);
                int cut = size(text);
                due("record " + text, x().record(cut), model.record(cut));
            }
        }

        private String members(int group) {
            List<String> row = new ArrayList<>();
            for (int f : model.fieldsOf(group)) {
                if (chance(model.fields.get(f).is("required") ? 60 : 2)) {
                    continue;
                }
                row.add(blank() + model.fields.get(f).name + blank() + ":" + blank() + values(f) + blank());
                if (chance(40)) {
                    row.add(row.get(0));
                }
            }
            return "{" + String.join(",", row) + blank() + "}";
        }

        private String values(int f) {
            if (!model.fields.get(f).is("repeated")) {
                return oneValue(f);
            }
            List<String> row = new ArrayList<>();
            int n = random.nextInt(made > 60 ? 1 : 4);
            for (int k = 0; k < n; k++) {
                row.add(blank() + oneValue(f) + blank());
            }
            return "[" + String.join(",", row) + "]";
        }

        private String oneValue(int f) {
            made++;
            switch (model.fields.get(f).type) {
                case "bool":
                    return chance(2) ? "true" : "false";
                case "int":
                    return chance(30) ? "2147483648" : Integer.toString(random.nextInt() >> random.nextInt(32));
                case "long":
                    return chance(30) ? "9223372036854775808" : Long.toString(random.nextLong() >> random.nextInt(64));
                case "text":
                    return text();
                default:
                    return members(f);
            }
        }

        private String text() {
            StringBuilder text = new StringBuilder("'");
            int n = chance(60) ? 250 + random.nextInt(8) : random.nextInt(8);
            for (int k = 0; k < n; k++) {
                switch (random.nextInt(6)) {
                    case 0 -> text.append("\\'");
                    case 1 -> text.append("\\\\");
                    case 2 -> text.append(String.format("\\x%02x", random.nextInt(256)));
                    default -> text.append("abcx0 ~{".charAt(random.nextInt(8)));
                }
            }
            return text + "'";
        }

        private void makeByHand() {
            x().begin();
            model.nodes = Model.alone();
            addSome(random.nextInt(40));
        }

        private void addSome(int n) {
            for (int k = 0; k < n; k++) {
                int latest = model.nodes.size() - 1;
                int parent = chance(3) ? 0 : chance(8) ? random.nextInt(latest + 3) - 1 : latest;
                for (int up = 0; up < 3 && parent > 0 && chance(2); up++) {
                    parent = model.nodes.get(Math.min(parent, latest)).parent;
                }
                int group = parent >= 0 && parent <= latest ? model.nodes.get(parent).field : -1;
                List<Integer> inside = model.fieldsOf(group);
                boolean known = !inside.isEmpty() && !chance(8);
                int f = known ? inside.get(random.nextInt(inside.size())) : random.nextInt(model.fields.size() + 3) - 1;
                addOne(parent, f);
            }
        }

        private void addOne(int parent, int f) {
            boolean isText = f >= 0 && f < model.fields.size() && model.fields.get(f).is("text");
            if (isText != chance(10)) {
                String text = noise(text(), 2);
                feed(text);
                int cut = size(text);
                due("addText " + parent + " " + f, x().addText(parent, f, cut), model.addText(parent, f, cut));
                return;
            }
            long v = chance(4) ? 0 : random.nextLong() >> random.nextInt(64);
            due("add " + parent + " " + f + " " + v, x().add(parent, f, v), model.add(parent, f, v));
        }

        /** Some of what can be asked, within the state and a little beyond. */
        private void looks() {
            due("count(0)", x().count(0), model.fields.size());
            due("count(1)", x().count(1), model.fields.stream().filter(f -> !f.is("group")).count());
            due("nodes()", x().nodes(), model.nodes.size());
            due("isWhole()", x().isWhole() ? 1 : 0, model.isWhole() ? 1 : 0);
            int f = random.nextInt(model.fields.size() + 2) - 1;
            int what = random.nextInt(9) - 1;
            due("field " + f + " " + what, x().field(f, what), model.fieldProperty(f, what));
            int column = model.fieldProperty(f, 3);
            due("column " + column, x().column(column), column == -1 ? -1 : f);
            looksAtNames(f);
            for (int k = 0; k < 3; k++) {
                looksAtNode(random.nextInt(model.nodes.size() + 2) - 1);
            }
            if (chance(2)) {
                due("write()", x().write(), model.write());
            }
            for (int k = 0; k < 6; k++) {
                int at = random.nextInt(model.output.length() + 2) - 1;
                boolean there = at >= 0 && at < model.output.length();
                due("output " + at, x().output(at), there ? model.output.charAt(at) : -1);
            }
        }

        private void looksAtNames(int f) {
            String name = f >= 0 && f < model.fields.size() ? model.fields.get(f).name : "";
            int k = random.nextInt(name.length() + 2) - 1;
            due("letter " + f + " " + k, x().letter(f, k), k >= 0 && k < name.length() ? name.charAt(k) : -1);
            int group = chance(3) || name.isEmpty() ? random.nextInt(model.fields.size() + 4) - 2 : model.fields.get(f).group;
            feed(name);
            int cut = size(name);
            due("find " + group + " " + name, x().find(group, cut), model.find(group, cut));
        }

        private void looksAtNode(int i) {
            int what = random.nextInt(6) - 1;
            due("node " + i + " " + what, x().node(i, what), model.nodeProperty(i, what));
            boolean there = i >= 0 && i < model.nodes.size();
            due("value " + i, x().value(i), there ? model.nodes.get(i).value : 0);
            String text = there ? model.nodes.get(i).text : "";
            int k = random.nextInt(text.length() + 2) - 1;
            due("textByte " + i + " " + k, x().textByte(i, k), k >= 0 && k < text.length() ? text.charAt(k) : -1);
        }
    }
}
