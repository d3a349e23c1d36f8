import java.math.BigInteger;
import java.util.ArrayList;
import java.util.List;
import java.util.Random;
import java.util.regex.Pattern;

/**
 * A way to tell what can't stand that shares nothing with a reader's steps: the texts that stand are one
 * language of words, signs, numbers and texts; a token can't stand if, behind those before it, no text of
 * the language goes on with it (the derivative of the language is empty).
 */
public final class GrammarTest {
    private static final int NONE = SchemaRecords.NONE;
    private static final int ROUNDS = 600;
    private static final int TEXTS_OF_EACH = 30;
    private static final int MOST_TOKENS = 60;
    private static final String[] KINDS = {"required", "optional", "repeated"};
    private static final String[] TYPES = {"bool", "int", "long", "text", "group"};
    private static final String[] NAMES = {"a", "b", "A", "a_", "a1", "required", "int", "group", "true", "false", "sixteen_bytes_16"};
    private static final String[] VALUES = {
        "true", "false", "0", "7", "-1", "2147483647", "-2147483648", "2147483648", "-2147483649", "9223372036854775807",
        "-9223372036854775808", "9223372036854775808", "-9223372036854775809", "05", "-0", "00", "''", "'x'", "' '", "'\\''", "'\\x00{'",
    };
    private static final String[] SIGNS = {"{", "}", "[", "]", ":", ",", ";", "_", "-", "\\", "=", "\u0000", "\u00e9"};
    private static final Pattern NAME = Pattern.compile("[A-Za-z][A-Za-z0-9_]{0,15}");
    private static final Pattern NUMBER = Pattern.compile("0|-?[1-9][0-9]*");

    /** A language of tokens. */
    interface Language {
        boolean hasTheEmptyOne();

        Language behind(String token);
    }

    enum Plain implements Language {
        NOTHING, THE_EMPTY_ONE;

        public boolean hasTheEmptyOne() {
            return this == THE_EMPTY_ONE;
        }

        public Language behind(String token) {
            return NOTHING;
        }
    }

    /** One token: that with these words, or one of the class that a sign # names. */
    record One(String meant) implements Language {
        public boolean hasTheEmptyOne() {
            return false;
        }

        public Language behind(String token) {
            return isMeant(token) ? Plain.THE_EMPTY_ONE : Plain.NOTHING;
        }

        private boolean isMeant(String token) {
            switch (meant) {
                case "#name":
                    return NAME.matcher(token).matches();
                case "#int":
                    return isNumber(token, 32);
                case "#long":
                    return isNumber(token, 64);
                case "#text":
                    return token.startsWith("'");
                default:
                    return token.equals(meant);
            }
        }

        private static boolean isNumber(String token, int bits) {
            return NUMBER.matcher(token).matches() && new BigInteger(token).bitLength() < bits;
        }
    }

    record Row(Language first, Language second) implements Language {
        public boolean hasTheEmptyOne() {
            return first.hasTheEmptyOne() && second.hasTheEmptyOne();
        }

        public Language behind(String token) {
            Language in = row(first.behind(token), second);
            return first.hasTheEmptyOne() ? either(in, second.behind(token)) : in;
        }
    }

    record Either(Language one, Language other) implements Language {
        public boolean hasTheEmptyOne() {
            return one.hasTheEmptyOne() || other.hasTheEmptyOne();
        }

        public Language behind(String token) {
            return either(one.behind(token), other.behind(token));
        }
    }

    record Many(Language each) implements Language {
        public boolean hasTheEmptyOne() {
            return true;
        }

        public Language behind(String token) {
            return row(each.behind(token), this);
        }
    }

    /** A field of a schema's text: made when it is looked at, as a field may be in a field. */
    record FieldText() implements Language {
        public boolean hasTheEmptyOne() {
            return false;
        }

        public Language behind(String token) {
            Language ofGroup = rows(new One("group"), new One("#name"), new One("{"), this, new Many(this), new One("}"));
            Language types = Plain.NOTHING;
            for (int t = 0; t < 4; t++) {
                types = either(types, new One(TYPES[t]));
            }
            Language other = rows(types, new One("#name"), new One(";"));
            Language kinds = either(new One(KINDS[0]), either(new One(KINDS[1]), new One(KINDS[2])));
            return row(kinds, either(other, ofGroup)).behind(token);
        }
    }

    static Language row(Language first, Language second) {
        if (first == Plain.NOTHING || second == Plain.NOTHING) {
            return Plain.NOTHING;
        }
        return first == Plain.THE_EMPTY_ONE ? second : new Row(first, second);
    }

    static Language rows(Language... all) {
        Language made = Plain.THE_EMPTY_ONE;
        for (int k = all.length - 1; k >= 0; k--) {
            made = row(all[k], made);
        }
        return made;
    }

    static Language either(Language one, Language other) {
        if (one == Plain.NOTHING || one.equals(other)) {
            return other;
        }
        return other == Plain.NOTHING ? one : new Either(one, other);
    }

    /** A field as it was drawn; a group has fields in it. */
    record Drawn(String kind, String type, String name, List<Drawn> inside) {
        String text() {
            String head = kind + " " + type + " " + name;
            return type.equals("group") ? head + "{" + textOf(inside) + "}" : head + ";";
        }

        Language values() {
            Language one = type.equals("group") ? members(inside) : value();
            if (!kind.equals("repeated")) {
                return one;
            }
            Language more = row(one, new Many(row(new One(","), one)));
            return rows(new One("["), either(more, Plain.THE_EMPTY_ONE), new One("]"));
        }

        private Language value() {
            return type.equals("bool") ? either(new One("true"), new One("false")) : new One("#" + type);
        }
    }

    static String textOf(List<Drawn> fields) {
        StringBuilder text = new StringBuilder();
        for (Drawn field : fields) {
            text.append(field.text());
        }
        return text.toString();
    }

    static Language members(List<Drawn> fields) {
        return rows(new One("{"), membersFrom(fields, 0, true), new One("}"));
    }

    private static Language membersFrom(List<Drawn> fields, int k, boolean isFirst) {
        if (k == fields.size()) {
            // A comma is taken as a sign between, also behind the last field: what comes behind it can't stand.
            Language comma = row(new One(","), new One("#never"));
            return isFirst ? Plain.THE_EMPTY_ONE : either(Plain.THE_EMPTY_ONE, comma);
        }
        Drawn field = fields.get(k);
        Language named = rows(new One(field.name), new One(":"), field.values(), membersFrom(fields, k + 1, false));
        Language there = isFirst ? named : row(new One(","), named);
        return field.kind.equals("required") ? there : either(there, membersFrom(fields, k + 1, isFirst));
    }

    /** A text by chance, with the answer that is due. */
    static final class Walk {
        private final Random random;
        private final StringBuilder text = new StringBuilder();
        private final List<String> names = new ArrayList<>();
        private Language left;
        private int fault = NONE;

        Walk(Random random, Language language) {
            this.random = random;
            this.left = language;
        }

        void go() {
            int most = random.nextInt(3) == 0 ? random.nextInt(MOST_TOKENS) : MOST_TOKENS;
            for (int k = 0; k < most && !(left.hasTheEmptyOne() && random.nextInt(3) == 0); k++) {
                take(random.nextInt(50) == 0 ? any() : fitting());
            }
            blanks();
        }

        int due() {
            if (fault != NONE) {
                return fault;
            }
            return left.hasTheEmptyOne() ? NONE : text.length();
        }

        private void take(String drawn) {
            String token = isNewNameDue() ? newName(drawn) : drawn;
            blanks();
            // Two that would be one without a blank; a number and a word behind it are two all the same.
            boolean joins = text.length() > 0 && isOfWord(text.charAt(text.length() - 1)) && isOfWord(token.charAt(0));
            if (joins && (Character.isDigit(token.charAt(0)) || !endsInNumber())) {
                text.append(' ');
            }
            if (fault == NONE) {
                left = left.behind(token);
                fault = left == Plain.NOTHING ? text.length() : NONE;
            }
            text.append(token);
        }

        /** In a schema's text any word may come as a name; in a record's those of the schema alone. */
        private boolean isNewNameDue() {
            return left.behind("any_word") != Plain.NOTHING;
        }

        /** That no other field has the name is no matter of a language like these, so none comes twice. */
        private String newName(String drawn) {
            boolean isName = NAME.matcher(drawn).matches();
            String name = isName && names.contains(drawn) ? "n" + names.size() : drawn;
            names.add(name);
            return name;
        }

        private boolean endsInNumber() {
            int from = text.length();
            while (from > 0 && isOfWord(text.charAt(from - 1))) {
                from--;
            }
            return text.substring(from).matches("[0-9]+");
        }

        private void blanks() {
            for (int k = 0; k < 3 && random.nextInt(4) == 0; k++) {
                text.append(random.nextBoolean() ? ' ' : '\n');
            }
        }

        private String fitting() {
            List<String> fits = new ArrayList<>();
            for (String[] some : new String[][] {KINDS, TYPES, NAMES, VALUES, SIGNS}) {
                for (String token : some) {
                    if (left.behind(token) != Plain.NOTHING) {
                        fits.add(token);
                    }
                }
            }
            return fits.isEmpty() ? any() : fits.get(random.nextInt(fits.size()));
        }

        private String any() {
            String[][] all = {KINDS, TYPES, NAMES, VALUES, SIGNS, {"seventeen_bytes_1", "re", "quired"}};
            String[] some = all[random.nextInt(all.length)];
            return some[random.nextInt(some.length)];
        }

        private static boolean isOfWord(char c) {
            return c < 128 && (Character.isLetterOrDigit(c) || c == '_');
        }
    }

    private final Random random = new Random(20261116L);
    private int stood;

    public static void main(String[] args) {
        GrammarTest test = new GrammarTest();
        for (int k = 0; k < ROUNDS; k++) {
            test.schemaTexts();
        }
        Check.due("many schemas stand", test.stood > ROUNDS * TEXTS_OF_EACH / 4, true);
        test.stood = 0;
        for (int k = 0; k < ROUNDS; k++) {
            test.recordTexts();
        }
        Check.due("many records stand", test.stood > ROUNDS * TEXTS_OF_EACH / 8, true);
        Check.end();
    }

    private void schemaTexts() {
        for (int k = 0; k < TEXTS_OF_EACH; k++) {
            Walk walk = new Walk(random, row(new FieldText(), new Many(new FieldText())));
            walk.go();
            Check.schemaDue(walk.text.toString(), walk.due());
            stood += walk.due() == NONE ? 1 : 0;
        }
    }

    private void recordTexts() {
        List<Drawn> fields = draw(0);
        Language language = members(fields);
        for (int k = 0; k < TEXTS_OF_EACH; k++) {
            Walk walk = new Walk(random, language);
            walk.go();
            Check.recordDue(Check.with(textOf(fields)), walk.text.toString(), walk.due());
            stood += walk.due() == NONE ? 1 : 0;
        }
    }

    private List<Drawn> draw(int depth) {
        List<Drawn> fields = new ArrayList<>();
        int first = random.nextInt(NAMES.length);
        int many = 1 + random.nextInt(4);
        for (int k = 0; k < many; k++) {
            String kind = KINDS[random.nextInt(KINDS.length)];
            String type = TYPES[random.nextInt(depth < 3 ? TYPES.length : TYPES.length - 1)];
            List<Drawn> inside = type.equals("group") ? draw(depth + 1) : List.of();
            fields.add(new Drawn(kind, type, NAMES[(first + k) % NAMES.length], inside));
        }
        return fields;
    }
}
