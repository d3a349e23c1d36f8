import java.io.IOException;
import java.lang.reflect.Constructor;
import java.lang.reflect.Field;
import java.lang.reflect.Method;
import java.lang.reflect.Modifier;
import java.nio.file.Files;
import java.nio.file.Path;
import java.util.Arrays;
import java.util.HashSet;
import java.util.List;
import java.util.Set;
import java.util.TreeSet;
import java.util.regex.Matcher;
import java.util.regex.Pattern;

/** The class's face is the document's, and the source keeps to what LANGUAGE.md leaves where that can be seen by words. */
public final class FaceTest {
    private static final String[] FACE = {
        "boolean feed(int,int,int,int,int)", "int schema(int)", "int count(int)", "int field(int,int)", "int letter(int,int)",
        "int column(int)", "int find(int,int)", "int record(int)", "void begin()", "int add(int,int,long)",
        "int addText(int,int,int)", "int nodes()", "int node(int,int)", "long value(int)", "int textByte(int,int)",
        "boolean isWhole()", "int write()", "int output(int)",
    };
    private static final String[] RULED_OUT = {
        "try", "catch", "finally", "throw", "throws", "synchronized", "assert", "->", "::", "Exact", "@", "System.out", "while (true)",
    };

    public static void main(String[] args) throws IOException {
        members();
        classesInside();
        source();
        library();
        lengths();
        Check.end();
    }

    private static void members() {
        Class<?> face = SchemaRecords.class;
        Check.due("public final", Modifier.isPublic(face.getModifiers()) && Modifier.isFinal(face.getModifiers()), true);
        Constructor<?>[] made = face.getDeclaredConstructors();
        Check.due("constructors", made.length, 1);
        Check.due("constructor's parameters", made[0].getParameterCount(), 0);
        Check.due("constructor is public", Modifier.isPublic(made[0].getModifiers()), true);
        Set<String> seen = new TreeSet<>();
        for (Method method : face.getDeclaredMethods()) {
            if (!Modifier.isPrivate(method.getModifiers())) {
                Check.due(method + " is public", Modifier.isPublic(method.getModifiers()), true);
                seen.add(shown(method));
            }
        }
        Check.due("methods", seen.toString(), new TreeSet<>(List.of(FACE)).toString());
        for (Field field : face.getDeclaredFields()) {
            boolean isNone = field.getName().equals("NONE");
            Check.due(field + " is private", Modifier.isPrivate(field.getModifiers()), !isNone);
            Check.due(field + " is not static, or final",
                !Modifier.isStatic(field.getModifiers()) || Modifier.isFinal(field.getModifiers()), true);
        }
    }

    private static String shown(Method method) {
        StringBuilder text = new StringBuilder(method.getReturnType().getName());
        text.append(' ').append(method.getName()).append('(');
        String[] types = Arrays.stream(method.getParameterTypes()).map(Class::getName).toArray(String[]::new);
        return text.append(String.join(",", types)).append(')').toString();
    }

    private static void classesInside() {
        Set<String> publicNames = new HashSet<>();
        for (String line : FACE) {
            publicNames.add(line.substring(line.indexOf(' ') + 1, line.indexOf('(')));
        }
        Class<?>[] inside = SchemaRecords.class.getDeclaredClasses();
        Check.due("at most twelve classes", inside.length + 1 <= 12, true);
        for (Class<?> one : inside) {
            Check.due(one + " is private", Modifier.isPrivate(one.getModifiers()), true);
            Check.due(one + " is static", Modifier.isStatic(one.getModifiers()), true);
            fields(one);
            for (Method method : one.getDeclaredMethods()) {
                Check.due(method + " bears a name of the face", publicNames.contains(method.getName()), false);
                Check.due(method + " takes at most seven", method.getParameterCount() <= 7, true);
            }
        }
    }

    private static void fields(Class<?> one) {
        int own = 0;
        for (Field field : one.getDeclaredFields()) {
            boolean isStatic = Modifier.isStatic(field.getModifiers());
            own += isStatic ? 0 : 1;
            Check.due(field + " is not static, or final", !isStatic || Modifier.isFinal(field.getModifiers()), true);
            Check.due(field + " has one dimension at most", field.getType().getName().startsWith("[["), false);
        }
        Check.due(one + " has at most twenty fields", own <= 20, true);
    }

    /** The source without comments; what stands in quotes is taken out too, as it is no code. */
    private static String code() throws IOException {
        String text = Files.readString(Path.of("src/main/java/SchemaRecords.java"));
        return text.replaceAll("(?s)/\\*.*?\\*/", "").replaceAll("//[^\n]*", "")
            .replaceAll("'(?:\\\\.|[^'\\\\])'", "'.'").replaceAll("\"(?:\\\\.|[^\"\\\\])*\"", "\"..\"");
    }

    private static void source() throws IOException {
        String code = code();
        for (String word : RULED_OUT) {
            String pattern = Character.isLetter(word.charAt(0)) && !word.equals("Exact")
                ? "(?s).*\\b" + Pattern.quote(word) + "(?![A-Za-z]).*"
                : "(?s).*" + Pattern.quote(word) + ".*";
            Check.due("the source has " + word, code.matches(pattern), false);
        }
        Check.due("the source has a package line", code.matches("(?s).*\\bpackage\\b.*"), false);
        Check.due("the source imports only Arrays",
            code.replace("import java.util.Arrays;", "").matches("(?s).*\\bimport\\b.*"), false);
    }

    private static void library() throws IOException {
        Matcher of = Pattern.compile("\\b(System|Math|Integer|Long|Boolean|Character|String|StringBuilder|Arrays|List|Objects)\\.\\w+").matcher(code());
        Set<String> used = new TreeSet<>();
        while (of.find()) {
            used.add(of.group());
        }
        Check.due("the library's functions", used.toString(), "[Arrays.copyOf, Arrays.copyOfRange]");
        Check.due("texts joined by +", code().matches("(?s).*(\"\\.\\.\" \\+|\\+ \"\\.\\.\").*"), false);
    }

    /** A method is what stands between a line that ends in ") {" and a } as far in; loops in it are further in. */
    private static void lengths() throws IOException {
        List<String> lines = code().lines().toList();
        int methods = 0;
        for (int k = 0; k < lines.size(); k++) {
            Matcher head = Pattern.compile("( {4}| {8})[^ ].*\\) \\{").matcher(lines.get(k));
            if (head.matches() && !lines.get(k).matches(" +(if|for|while|switch|\\}).*")) {
                int end = k + lines.subList(k, lines.size()).indexOf(head.group(1) + "}");
                Check.due(lines.get(k).trim() + " ends within sixty lines", end > k && end - k < 60, true);
                methods++;
            }
        }
        Check.due("methods are found", methods > FACE.length, true);
    }
}
