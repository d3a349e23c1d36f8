import java.io.IOException;
import java.lang.reflect.Constructor;
import java.lang.reflect.Field;
import java.lang.reflect.Method;
import java.lang.reflect.Modifier;
import java.nio.file.Files;
import java.nio.file.Path;
import java.util.Arrays;
import java.util.HashSet;
import java.util.List;
import java.util.Set;
import java.util.TreeSet;

/** The class's face is the document's, and the source keeps to what LANGUAGE.md leaves where that can be seen by words. */
public final class FaceTest {
    private static final String[] FACE = {
        "boolean feed(int,int,int,int,int)", "int schema(int)", "int count(int)", "int field(int,int)", "int letter(int,int)",
        "int column(int)", "int find(int,int)", "int record(int)", "void begin()", "int add(int,int,long)",
        "int addText(int,int,int)", "int nodes()", "int node(int,int)", "long value(int)", "int textByte(int,int)",
        "boolean isWhole()", "int write()", "int output(int)",
    };
    private static final String[] RULED_OUT = {
        "try", "catch", "finally", "throw", "throws", "synchronized", "assert", "->", "::", "Exact", "@", "System.out", "while (true)",
    };

    public static void main(String[] args) throws IOException {
        members();
        classesInside();
        source();
        Check.end();
    }

    private static void members() {
        Class<?> face = SchemaRecords.class;
        Check.due("public final", Modifier.isPublic(face.getModifiers()) && Modifier.isFinal(face.getModifiers()), true);
        Constructor<?>[] made = face.getDeclaredConstructors();
        Check.due("constructors", made.length, 1);
        Check.due("constructor's parameters", made[0].getParameterCount(), 0);
        Check.due("constructor is public", Modifier.isPublic(made[0].getModifiers()), true);
        Set<String> seen = new TreeSet<>();
        for (Method method : face.getDeclaredMethods()) {
            if (!Modifier.isPrivate(method.getModifiers())) {
                Check.due(method + " is public", Modifier.isPublic(method.getModifiers()), true);
                seen.add(shown(method));
            }
        }
        Check.due("methods", seen.toString(), new TreeSet<>(List.of(FACE)).toString());
        for (Field field : face.getDeclaredFields()) {
            boolean isNone = field.getName().equals("NONE");
            Check.due(field + " is private", Modifier.isPrivate(field.getModifiers()), !isNone);
            Check.due(field + " is not static, or final",
                !Modifier.isStatic(field.getModifiers()) || Modifier.isFinal(field.getModifiers()), true);
        }
    }

    private static String shown(Method method) {
        StringBuilder text = new StringBuilder(method.getReturnType().getName());
        text.append(' ').append(method.getName()).append('(');
        String[] types = Arrays.stream(method.getParameterTypes()).map(Class::getName).toArray(String[]::new);
        return text.append(String.join(",", types)).append(')').toString();
    }

    private static void classesInside() {
        Set<String> publicNames = new HashSet<>();
        for (String line : FACE) {
            publicNames.add(line.substring(line.indexOf(' ') + 1, line.indexOf('(')));
        }
        Class<?>[] inside = SchemaRecords.class.getDeclaredClasses();
        Check.due("at most twelve classes", inside.length + 1 <= 12, true);
        for (Class<?> one : inside) {
            Check.due(one + " is private", Modifier.isPrivate(one.getModifiers()), true);
            Check.due(one + " is static", Modifier.isStatic(one.getModifiers()), true);
            for (Method method : one.getDeclaredMethods()) {
                Check.due(method + " bears a name of the face", publicNames.contains(method.getName()), false);
                Check.due(method + " takes at most seven", method.getParameterCount() <= 7, true);
            }
        }
    }

    private static void source() throws IOException {
        String text = Files.readString(Path.of("src/main/java/SchemaRecords.java"));
        String code = text.replaceAll("(?s)/\\*.*?\\*/", "").replaceAll("//[^\n]*", "");
        for (String word : RULED_OUT) {
            String pattern = Character.isLetter(word.charAt(0)) && !word.equals("Exact")
                ? "(?s).*\\b" + java.util.regex.Pattern.quote(word) + "(?![A-Za-z]).*"
                : "(?s).*" + java.util.regex.Pattern.quote(word) + ".*";
            Check.due("the source has " + word, code.matches(pattern), false);
        }
        Check.due("the source has a package line", code.matches("(?s).*\\bpackage\\b.*"), false);
        Check.due("the source imports only Arrays",
            code.replace("import java.util.Arrays;", "").matches("(?s).*\\bimport\\b.*"), false);
    }
}
