import java.io.IOException;
import java.lang.reflect.Constructor;
import java.lang.reflect.Field;
import java.lang.reflect.Method;
import java.lang.reflect.Modifier;
import java.nio.file.Files;
import java.nio.file.Path;
import java.util.ArrayList;
import java.util.List;
import java.util.Set;
import java.util.TreeSet;
import java.util.regex.Matcher;
import java.util.regex.Pattern;

/** The rules of LANGUAGE.md that can be seen from the text and the face of the class. */
public final class LanguageTest {
    private static final String[] FACE = {
        "office int int", "tie int int int", "building int int", "late int int",
        "ready int int int", "limit int int", "folk int int int", "kind int int int",
        "row int int int", "set int int long", "copy int int int int int", "element int int",
        "show int int", "holds int", "desksIn int", "stay int boolean", "give int int",
        "gives int", "plan int", "wave int", "cut int", "cost", "legal", "begin", "next",
        "people int int", "town int", "law int", "fault", "vote int int int int int",
        "pay int int", "embassy int", "palace int", "plot int", "file int", "road int",
        "days int int", "status int"};
    private static final int LONGEST_METHOD = 60;

    private LanguageTest() {
    }

    public static void main(String[] args) throws IOException {
        Due.due("NONE", CapitalMoved.NONE, -1);
        face();
        noOtherMember();
        nestedClasses();
        namesOfMethods();
        text();
        library();
        methodsAreShort();
        Due.end();
    }

    private static void face() {
        Due.isTrue("public final", Modifier.isFinal(CapitalMoved.class.getModifiers())
                && Modifier.isPublic(CapitalMoved.class.getModifiers()));
        Set<String> want = new TreeSet<>(List.of(FACE));
        Set<String> got = new TreeSet<>();
        for (Method method : CapitalMoved.class.getDeclaredMethods()) {
            if (Modifier.isPublic(method.getModifiers())) {
                got.add(signature(method));
                Class<?> answer = method.getName().equals("element") ? long.class : int.class;
                Due.isTrue("answer of " + method, method.getReturnType() == answer);
            }
        }
        Due.isTrue("the face is " + got, got.equals(want));
    }

    private static String signature(Method method) {
        StringBuilder text = new StringBuilder(method.getName());
        for (Class<?> type : method.getParameterTypes()) {
            text.append(' ').append(type.getName());
        }
        return text.toString();
    }

    private static void noOtherMember() {
        for (Method method : CapitalMoved.class.getDeclaredMethods()) {
            int m = method.getModifiers();
            Due.isTrue("public or private: " + method, Modifier.isPublic(m) || Modifier.isPrivate(m));
        }
        for (Field field : CapitalMoved.class.getDeclaredFields()) {
            int m = field.getModifiers();
            Due.isTrue("private: " + field, Modifier.isPrivate(m) || field.getName().equals("NONE"));
            Due.isTrue("static is final: " + field, !Modifier.isStatic(m) || Modifier.isFinal(m));
        }
        Constructor<?>[] made = CapitalMoved.class.getDeclaredConstructors();
        Due.due("constructors", made.length, 1);
        Due.isTrue("public constructor", Modifier.isPublic(made[0].getModifiers()));
    }

    private static void nestedClasses() {
        Class<?>[] nested = CapitalMoved.class.getDeclaredClasses();
        Due.isTrue("some twelve classes", nested.length <= 12);
        for (Class<?> one : nested) {
            Due.isTrue("static: " + one, Modifier.isStatic(one.getModifiers()));
            int fields = 0;
            for (Field field : one.getDeclaredFields()) {
                int m = field.getModifiers();
                Due.isTrue("static is final: " + field, !Modifier.isStatic(m) || Modifier.isFinal(m));
                fields += Modifier.isStatic(m) ? 0 : 1;
            }
            Due.isTrue("some twenty fields: " + one, fields <= 20);
        }
    }

    private static void namesOfMethods() {
        Set<String> names = new TreeSet<>();
        for (String line : FACE) {
            names.add(line.split(" ")[0]);
        }
        List<Method> methods = new ArrayList<>();
        for (Method method : CapitalMoved.class.getDeclaredMethods()) {
            if (!Modifier.isPublic(method.getModifiers())) {
                methods.add(method);
            }
        }
        for (Class<?> one : CapitalMoved.class.getDeclaredClasses()) {
            methods.addAll(List.of(one.getDeclaredMethods()));
        }
        for (Method method : methods) {
            Due.isTrue("no public name: " + method, !names.contains(method.getName()));
            Due.isTrue("seven parameters: " + method, method.getParameterCount() <= 7);
        }
    }

    private static String program() throws IOException {
        return Files.readString(Path.of("src/main/java/CapitalMoved.java"));
    }

    private static String code() throws IOException {
        return program().replaceAll("(?s)/\\*.*?\\*/", "").replaceAll("//[^\n]*", "");
    }

    private static void text() throws IOException {
        String text = program();
        Due.isTrue("signs 1 to 127", text.chars().allMatch(c -> c >= 1 && c < 127));
        String code = code();
        String[] words = {"throw", "throws", "try", "catch", "finally", "synchronized", "assert",
            "import", "package", "protected", "Exception", "Error", "Object", "System\\.(?!arraycopy)",
            "Math\\.(?!abs|max|min)", "Thread", "Random", "->", "::", "equals", "hashCode",
            "toString", "yield", "var", "record", "sealed", "volatile", "transient", "native"};
        for (String word : words) {
            String pattern = Character.isLetter(word.charAt(0)) ? "\\b" + word : word;
            String whole = word.endsWith(")") || !Character.isLetter(word.charAt(0))
                    ? pattern : pattern + "\\b";
            Matcher found = Pattern.compile(whole).matcher(code);
            Due.isTrue("does not say " + word, !found.find());
        }
    }

    /** What stands behind the name of a class and a point: of the library only what is listed. */
    private static void library() throws IOException {
        Set<String> allowed = new TreeSet<>(List.of("System.arraycopy", "Math.abs", "Math.max", "Math.min"));
        Set<String> own = new TreeSet<>();
        for (Class<?> one : CapitalMoved.class.getDeclaredClasses()) {
            own.add(one.getSimpleName());
        }
        Matcher found = Pattern.compile("\\b([A-Z][a-z]\\w*)\\.(\\w+)").matcher(code());
        while (found.find()) {
            boolean is = own.contains(found.group(1)) || allowed.contains(found.group());
            Due.isTrue("of the library: " + found.group(), is);
        }
    }

    /** All objects are made by the field initialisers: a line with 'new' begins a field. */
    private static void methodsAreShort() throws IOException {
        int length = 0;
        int depth = 0;
        boolean inMethod = false;
        int methodDepth = 0;
        for (String line : code().split("\n")) {
            boolean begins = line.strip().endsWith(") {") && !inMethod
                    && line.strip().matches("(public|private|static|final|int|long|boolean|void)\\b.*");
            if (begins) {
                inMethod = true;
                methodDepth = depth;
                length = 0;
            }
            length++;
            depth += count(line, '{') - count(line, '}');
            if (inMethod) {
                Due.isTrue("makes nothing: " + line, !line.contains("new "));
            }
            if (inMethod && depth == methodDepth) {
                Due.isTrue("a short method, ending: " + length, length <= LONGEST_METHOD);
                inMethod = false;
            }
        }
        Due.due("braces", depth, 0);
    }

    private static int count(String line, char sign) {
        int n = 0;
        for (int i = 0; i < line.length(); i++) {
            n += line.charAt(i) == sign ? 1 : 0;
        }
        return n;
    }
}
