import java.lang.reflect.Field;
import java.lang.reflect.Method;
import java.lang.reflect.Modifier;
import java.nio.file.Files;
import java.nio.file.Path;
import java.util.ArrayList;
import java.util.List;
import java.util.TreeSet;
import java.util.stream.Collectors;
import java.util.stream.Stream;

/** The face is that of the document to the letter, and the program keeps to what LANGUAGE.md says of it. */
public final class FaceTest {

    private static final Path DOCUMENT = Path.of("../shared/DOC.md");
    private static final Path PROGRAM = Path.of("src/main/java/NotaryKiosk.java");

    public static void main(String[] args) throws Exception {
        methodsAreThoseOfTheDocument();
        nothingElseIsSeenFromOutside();
        noPrivateMethodBearsAPublicName();
        sourceKeepsToTheLanguage();
        classesAreFewAndSmall();
        Expect.end("FaceTest");
    }

    private static void methodsAreThoseOfTheDocument() throws Exception {
        TreeSet<String> want = new TreeSet<>();
        for (String line : Files.readAllLines(DOCUMENT)) {
            String told = line.strip();
            if (told.startsWith("public ") && told.endsWith(";") && !told.contains("NotaryKiosk()")) {
                want.add(told.replaceAll("(int) \\w+(?=[,)])", "$1").replace(";", ""));
            }
        }
        TreeSet<String> got = new TreeSet<>();
        for (Method method : NotaryKiosk.class.getDeclaredMethods()) {
            if (Modifier.isPublic(method.getModifiers())) {
                got.add(declared(method));
            }
        }
        Expect.is("face: 41 methods", want.size(), 41);
        Expect.is("face", String.join("\n", got), String.join("\n", want));
    }

    private static String declared(Method method) {
        String types = names(method.getParameterTypes());
        String thrown = names(method.getExceptionTypes());
        return "public " + method.getReturnType().getSimpleName() + " " + method.getName() + "(" + types + ")"
                + (thrown.isEmpty() ? "" : " throws " + thrown);
    }

    private static String names(Class<?>[] types) {
        return Stream.of(types).map(Class::getSimpleName).collect(Collectors.joining(", "));
    }

    private static void nothingElseIsSeenFromOutside() {
        Class<NotaryKiosk> face = NotaryKiosk.class;
        Expect.is("face: public and final", Modifier.toString(face.getModifiers()), "public final");
        Expect.is("face: one constructor", face.getDeclaredConstructors().length, 1);
        Expect.is("face: public constructor", face.getConstructors().length, 1);
        Expect.is("face: without arguments", face.getConstructors()[0].getParameterCount(), 0);
        for (Field field : face.getDeclaredFields()) {
            Expect.is("face: private " + field.getName(), Modifier.isPrivate(field.getModifiers()), true);
            boolean constant = !Modifier.isStatic(field.getModifiers()) || Modifier.isFinal(field.getModifiers());
            Expect.is("face: no static state " + field.getName(), constant, true);
        }
        for (Method method : face.getDeclaredMethods()) {
            boolean hidden = Modifier.isPrivate(method.getModifiers());
            Expect.is("face: " + method.getName(), hidden || Modifier.isPublic(method.getModifiers()), true);
        }
        for (Class<?> inside : face.getDeclaredClasses()) {
            Expect.is("face: static " + inside.getName(), Modifier.isStatic(inside.getModifiers()), true);
            Expect.is("face: hidden " + inside.getName(), Modifier.isPrivate(inside.getModifiers()), true);
        }
    }

    private static void noPrivateMethodBearsAPublicName() {
        TreeSet<String> names = new TreeSet<>();
        for (Method method : NotaryKiosk.class.getMethods()) {
            names.add(method.getName());
        }
        List<Class<?>> all = new ArrayList<>(List.of(NotaryKiosk.class.getDeclaredClasses()));
        all.add(NotaryKiosk.class);
        for (Class<?> one : all) {
            for (Method method : one.getDeclaredMethods()) {
                boolean face = one == NotaryKiosk.class && Modifier.isPublic(method.getModifiers());
                Expect.is("language 1: " + method, face || !names.contains(method.getName()), true);
            }
        }
    }

    private static void sourceKeepsToTheLanguage() throws Exception {
        String source = Files.readString(PROGRAM);
        Expect.is("one public class", source.split("public final class").length, 2);
        Expect.is("plain signs", source.chars().allMatch(sign -> sign == '\n' || sign >= 32 && sign < 127), true);
        String[] refused = {
            "->", "::", "@", "synchronized", "assert", "finally", "catch", "instanceof", "package ", "Exact",
            "protected", "static {", "interface", "String", "long ", "double", "float", "var ", "Object", "hashCode",
            "while", "Random", "System.current", "System.nano", "System.out", "Thread", "File",
        };
        for (String word : refused) {
            Expect.is("without " + word, code(source).contains(word), false);
        }
        for (String line : source.split("\n")) {
            if (line.startsWith("import ")) {
                Expect.is(line, line.matches("import java.util.(ArrayList|Arrays);"), true);
            }
            Expect.is("short enough: " + line, line.length() <= 120, true);
        }
    }

    /** The source without comments and written texts. */
    private static String code(String source) {
        return source.replaceAll("\"[^\"\n]*\"", "\"\"").replaceAll("(?s)/\\*.*?\\*/", "").replaceAll("//[^\n]*", "");
    }

    private static void classesAreFewAndSmall() throws Exception {
        Class<?>[] inside = NotaryKiosk.class.getDeclaredClasses();
        Expect.is("language 11: classes", inside.length + 1 <= 12, true);
        for (Class<?> one : inside) {
            Expect.is("language 11: fields of " + one.getName(), one.getDeclaredFields().length <= 20, true);
            for (Method method : one.getDeclaredMethods()) {
                Expect.is("language 11: parameters of " + method, method.getParameterCount() <= 7, true);
            }
        }
        for (String indent : new String[] {"    ", "        "}) {
            methodsAreShort(indent, Files.readAllLines(PROGRAM));
        }
    }

    private static void methodsAreShort(String indent, List<String> lines) {
        int begun = -1;
        for (int at = 0; at < lines.size(); at++) {
            String line = lines.get(at);
            if (line.matches(indent + "\\w.*\\(.*") && !line.endsWith(";")) {
                begun = at;
            }
            if (line.equals(indent + "}") && begun >= 0) {
                Expect.is("language 11: lines from " + (begun + 1), at - begun <= 60, true);
                begun = -1;
            }
        }
    }

    private FaceTest() {
    }
}
