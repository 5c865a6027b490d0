import java.io.IOException;
import java.lang.reflect.Constructor;
import java.lang.reflect.Field;
import java.lang.reflect.Method;
import java.lang.reflect.Modifier;
import java.nio.file.Files;
import java.nio.file.Path;
import java.util.ArrayList;
import java.util.List;
import java.util.TreeSet;

/** The public face of the document, and those rules of LANGUAGE.md that a test can see. */
public final class FaceTest {
    private static final Due due = new Due("FaceTest");

    public static void main(String[] args) throws IOException {
        faceOfTheDocument();
        nothingElseIsVisible();
        noPrivateMethodBearsAFaceName();
        staticFieldsAreFinal();
        classesAreFewAndSmall();
        wordsThatTheLanguageLeavesOut();
        due.finish();
    }

    /** Each public line of the document's java block, without its semicolon. */
    private static TreeSet<String> documentedFace() throws IOException {
        TreeSet<String> face = new TreeSet<>();
        boolean inFace = false;
        for (String line : Files.readAllLines(Path.of("../shared/DOC.md"))) {
            if (line.startsWith("public final class GlidingContest")) {
                inFace = true;
            } else if (line.equals("}")) {
                inFace = false;
            } else if (inFace && line.startsWith("    public ")) {
                face.add(line.strip().replace(";", "")
                        .replaceAll("\\b(int|char) \\w+([,)])", "$1$2"));
            }
        }
        return face;
    }

    private static String signature(String head, Class<?>[] parameters, Class<?>[] exceptions) {
        List<String> types = new ArrayList<>();
        for (Class<?> parameter : parameters) {
            types.add(parameter.getSimpleName());
        }
        List<String> thrown = new ArrayList<>();
        for (Class<?> exception : exceptions) {
            thrown.add(exception.getSimpleName());
        }
        String end = thrown.isEmpty() ? "" : " throws " + String.join(", ", thrown);
        return "public " + head + "(" + String.join(", ", types) + ")" + end;
    }

    private static void faceOfTheDocument() throws IOException {
        TreeSet<String> face = new TreeSet<>();
        for (Method method : GlidingContest.class.getDeclaredMethods()) {
            if (Modifier.isPublic(method.getModifiers())) {
                face.add(signature(method.getReturnType().getSimpleName() + " " + method.getName(),
                        method.getParameterTypes(), method.getExceptionTypes()));
            }
        }
        for (Constructor<?> constructor : GlidingContest.class.getDeclaredConstructors()) {
            face.add(signature("GlidingContest", constructor.getParameterTypes(),
                    constructor.getExceptionTypes()));
        }
        due.answer("the number of the promises", face.size(), 55);
        due.answer("the face", face, documentedFace());
        int modifiers = GlidingContest.class.getModifiers();
        due.answer("public", Modifier.isPublic(modifiers), true);
        due.answer("final", Modifier.isFinal(modifiers), true);
    }

    private static void nothingElseIsVisible() {
        for (Method method : GlidingContest.class.getDeclaredMethods()) {
            int modifiers = method.getModifiers();
            due.answer("visibility of " + method,
                    Modifier.isPublic(modifiers) || Modifier.isPrivate(modifiers), true);
        }
        for (Field field : GlidingContest.class.getDeclaredFields()) {
            due.answer("private " + field, Modifier.isPrivate(field.getModifiers()), true);
        }
        for (Class<?> inside : GlidingContest.class.getDeclaredClasses()) {
            int modifiers = inside.getModifiers();
            due.answer("static " + inside, Modifier.isStatic(modifiers), true);
            due.answer("not public " + inside, Modifier.isPublic(modifiers), false);
            due.answer("not protected " + inside, Modifier.isProtected(modifiers), false);
        }
    }

    private static void noPrivateMethodBearsAFaceName() {
        TreeSet<String> names = new TreeSet<>();
        for (Method method : GlidingContest.class.getDeclaredMethods()) {
            if (Modifier.isPublic(method.getModifiers())) {
                names.add(method.getName());
            }
        }
        for (Class<?> inside : classes()) {
            for (Method method : inside.getDeclaredMethods()) {
                boolean ofFace = Modifier.isPublic(method.getModifiers());
                due.answer("the name of " + method, !ofFace && names.contains(method.getName()),
                        false);
            }
        }
    }

    private static List<Class<?>> classes() {
        List<Class<?>> classes = new ArrayList<>();
        classes.add(GlidingContest.class);
        classes.addAll(List.of(GlidingContest.class.getDeclaredClasses()));
        return classes;
    }

    private static void staticFieldsAreFinal() {
        for (Class<?> inside : classes()) {
            for (Field field : inside.getDeclaredFields()) {
                int modifiers = field.getModifiers();
                boolean changeable = Modifier.isStatic(modifiers) && !Modifier.isFinal(modifiers);
                due.answer("a changeable static field " + field, changeable, false);
            }
        }
    }

    private static void classesAreFewAndSmall() {
        due.answer("at most twelve classes", classes().size() <= 12, true);
        for (Class<?> inside : classes()) {
            int fields = 0;
            for (Field field : inside.getDeclaredFields()) {
                fields += Modifier.isStatic(field.getModifiers()) ? 0 : 1;
            }
            due.answer("at most twenty fields of " + inside, fields <= 20, true);
            for (Method method : inside.getDeclaredMethods()) {
                due.answer("at most seven parameters of " + method,
                        method.getParameterCount() <= 7, true);
            }
        }
    }

    private static void wordsThatTheLanguageLeavesOut() throws IOException {
        Path file = Path.of("src/main/java/GlidingContest.java");
        for (String line : Files.readAllLines(file)) {
            String code = line.replaceAll("\"[^\"]*\"", "\"\"").replaceAll("//.*", "");
            boolean comment = code.strip().startsWith("*") || code.strip().startsWith("/*");
            if (comment) {
                continue;
            }
            boolean leftOut = code.matches(".*(->|::|@|\\b(package|finally|synchronized|assert|"
                    + "catch|protected|volatile|native|Random|System\\.(?!arraycopy)|"
                    + "equals|hashCode|toString)\\b).*");
            due.answer("a word left out in " + line, leftOut, false);
            boolean otherImport = code.startsWith("import")
                    && !code.equals("import java.util.NoSuchElementException;");
            due.answer("another import in " + line, otherImport, false);
            due.answer("characters up to 127 in " + line,
                    line.chars().allMatch(character -> character < 128), true);
        }
    }
}
