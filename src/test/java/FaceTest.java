import java.io.IOException;
import java.lang.reflect.Constructor;
import java.lang.reflect.Field;
import java.lang.reflect.Method;
import java.lang.reflect.Modifier;
import java.nio.file.Files;
import java.nio.file.Path;
import java.util.ArrayList;
import java.util.Arrays;
import java.util.List;
import java.util.Set;
import java.util.TreeSet;
import java.util.regex.Matcher;
import java.util.regex.Pattern;

/** The public face, and those rules of LANGUAGE.md that can be seen from outside a method. */
final class FaceTest {
    private static final Due DUE = new Due();
    private static final Path SOURCE = Path.of("src/main/java/CachehallDesk.java");

    private static final String[] FACE = {
        "int action(int, int, int, int, int, int) Argument State",
        "int file(int, int) Index Argument",
        "int set(int, int) Index Argument",
        "int ofAction(int, int) Index Argument",
        "int worker(int) Argument State",
        "int ofWorker(int, int) Index Argument",
        "int mend(int, int) Index Argument",
        "int team(int) Argument State",
        "int quota(int, int) Index Argument",
        "int ofTeam(int, int) Index Argument",
        "int build(int, int) Index State",
        "int check(int) Argument",
        "int recheck(int) Index State",
        "int ofEntry(int, int) Index Argument",
        "int from(int, int) Index",
        "int many(int) Argument",
        "double hitShare()",
        "int wouldRun(int, int) Index",
        "boolean wouldBeWrong(int, int) Index",
        "int touched(int) Index",
        "int wouldGo(int, int) Index Argument",
        "long digest()",
    };

    public static void main(String[] args) throws IOException {
        theFaceIsThatOfTheDocument();
        innerClassesAreStaticAndFew();
        noPrivateMethodBearsAPublicName();
        staticFieldsAreConstants();
        nothingIsMadeByACall();
        noForbiddenWords();
        DUE.end();
    }

    private static String told(Method method) {
        StringBuilder line = new StringBuilder(method.getReturnType() + " " + method.getName() + "(");
        for (Class<?> parameter : method.getParameterTypes()) {
            line.append(line.charAt(line.length() - 1) == '(' ? "" : ", ").append(parameter);
        }
        line.append(")");
        for (Class<?> thrown : method.getExceptionTypes()) {
            line.append(" ").append(thrown.getSimpleName().replaceAll("^Illegal|OutOfBounds|Exception$", ""));
        }
        return line.toString();
    }

    private static void theFaceIsThatOfTheDocument() {
        Class<?> face = CachehallDesk.class;
        DUE.is(Modifier.PUBLIC | Modifier.FINAL, face.getModifiers());
        DUE.is(1, face.getDeclaredConstructors().length);
        for (Constructor<?> made : face.getDeclaredConstructors()) {
            DUE.is("public CachehallDesk()", made.toString());
        }
        Set<String> found = new TreeSet<>();
        for (Method method : face.getDeclaredMethods()) {
            if (Modifier.isPublic(method.getModifiers())) {
                found.add(told(method));
            } else {
                DUE.is(true, Modifier.isPrivate(method.getModifiers()));
            }
        }
        DUE.is(new TreeSet<>(Arrays.asList(FACE)), found);
        for (Field field : face.getDeclaredFields()) {
            DUE.is(true, Modifier.isPrivate(field.getModifiers()));
        }
    }

    private static void innerClassesAreStaticAndFew() {
        Class<?>[] inner = CachehallDesk.class.getDeclaredClasses();
        DUE.is(true, inner.length < 12);
        for (Class<?> kind : inner) {
            DUE.is(Modifier.PRIVATE | Modifier.STATIC | Modifier.FINAL, kind.getModifiers());
            DUE.is(true, kind.getDeclaredFields().length <= 20);
            for (Method method : kind.getDeclaredMethods()) {
                DUE.is(true, method.getParameterCount() <= 7);
            }
        }
    }

    private static void noPrivateMethodBearsAPublicName() {
        Set<String> names = new TreeSet<>();
        for (String line : FACE) {
            names.add(line.replaceAll("^\\w+ (\\w+).*", "$1"));
        }
        List<Method> others = new ArrayList<>();
        for (Method method : CachehallDesk.class.getDeclaredMethods()) {
            if (!Modifier.isPublic(method.getModifiers())) {
                others.add(method);
            }
        }
        for (Class<?> kind : CachehallDesk.class.getDeclaredClasses()) {
            others.addAll(Arrays.asList(kind.getDeclaredMethods()));
        }
        for (Method method : others) {
            DUE.is(false, names.contains(method.getName()));
        }
    }

    private static void staticFieldsAreConstants() {
        List<Class<?>> kinds = new ArrayList<>(Arrays.asList(CachehallDesk.class.getDeclaredClasses()));
        kinds.add(CachehallDesk.class);
        for (Class<?> kind : kinds) {
            for (Field field : kind.getDeclaredFields()) {
                if (Modifier.isStatic(field.getModifiers())) {
                    DUE.is(true, Modifier.isFinal(field.getModifiers()));
                    DUE.is(true, field.getType().isPrimitive());
                }
            }
        }
    }

    /** The room for a run is counted: all arrays are made with the object, none by a call. */
    private static void nothingIsMadeByACall() throws IOException {
        Matcher made = Pattern.compile(".*\\bnew\\b.*").matcher(code());
        while (made.find()) {
            String line = made.group().trim();
            boolean byTheObject = line.startsWith("private final ") || line.startsWith("throw new ")
                    || line.equals("builder = new Builder();");
            if (!byTheObject) {
                DUE.tell("made by a call: " + line);
            }
        }
    }

    private static void noForbiddenWords() throws IOException {
        String[] words = {"import", "package", "->", "::", "\\btry\\b", "\\bcatch\\b", "\\bfinally\\b",
            "\\bassert\\b", "synchronized", "\\bprotected\\b", "\\binstanceof\\b", "Exact\\b", "\\bString\\b",
            "\\bequals\\b", "hashCode", "toString", "\\bSystem\\.(?!arraycopy)", "\\bMath\\.(?!max\\b|min\\b)",
            "\\bthis\\(", "\\bfloat\\b"};
        String code = code();
        for (String word : words) {
            DUE.is(false, Pattern.compile(word).matcher(code).find());
        }
    }

    private static String code() throws IOException {
        return Files.readString(SOURCE).replaceAll("(?m)//.*$", "");
    }
}
