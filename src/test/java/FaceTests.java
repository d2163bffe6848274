import java.io.IOException;
import java.lang.reflect.Constructor;
import java.lang.reflect.Field;
import java.lang.reflect.Method;
import java.lang.reflect.Modifier;
import java.nio.file.Files;
import java.nio.file.Path;
import java.util.ArrayList;
import java.util.Arrays;
import java.util.List;
import java.util.TreeSet;
import java.util.regex.Matcher;
import java.util.regex.Pattern;

/** The face of the class as the document writes it, and what of LANGUAGE.md can be seen from outside. */
public final class FaceTests {
    private static final String I = "IndexOutOfBoundsException";
    private static final String A = "IllegalArgumentException";
    private static final String S = "IllegalStateException";

    private static final String[] FACE = {
        "append(int) " + A + " " + S, "clearText()", "errorPosition()", "load() " + S, "about(int) " + A,
        "word(int,int) " + I + " " + A, "part(int,int,int) " + I + " " + A, "letter(int,int,boolean,int) " + I + " " + A,
        "entry(int,boolean,int) " + I + " " + A, "row(int,int) " + I + " " + A, "at(int,int) " + I + " " + A,
        "insert(int) " + I + " " + S, "remove(int) " + I, "end(int) " + I, "join(int) " + I, "setFree(int) " + I + " " + S,
        "setGloss(int,int) " + I + " " + S, "set(int,int) " + A, "learn(int,int) " + I + " " + S, "forget(int) " + I,
        "fillGaps()", "undo() " + S, "gap(int) " + A, "mostUsed()", "widthFor(int) " + A, "empty()",
        "rowsWith(int,int) " + A, "runScript(int,long) " + A, "simulate(long,int) " + A, "save(int) " + I,
        "restore(int) " + I + " " + S,
    };

    /** What LANGUAGE.md rules out, as patterns of the source without its comments and texts. */
    private static final String[] RULED_OUT = {
        "(?m)^(?!\\s*(case|default)\\b).*->", "::", "\\bimport (?!java\\.util\\.\\w+;)", "\\bpackage\\b", "\\bsynchronized\\b",
        "\\bassert\\b", "\\bfinally\\b", "\\bstatic\\s*\\{", "\\bMath\\.\\w+Exact\\b", "\\bObject\\b",
        "\\bSystem\\.(?!arraycopy)", "\\.hashCode\\(", "\\.getMessage\\(", "\"\\s*\\+", "\\+\\s*\"",
        "\\bwhile\\s*\\(\\s*true\\s*\\)",
        "\\bcatch\\s*\\([^)]*\\b(ArrayIndexOutOfBounds|IndexOutOfBounds|NullPointer|Arithmetic|ClassCast|NegativeArraySize"
            + "|ArrayStore|Runtime)?(Exception|Throwable)\\b",
    };

    private final Checks checks = new Checks("FaceTests");

    public static void main(String[] args) throws IOException {
        FaceTests tests = new FaceTests();
        tests.checkFace();
        tests.checkClassesInside();
        tests.checkSource(Files.readString(Path.of(args[0])));
        tests.checks.close();
    }

    private void checkFace() {
        int modifiers = GlossRows.class.getModifiers();
        checks.holds("the class is public and final", Modifier.isPublic(modifiers) && Modifier.isFinal(modifiers));
        checks.same("the package", GlossRows.class.getPackageName(), "");
        List<String> face = new ArrayList<>();
        for (Method method : GlossRows.class.getDeclaredMethods()) {
            if (!Modifier.isPrivate(method.getModifiers())) {
                checks.same("the type of " + method.getName(), method.getReturnType(), int.class);
                checks.holds(method.getName() + " is public", Modifier.isPublic(method.getModifiers()));
                face.add(told(method));
            }
        }
        checks.same("the methods", new TreeSet<>(face), new TreeSet<>(Arrays.asList(FACE)));
        checks.same("the number of methods", face.size(), FACE.length);
        Constructor<?>[] constructors = GlossRows.class.getDeclaredConstructors();
        checks.same("the number of constructors", constructors.length, 1);
        checks.same("the constructor", constructors[0].toString(), "public GlossRows()");
        for (Field field : GlossRows.class.getDeclaredFields()) {
            boolean isNone = field.toString().equals("public static final int GlossRows.NONE");
            checks.holds("the field " + field.getName(), isNone || Modifier.isPrivate(field.getModifiers()));
        }
    }

    private static String told(Method method) {
        StringBuilder told = new StringBuilder(method.getName()).append('(');
        for (Class<?> type : method.getParameterTypes()) {
            told.append(told.charAt(told.length() - 1) == '(' ? "" : ",").append(type);
        }
        told.append(')');
        for (Class<?> exception : method.getExceptionTypes()) {
            told.append(' ').append(exception.getSimpleName());
        }
        return told.toString();
    }

    private void checkClassesInside() {
        TreeSet<String> names = new TreeSet<>();
        for (String method : FACE) {
            names.add(method.substring(0, method.indexOf('(')));
        }
        List<Class<?>> all = new ArrayList<>(List.of(GlossRows.class));
        all.addAll(Arrays.asList(GlossRows.class.getDeclaredClasses()));
        checks.holds("at most twelve classes", all.size() <= 12);
        for (Class<?> one : all) {
            int modifiers = one.getModifiers();
            checks.holds(one + " is static", one == GlossRows.class || Modifier.isStatic(modifiers));
            boolean isOpen = Modifier.isPublic(modifiers) || Modifier.isProtected(modifiers);
            checks.holds(one + " is hidden", one == GlossRows.class || !isOpen);
            for (Method method : one.getDeclaredMethods()) {
                boolean isHidden = Modifier.isPrivate(method.getModifiers());
                checks.holds(method + " has a name of its own", !isHidden || !names.contains(method.getName()));
                checks.holds(method + " has at most seven parameters", method.getParameterCount() <= 7);
            }
            for (Field field : one.getDeclaredFields()) {
                int kind = field.getModifiers();
                checks.holds(field + " is no changing static", !Modifier.isStatic(kind) || Modifier.isFinal(kind));
            }
        }
    }

    private void checkSource(String source) {
        String code = source.replaceAll("(?s)/\\*.*?\\*/", "").replaceAll("//[^\n]*", "").replaceAll("\"[^\"\n]*\"", "\"\"");
        for (String pattern : RULED_OUT) {
            Matcher matcher = Pattern.compile(pattern).matcher(code);
            checks.same("what the source has of " + pattern, matcher.find() ? matcher.group() : "nothing", "nothing");
        }
        checks.holds("signs 1 to 127 only", source.chars().allMatch(c -> c > 0 && c < 128));
        int begin = 0;
        String[] lines = code.split("\n");
        for (int k = 0; k < lines.length; k++) {
            if (lines[k].matches("(    |        )\\w.*\\) ?(throws [\\w, ]+)?\\{")) {
                begin = k;
            }
            if (lines[k].matches("(    |        )\\}")) {
                checks.holds("the method in line " + begin + " has at most sixty lines", k - begin < 60 || isClass(lines[begin]));
            }
        }
    }

    private static boolean isClass(String line) {
        return line.contains(" class ");
    }
}
