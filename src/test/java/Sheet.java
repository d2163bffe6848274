import java.lang.reflect.InvocationTargetException;
import java.lang.reflect.Method;
import java.lang.reflect.Modifier;
import java.util.HashMap;
import java.util.Map;

/**
 * An object whose calls are written as a text, "letter(0, 1, true, 2)", and answer a text: the number,
 * or the name of the exception. The object is a GlossRows, or a Model with the same methods.
 */
final class Sheet {
    /** The document promises nothing about later calls. */
    static final int MOST_CALLS = 512;

    private final Object object;
    private final Map<String, Method> methods = new HashMap<>();
    private int calls = 0;

    Sheet(Object object) {
        this.object = object;
        for (Method method : object.getClass().getDeclaredMethods()) {
            if (Modifier.isPublic(method.getModifiers())) {
                methods.put(method.getName(), method);
            }
        }
    }

    /** A new GlossRows after some steps: calls, each of which must not throw, or "type TEXT". */
    static Sheet after(String... steps) {
        Sheet sheet = new Sheet(new GlossRows());
        for (String step : steps) {
            sheet.step(step);
        }
        return sheet;
    }

    void step(String step) {
        if (step.startsWith("type ")) {
            type(step.substring(5));
        } else if (ask(step).endsWith("Exception")) {
            throw new IllegalStateException("the step " + step + " throws");
        }
    }

    /** Makes a text the text of the buffer. */
    void type(String text) {
        ask("clearText()");
        for (char c : text.toCharArray()) {
            ask("append(" + (int) c + ")");
        }
    }

    int calls() {
        return calls;
    }

    String ask(String call) {
        if (++calls > MOST_CALLS) {
            throw new IllegalStateException("more than 512 calls");
        }
        String name = call.substring(0, call.indexOf('('));
        String inner = call.substring(call.indexOf('(') + 1, call.indexOf(')')).trim();
        Method method = methods.get(name);
        try {
            return String.valueOf(method.invoke(object, arguments(method, inner)));
        } catch (InvocationTargetException e) {
            return e.getCause().getClass().getSimpleName();
        } catch (IllegalAccessException e) {
            throw new IllegalStateException(e);
        }
    }

    private static Object[] arguments(Method method, String inner) {
        Class<?>[] types = method.getParameterTypes();
        String[] words = inner.isEmpty() ? new String[0] : inner.split(",");
        if (words.length != types.length) {
            throw new IllegalStateException(method.getName() + " with " + inner);
        }
        Object[] arguments = new Object[types.length];
        for (int k = 0; k < types.length; k++) {
            arguments[k] = argument(types[k], words[k].trim());
        }
        return arguments;
    }

    private static Object argument(Class<?> type, String word) {
        if (type == boolean.class) {
            return Boolean.valueOf(word);
        }
        if (type == long.class) {
            return Long.valueOf(word);
        }
        return Integer.valueOf(word);
    }

    /** What a row shows. */
    String rowShown(int r) {
        StringBuilder shown = new StringBuilder();
        String code = ask("at(" + r + ", 0)");
        for (int column = 1; !code.equals("-9") && column < 100; column++) {
            shown.append((char) Integer.parseInt(code));
            code = ask("at(" + r + ", " + column + ")");
        }
        return shown.toString();
    }

    /** What an entry of the lexicon says, as part:gloss. */
    String entryShown(int e) {
        return letters("entry(" + e + ", false, ") + ":" + letters("entry(" + e + ", true, ");
    }

    /** What a part and its gloss are, as part:gloss. */
    String partShown(int i, int p) {
        String place = "letter(" + i + ", " + p + ", ";
        return letters(place + "false, ") + ":" + letters(place + "true, ");
    }

    private String letters(String call) {
        StringBuilder letters = new StringBuilder();
        String code = ask(call + "0)");
        for (int k = 1; !code.equals("-9") && k < 20; k++) {
            letters.append((char) Integer.parseInt(code));
            code = ask(call + k + ")");
        }
        return letters.toString();
    }

    /** The numbers of the page. */
    String numbers() {
        StringBuilder all = new StringBuilder();
        for (int what = 0; what <= 11; what++) {
            all.append(ask("about(" + what + ")")).append(' ');
        }
        return all.toString();
    }

    /** All of the state that calls can tell, with the rows of free lines alone. */
    String state() {
        StringBuilder all = new StringBuilder(numbers());
        int words = Integer.parseInt(ask("about(0)"));
        for (int i = 0; i < words; i++) {
            int size = Integer.parseInt(ask("word(" + i + ", 0)"));
            all.append("| ").append(ask("word(" + i + ", 5)")).append(' ').append(ask("word(" + i + ", 7)"));
            for (int p = 0; p < size; p++) {
                all.append(' ').append(ask("part(" + i + ", " + p + ", 2)")).append(partShown(i, p));
            }
        }
        int entries = Integer.parseInt(ask("about(7)"));
        for (int e = 0; e < entries; e++) {
            all.append(" / ").append(entryShown(e));
        }
        int rows = Integer.parseInt(ask("about(5)"));
        for (int r = 0; r < rows; r++) {
            if (ask("row(" + r + ", 0)").equals("2")) {
                all.append(" \"").append(rowShown(r)).append('"');
            }
        }
        return all.toString();
    }

    /** All rows, one a line. */
    String rows() {
        StringBuilder all = new StringBuilder();
        int rows = Integer.parseInt(ask("about(5)"));
        for (int r = 0; r < rows; r++) {
            all.append(rowShown(r)).append('\n');
        }
        return all.toString();
    }
}
