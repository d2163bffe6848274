import java.lang.reflect.InvocationTargetException;
import java.lang.reflect.Method;
import java.lang.reflect.Modifier;
import java.util.ArrayList;
import java.util.Comparator;
import java.util.List;

/**
 * What the tests that go by the document's sentences share. Each test is a method without parameters; what
 * it prints when something is not as due begins with its name and the sentence that it is of.
 */
abstract class Bench {
    static final String INDEX = "IndexOutOfBoundsException";
    static final String ARGUMENT = "IllegalArgumentException";
    static final String STATE = "IllegalStateException";
    static final int NONE = -9;

    /** Three words in two sentences with a free line, two entries, a save slot, five remembered states. */
    static final String[] RICH = {
        "type kita-na=s:see-x=pl a b:c", "load()", "learn(0, 0)", "learn(2, 0)", "type Free line!", "setFree(1)",
        "save(0)", "set(9, 20)", "set(10, 1)",
    };

    /** Calls that tell the text and what is in the save slots. */
    private static final String[] LATER = {
        "errorPosition()", "setFree(0)", "insert(0)", "clearText()", "restore(0)", "restore(1)",
    };

    private final Checks checks;
    private Sheet sheet = Sheet.after();
    private String name = "";
    private String told = "";

    Bench(String all) {
        checks = new Checks(all);
    }

    /** Runs all tests, in the order of their names; each must check something. */
    final void runAll() {
        for (Method test : tests()) {
            name = test.getName();
            told = name;
            int before = checks.count();
            try {
                test.invoke(this);
            } catch (InvocationTargetException e) {
                same("the test", e.getCause(), "one that runs");
            } catch (IllegalAccessException e) {
                same("the test", e, "one that runs");
            }
            same("whether something is checked", checks.count() > before, true);
        }
        checks.close();
    }

    private List<Method> tests() {
        List<Method> tests = new ArrayList<>();
        for (Method method : getClass().getDeclaredMethods()) {
            int modifiers = method.getModifiers();
            boolean isOpen = !Modifier.isPrivate(modifiers) && !Modifier.isStatic(modifiers);
            if (isOpen && method.getParameterCount() == 0) {
                tests.add(method);
            }
        }
        tests.sort(Comparator.comparing(Method::getName));
        return tests;
    }

    // ---- what is told and compared

    /** Tells which promise or term a test is of, and its sentence, in the document's words. */
    final void says(String place, String sentence) {
        told = name + " (" + place + ", \"" + sentence + "\")";
    }

    final void same(String what, Object got, Object due) {
        checks.same(told + ": " + what, got, due);
    }

    /** Begins anew, with a new object and some steps. */
    final void on(String... steps) {
        sheet = Sheet.after(steps);
    }

    final void step(String step) {
        sheet.step(step);
    }

    final String ask(String call) {
        return sheet.ask(call);
    }

    final void due(String call, Object due) {
        same(call, sheet.ask(call), due);
    }

    final void dueNumbers(String due) {
        same("about(0) to about(11)", sheet.numbers().trim(), due);
    }

    final void dueRows(String... rows) {
        same("the rows", sheet.rows(), rows.length == 0 ? "" : String.join("\n", rows) + "\n");
    }

    final void duePart(int i, int p, String due) {
        same("part " + p + " of word " + i, sheet.partShown(i, p), due);
    }

    final void dueEntries(String... due) {
        StringBuilder entries = new StringBuilder();
        int size = Integer.parseInt(sheet.ask("about(7)"));
        for (int e = 0; e < size; e++) {
            entries.append(e == 0 ? "" : " ").append(sheet.entryShown(e));
        }
        same("the lexicon", entries, String.join(" ", due));
    }

    /** The kind, the length and the sentence of each row. */
    final void dueRowNumbers(String... dues) {
        due("about(5)", dues.length);
        for (int r = 0; r < dues.length; r++) {
            String row = "row(" + r + ", ";
            String numbers = sheet.ask(row + "0)") + " " + sheet.ask(row + "1)") + " " + sheet.ask(row + "2)");
            same(row + "0 to 2)", numbers, dues[r]);
        }
    }

    /** All of the state that calls can tell, with the rows of free lines alone. */
    final String state() {
        return sheet.state();
    }

    // ---- calls that change nothing

    /** A call behind some steps throws an exception, and all that can be asked then is as without it. */
    final void refuses(String call, String exception, String... steps) {
        Sheet[] twins = twins(call, exception, steps);
        alike(call, twins[0].state() + twins[0].rows(), twins[1].state() + twins[1].rows());
        twins = twins(call, exception, steps);
        for (int k = 0; k < 15; k++) {
            alike(call, twins[0].ask("undo()") + twins[0].numbers(), twins[1].ask("undo()") + twins[1].numbers());
        }
        for (String later : LATER) {
            twins = twins(call, exception, steps);
            alike(call, twins[0].ask(later) + twins[0].state(), twins[1].ask(later) + twins[1].state());
        }
    }

    /** A call answers, changes nothing, and is no action. */
    final void onlyTells(String call, String due, String... steps) {
        refuses(call, due, steps);
    }

    private Sheet[] twins(String call, String due, String... steps) {
        Sheet[] twins = {Sheet.after(steps), Sheet.after(steps)};
        same(call, twins[0].ask(call), due);
        return twins;
    }

    private void alike(String call, String with, String without) {
        same("what is there behind " + call, with, without);
    }

    // ---- steps

    static String[] and(String[] steps, String... more) {
        String[] all = new String[steps.length + more.length];
        System.arraycopy(steps, 0, all, 0, steps.length);
        System.arraycopy(more, 0, all, steps.length, more.length);
        return all;
    }

    /** Steps that load the words of a text. */
    static String[] loaded(String words, String... more) {
        return and(new String[] {"type " + words, "load()"}, more);
    }

    /** Steps that load twelve words of one part, a to l, each with its letter as its gloss. */
    static String[] twelve(String... more) {
        return loaded("a:a b:b c:c d:d e:e f:f g:g h:h i:i j:j k:k l:l", more);
    }

    /** Steps that make the largest page: twelve words of four parts, a to d, a gap as the last one of each. */
    static String[] largest(String... more) {
        String[] steps = loaded("a-b-c-d:x-y-z- a-b-c-d:x-y-z- a-b-c-d:x-y-z-", "insert(0)", "insert(0)", "insert(0)");
        return and(steps, more);
    }

    /** Steps that fill the lexicon with the sixteen parts a to p, and leave the words q:q and e:f. */
    static String[] fullLexicon(String... more) {
        String[] steps = loaded("a-b-c-d:a-b-c-d e-f-g-h:e-f-g-h i-j-k-l:i-j-k-l", "type m-n-o-p:m-n-o-p", "insert(3)");
        for (int i = 0; i < 4; i++) {
            for (int p = 0; p < 4; p++) {
                steps = and(steps, "learn(" + i + ", " + p + ")");
            }
        }
        steps = and(steps, "remove(0)", "remove(0)", "remove(0)", "remove(0)", "type q:q e:f", "insert(0)");
        return and(steps, more);
    }
}
