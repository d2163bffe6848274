import java.util.ArrayList;
import java.util.List;
import java.util.Random;

/** Long runs of calls, made from fixed seeds, on a GlossRows and on the Model: all answers must be the same. */
public final class ModelTests {
    private static final int RUNS = 3000;
    private static final int CALLS_ENOUGH = 430;

    private final Random random;
    private final String alphabet;
    private final int longest;
    private final Sheet sheet = new Sheet(new GlossRows());
    private final Sheet model = new Sheet(new Model());
    private final List<String> told = new ArrayList<>();
    private boolean differs = false;

    /** Few letters make parts that meet in the lexicon; long parts make words that stick out. */
    private ModelTests(long seed) {
        random = new Random(seed);
        alphabet = random.nextInt(3) == 0 ? "abcdefghijklmnopqrstuvwxyz" : "abz";
        longest = 1 + random.nextInt(8);
    }

    public static void main(String[] args) {
        Checks checks = new Checks("ModelTests");
        for (int seed = 0; seed < RUNS; seed++) {
            checks.same("the run of the seed " + seed, new ModelTests(seed).run(), "the same");
        }
        checks.close();
    }

    private String run() {
        while (!differs && sheet.calls() < CALLS_ENOUGH) {
            if (random.nextInt(6) == 0) {
                type(someText());
            } else {
                both(someCall());
            }
        }
        return differs ? "something else: " + told : "the same";
    }

    private void both(String call) {
        String due = model.ask(call);
        String got = sheet.ask(call);
        told.add(call + "=" + got);
        if (!got.equals(due)) {
            differs = true;
            told.add("due is " + due);
        }
    }

    private void type(String text) {
        if (random.nextInt(8) > 0) {
            both("clearText()");
        }
        // A little more than the text holds, so that it is full at times.
        for (char c : text.substring(0, Math.min(text.length(), 62)).toCharArray()) {
            both("append(" + (int) c + ")");
        }
        both(random.nextInt(4) == 0 ? "load()" : "errorPosition()");
    }

    // ---- texts

    private String someText() {
        switch (random.nextInt(8)) {
            case 0: return someGloss();
            case 1: return someFree();
            case 2: return spoilt(someWords(1 + random.nextInt(3)));
            case 3: return random.nextInt(3) == 0 ? someWords(11 + random.nextInt(3)) : "";
            default: return someWords(1 + random.nextInt(4));
        }
    }

    private String someWords(int count) {
        StringBuilder words = new StringBuilder();
        for (int i = 0; i < count; i++) {
            words.append(i == 0 ? "" : " ").append(count > 10 ? someLetters(1) : someWord());
        }
        return words.toString();
    }

    private String someWord() {
        int size = 1 + random.nextInt(random.nextInt(8) == 0 ? 5 : 3);
        boolean glossed = random.nextInt(4) > 0;
        StringBuilder parts = new StringBuilder();
        StringBuilder glosses = new StringBuilder(":");
        for (int p = 0; p < size; p++) {
            String mark = p == 0 ? "" : random.nextBoolean() ? "-" : "=";
            parts.append(mark).append(someLetters(longest));
            glosses.append(mark).append(random.nextInt(3) == 0 ? "" : someGloss());
        }
        return glossed ? parts.append(glosses).toString() : parts.toString();
    }

    private String someLetters(int most) {
        StringBuilder letters = new StringBuilder();
        int length = 1 + random.nextInt(random.nextInt(30) == 0 ? 9 : most);
        for (int k = 0; k < length; k++) {
            letters.append(alphabet.charAt(random.nextInt(alphabet.length())));
        }
        return letters.toString();
    }

    private String someGloss() {
        String gloss = someLetters(longest);
        return random.nextInt(4) == 0 ? gloss.replace('a', '.') : gloss;
    }

    private String someFree() {
        StringBuilder free = new StringBuilder();
        int length = random.nextInt(27);
        for (int k = 0; k < length; k++) {
            free.append((char) (32 + random.nextInt(95)));
        }
        if (random.nextInt(5) == 0) {
            free.append((char) (random.nextBoolean() ? 31 : 127));
        }
        return free.toString();
    }

    private String spoilt(String words) {
        StringBuilder spoilt = new StringBuilder(words);
        String signs = " :-=.aZ`{*\n\u00ff";
        int place = random.nextInt(words.length());
        char sign = signs.charAt(random.nextInt(signs.length()));
        if (random.nextBoolean()) {
            spoilt.setCharAt(place, sign);
        } else {
            spoilt.insert(place, sign);
        }
        return spoilt.toString();
    }

    // ---- calls

    private String someCall() {
        return random.nextInt(5) < 3 ? someQuestion() : someAction();
    }

    private String someAction() {
        switch (random.nextInt(16)) {
            case 0:
            case 1: return call("insert", wordOrOff());
            case 2: return random.nextInt(3) == 0 ? call("remove", wordOrOff()) : call("fillGaps");
            case 3: return call("end", wordOrOff());
            case 4: return call("join", wordOrOff());
            case 5:
            case 6: return call("setFree", wordOrOff());
            case 7: return call("setGloss", wordOrOff(), partOrOff());
            case 8: return call("set", number(8, 12), number(-1, 4));
            case 9: return call("set", 9, random.nextInt(4) == 0 ? number(9, 61) : number(10, 25));
            case 10:
            case 11:
            case 12: return call("learn", wordOrOff(), partOrOff());
            case 13: return random.nextInt(3) == 0 ? call("forget", number(-1, 16)) : call("fillGaps");
            case 14: return call("undo");
            default: return random.nextInt(3) == 0 ? call("restore", number(-1, 2)) : call("save", number(-1, 2));
        }
    }

    private String someQuestion() {
        switch (random.nextInt(16)) {
            case 0: return call("about", number(-1, 12));
            case 1: return call("about", number(0, 11));
            case 2: return call("word", wordOrOff(), number(-1, 8));
            case 3: return call("part", wordOrOff(), partOrOff(), number(-1, 4));
            case 4: return letterCall("letter(" + wordOrOff() + ", " + partOrOff());
            case 5: return letterCall("entry(" + number(-1, 16));
            case 6: return call("row", rowOrOff(), number(-1, 3));
            case 7:
            case 8:
            case 9: return call("at", rowOrOff(), number(-1, 40));
            case 10: return call("gap", number(-1, 20));
            case 11: return call("mostUsed");
            case 12: return call("widthFor", number(-1, random.nextInt(4) == 0 ? 100 : 12));
            case 13: return random.nextBoolean() ? call("empty") : call("rowsWith", number(9, 61), number(-1, 2));
            case 14: return someScript();
            default: return "simulate(" + random.nextLong() + ", " + number(0, 100) + ")";
        }
    }

    private String letterCall(String begin) {
        return begin + ", " + random.nextBoolean() + ", " + number(-1, 8) + ")";
    }

    private String someScript() {
        int n = number(1, 4);
        long script = 0;
        for (int k = 0; k < n; k++) {
            script = script * 10000 + someCommand();
        }
        if (random.nextInt(30) == 0) {
            script = random.nextBoolean() ? -script : script * 10;
        }
        return "runScript(" + (random.nextInt(30) == 0 ? number(-1, 6) : n) + ", " + script + ")";
    }

    private int someCommand() {
        if (random.nextInt(20) == 0) {
            return random.nextInt(10000);
        }
        switch (random.nextInt(9)) {
            case 0: return 1000 + number(8, 62);
            case 1: return 2000 + number(0, 2);
            case 2: return 3000 + number(0, 6);
            case 3: return 4000 + number(0, 6);
            case 4: return 5000 + number(0, 4);
            case 5: return 6000 + 100 * number(0, 2) + number(0, 4);
            case 6: return 7000 + number(0, 1);
            case 7: return 8000 + number(0, 14);
            default: return 9000 + Math.max(0, Integer.parseInt(model.ask("about(2)")) - number(0, 1));
        }
    }

    private static String call(String name, int... numbers) {
        StringBuilder call = new StringBuilder(name).append('(');
        for (int k = 0; k < numbers.length; k++) {
            call.append(k == 0 ? "" : ", ").append(numbers[k]);
        }
        return call.append(')').toString();
    }

    private int wordOrOff() {
        return random.nextInt(5) == 0 ? number(-1, 13) : number(0, 3);
    }

    private int partOrOff() {
        return random.nextInt(5) == 0 ? number(-1, 4) : number(0, 1);
    }

    private int rowOrOff() {
        return random.nextInt(4) == 0 ? number(-1, 61) : number(0, 7);
    }

    private int number(int least, int most) {
        return least + random.nextInt(most - least + 1);
    }
}
