import java.util.ArrayList;
import java.util.Collections;
import java.util.LinkedHashMap;
import java.util.List;
import java.util.Map;
import java.util.NoSuchElementException;
import java.util.TreeMap;
import java.util.function.UnaryOperator;

/**
 * The document once more, written the other way round from GlossRows: states that never change, and
 * rows that are made as texts. ModelTests asks both the same.
 */
public final class Model {
    private static final int NONE = -9;

    private record Part(String letters, String gloss, String mark) {
        String shown() {
            return gloss.isEmpty() ? "*" : gloss;
        }
    }

    private record Word(List<Part> parts, boolean ended, String free) {
        /** The word as its two rows show it, both of its width. */
        String[] shown(int way) {
            StringBuilder upper = new StringBuilder();
            StringBuilder lower = new StringBuilder();
            for (Part part : parts) {
                upper.append(part.mark);
                lower.append(part.mark);
                upper.append(part.letters);
                lower.append(part.shown());
                if (way == 1) {
                    level(upper, lower);
                }
            }
            level(upper, lower);
            return new String[] {upper.toString(), lower.toString()};
        }

        int width(int way) {
            return shown(way)[0].length();
        }

        long gaps() {
            return parts.stream().filter(part -> part.gloss.isEmpty()).count();
        }

        Word withGloss(int p, String gloss) {
            List<Part> changed = new ArrayList<>(parts);
            changed.set(p, new Part(parts.get(p).letters, gloss, parts.get(p).mark));
            return new Word(changed, ended, free);
        }

        private static void level(StringBuilder upper, StringBuilder lower) {
            while (upper.length() < lower.length()) {
                upper.append(' ');
            }
            while (lower.length() < upper.length()) {
                lower.append(' ');
            }
        }
    }

    private record Row(int kind, String signs, int sentence) {
    }

    private record Place(int line, int column, int sentence) {
    }

    private record Set(List<Row> rows, List<Place> places, List<Integer> lineLengths) {
    }

    private record State(List<Word> words, TreeMap<String, String> lexicon, int width, int space, int way) {
        State withWords(List<Word> other) {
            return new State(other, lexicon, width, space, way);
        }

        State withLexicon(TreeMap<String, String> other) {
            return new State(words, other, width, space, way);
        }

        State withLook(int otherWidth, int otherSpace, int otherWay) {
            return new State(words, lexicon, otherWidth, otherSpace, otherWay);
        }

        State withWord(int i, UnaryOperator<Word> change) {
            List<Word> changed = new ArrayList<>(words);
            changed.set(i, change.apply(words.get(i)));
            return withWords(changed);
        }

        State without(int i) {
            List<Word> changed = new ArrayList<>(words);
            changed.remove(i);
            return withWords(changed);
        }

        State ended(int i) {
            return withWord(i, word -> new Word(word.parts, true, word.free));
        }

        State joined(int i) {
            return withWord(i, word -> new Word(word.parts, false, ""));
        }

        State filled() {
            State changed = this;
            for (int i = 0; i < words.size(); i++) {
                for (int p = 0; p < words.get(i).parts.size(); p++) {
                    Part part = words.get(i).parts.get(p);
                    if (part.gloss.isEmpty() && lexicon.containsKey(part.letters)) {
                        int place = p;
                        changed = changed.withWord(i, word -> word.withGloss(place, lexicon.get(part.letters)));
                    }
                }
            }
            return changed;
        }

        /** The state with one more gloss in the lexicon; null if it can't be learned. */
        State learned(int i, int p) {
            Part part = words.get(i).parts.get(p);
            TreeMap<String, String> changed = new TreeMap<>(lexicon);
            changed.put(part.letters, part.gloss);
            return part.gloss.isEmpty() || changed.size() > 16 ? null : withLexicon(changed);
        }

        boolean hasWord(int i) {
            return i >= 0 && i < words.size();
        }

        boolean hasPart(int i, int p) {
            return hasWord(i) && p >= 0 && p < words.get(i).parts.size();
        }

        int gaps() {
            return (int) words.stream().mapToLong(Word::gaps).sum();
        }

        int sentences() {
            long own = words.stream().filter(Word::ended).count();
            return (int) own + (words.isEmpty() || words.get(words.size() - 1).ended ? 0 : 1);
        }

        Set set() {
            Set set = new Set(new ArrayList<>(), new ArrayList<>(), new ArrayList<>());
            List<Word> sentence = new ArrayList<>();
            int number = 0;
            for (int i = 0; i < words.size(); i++) {
                sentence.add(words.get(i));
                if (words.get(i).ended || i == words.size() - 1) {
                    setSentence(set, sentence, number);
                    sentence.clear();
                    number++;
                }
            }
            return set;
        }

        private void setSentence(Set set, List<Word> sentence, int number) {
            String upper = "";
            String lower = "";
            for (Word word : sentence) {
                String[] shown = word.shown(way);
                boolean first = upper.isEmpty();
                if (!first && upper.length() + space + shown[0].length() > width) {
                    closeLine(set, upper, lower, number);
                    upper = "";
                    lower = "";
                    first = true;
                }
                String before = first ? "" : " ".repeat(space);
                upper += before;
                lower += before;
                set.places.add(new Place(set.lineLengths.size(), upper.length(), number));
                upper += shown[0];
                lower += shown[1];
            }
            closeLine(set, upper, lower, number);
            String free = sentence.get(sentence.size() - 1).free;
            for (int k = 0; k < free.length(); k += width) {
                set.rows.add(new Row(2, free.substring(k, Math.min(free.length(), k + width)), number));
            }
        }

        private static void closeLine(Set set, String upper, String lower, int number) {
            set.rows.add(new Row(0, upper, number));
            set.rows.add(new Row(1, lower, number));
            set.lineLengths.add(upper.length());
        }
    }

    private State state = fresh();
    private String text = "";
    private final List<State> remembered = new ArrayList<>();
    private final State[] slots = new State[2];

    private static State fresh() {
        return new State(List.of(), new TreeMap<>(), 30, 2, 1);
    }

    // ---- the text as words

    private static boolean isWords(String text) {
        String[] words = text.split(" ", -1);
        for (String word : words) {
            if (!isWord(word)) {
                return false;
            }
        }
        return words.length <= 12;
    }

    private static boolean isWord(String word) {
        int colon = word.indexOf(':');
        String parts = colon < 0 ? word : word.substring(0, colon);
        if (!parts.matches("[a-z]{1,8}([-=][a-z]{1,8}){0,3}")) {
            return false;
        }
        if (colon < 0) {
            return true;
        }
        String glosses = word.substring(colon + 1);
        return glosses.matches("[a-z.]{0,8}([-=][a-z.]{0,8}){0,3}")
            && glosses.replaceAll("[^-=]", "").equals(parts.replaceAll("[^-=]", ""));
    }

    /** Whether a text can begin words: something short makes it words then. */
    private static boolean beginsWords(String text) {
        List<String> rests = new ArrayList<>(List.of("", "a"));
        List<String> marks = List.of("");
        for (int n = 0; n < 3; n++) {
            List<String> longer = new ArrayList<>();
            for (String rest : marks) {
                Collections.addAll(longer, rest + "-", rest + "=");
            }
            rests.addAll(longer);
            marks = longer;
        }
        return rests.stream().anyMatch(rest -> isWords(text + rest));
    }

    private static List<Word> readWords(String text) {
        List<Word> words = new ArrayList<>();
        for (String word : text.split(" ")) {
            int colon = word.indexOf(':');
            String[] letters = (colon < 0 ? word : word.substring(0, colon)).split("[-=]", -1);
            String[] glosses = colon < 0 ? null : word.substring(colon + 1).split("[-=]", -1);
            List<Part> parts = new ArrayList<>();
            int behind = -1;
            for (int p = 0; p < letters.length; p++) {
                String mark = p == 0 ? "" : word.substring(behind, behind + 1);
                behind += 1 + letters[p].length();
                parts.add(new Part(letters[p], glosses == null ? "" : glosses[p], mark));
            }
            words.add(new Word(parts, false, ""));
        }
        return words;
    }

    // ---- what must hold

    private static void index(boolean so) {
        if (!so) {
            throw new IndexOutOfBoundsException();
        }
    }

    private static void argument(boolean so) {
        if (!so) {
            throw new IllegalArgumentException();
        }
    }

    private static void state(boolean so) {
        if (!so) {
            throw new IllegalStateException();
        }
    }

    private static boolean in(long number, long least, long most) {
        return number >= least && number <= most;
    }

    private void act(State next) {
        remembered.add(state);
        if (remembered.size() > 14) {
            remembered.remove(0);
        }
        state = next;
    }

    private static int sign(String signs, int k) {
        return k < signs.length() ? signs.charAt(k) : NONE;
    }

    private int indexOf(String letters) {
        int e = new ArrayList<>(state.lexicon.keySet()).indexOf(letters);
        return e < 0 ? NONE : e;
    }

    // ---- the face

    public int append(int c) {
        argument(in(c, 0, 255));
        state(text.length() < 60);
        text += (char) c;
        return text.length();
    }

    public int clearText() {
        int before = text.length();
        text = "";
        return before;
    }

    public int errorPosition() {
        for (int k = 1; k <= text.length(); k++) {
            if (!beginsWords(text.substring(0, k))) {
                return k - 1;
            }
        }
        return isWords(text) ? NONE : text.length();
    }

    public int load() {
        state(isWords(text));
        state = fresh().withWords(readWords(text));
        remembered.clear();
        slots[0] = null;
        slots[1] = null;
        return state.words.size();
    }

    public int about(int what) {
        argument(in(what, 0, 11));
        Set set = state.set();
        return switch (what) {
            case 0 -> state.words.size();
            case 1 -> state.words.stream().mapToInt(word -> word.parts.size()).sum();
            case 2 -> state.gaps();
            case 3 -> state.sentences();
            case 4 -> set.lineLengths.size();
            case 5 -> set.rows.size();
            case 6 -> (int) state.words.stream().filter(word -> word.width(state.way) > state.width).count();
            case 7 -> state.lexicon.size();
            case 8 -> (int) state.words.stream().flatMap(word -> word.parts.stream())
                .filter(part -> !part.gloss.isEmpty())
                .filter(part -> !part.gloss.equals(state.lexicon.getOrDefault(part.letters, part.gloss))).count();
            case 9 -> state.width;
            case 10 -> state.space;
            default -> state.way;
        };
    }

    public int word(int i, int what) {
        index(state.hasWord(i));
        argument(in(what, 0, 7));
        Word word = state.words.get(i);
        Place place = state.set().places.get(i);
        return switch (what) {
            case 0 -> word.parts.size();
            case 1 -> word.width(state.way);
            case 2 -> place.line;
            case 3 -> place.column;
            case 4 -> place.sentence;
            case 5 -> word.ended ? 1 : 0;
            case 6 -> (int) word.gaps();
            default -> word.free.length();
        };
    }

    public int part(int i, int p, int what) {
        index(state.hasPart(i, p));
        argument(in(what, 0, 3));
        Part part = state.words.get(i).parts.get(p);
        return switch (what) {
            case 0 -> part.letters.length();
            case 1 -> part.gloss.length();
            case 2 -> sign(part.mark, 0);
            default -> indexOf(part.letters);
        };
    }

    public int letter(int i, int p, boolean gloss, int k) {
        index(state.hasPart(i, p));
        argument(k >= 0);
        Part part = state.words.get(i).parts.get(p);
        return sign(gloss ? part.gloss : part.letters, k);
    }

    public int entry(int e, boolean gloss, int k) {
        index(in(e, 0, state.lexicon.size() - 1));
        argument(k >= 0);
        String letters = new ArrayList<>(state.lexicon.keySet()).get(e);
        return sign(gloss ? state.lexicon.get(letters) : letters, k);
    }

    public int row(int r, int what) {
        List<Row> rows = state.set().rows;
        index(in(r, 0, rows.size() - 1));
        argument(in(what, 0, 2));
        Row row = rows.get(r);
        return what == 0 ? row.kind : what == 1 ? row.signs.length() : row.sentence;
    }

    public int at(int r, int column) {
        List<Row> rows = state.set().rows;
        index(in(r, 0, rows.size() - 1));
        argument(column >= 0);
        return sign(rows.get(r).signs, column);
    }

    public int insert(int i) {
        index(in(i, 0, state.words.size()));
        state(isWords(text));
        List<Word> words = new ArrayList<>(state.words);
        words.addAll(i, readWords(text));
        state(words.size() <= 12);
        act(state.withWords(words));
        return words.size();
    }

    public int remove(int i) {
        index(state.hasWord(i));
        act(state.without(i));
        return state.words.size();
    }

    public int end(int i) {
        index(state.hasWord(i));
        act(state.ended(i));
        return state.sentences();
    }

    public int join(int i) {
        index(state.hasWord(i));
        act(state.joined(i));
        return state.sentences();
    }

    public int setFree(int i) {
        index(state.hasWord(i));
        state(text.matches("[ -~]{0,24}"));
        act(state.withWord(i, word -> new Word(word.parts, word.ended || !text.isEmpty(), text)));
        return text.length();
    }

    public int setGloss(int i, int p) {
        index(state.hasPart(i, p));
        state(text.matches("[a-z.]{0,8}"));
        act(state.withWord(i, word -> word.withGloss(p, text)));
        return state.gaps();
    }

    public int set(int what, int v) {
        argument(in(what, 9, 11));
        argument(what == 9 ? in(v, 10, 60) : what == 10 ? in(v, 1, 3) : in(v, 0, 1));
        int before = about(what);
        act(state.withLook(what == 9 ? v : state.width, what == 10 ? v : state.space, what == 11 ? v : state.way));
        return before;
    }

    public int learn(int i, int p) {
        index(state.hasPart(i, p));
        State next = state.learned(i, p);
        state(next != null);
        act(next);
        return state.lexicon.size();
    }

    public int forget(int e) {
        index(in(e, 0, state.lexicon.size() - 1));
        TreeMap<String, String> lexicon = new TreeMap<>(state.lexicon);
        lexicon.remove(new ArrayList<>(lexicon.keySet()).get(e));
        act(state.withLexicon(lexicon));
        return lexicon.size();
    }

    public int fillGaps() {
        int before = state.gaps();
        act(state.filled());
        return before - state.gaps();
    }

    public int undo() {
        state(!remembered.isEmpty());
        state = remembered.remove(remembered.size() - 1);
        return remembered.size();
    }

    public int gap(int k) {
        argument(k >= 0);
        List<Integer> places = new ArrayList<>();
        for (int i = 0; i < state.words.size(); i++) {
            for (int p = 0; p < state.words.get(i).parts.size(); p++) {
                if (state.words.get(i).parts.get(p).gloss.isEmpty()) {
                    places.add(10 * i + p);
                }
            }
        }
        return k < places.size() ? places.get(k) : NONE;
    }

    public int mostUsed() {
        Map<String, Integer> uses = new TreeMap<>();
        Map<String, Integer> places = new LinkedHashMap<>();
        for (int i = 0; i < state.words.size(); i++) {
            for (int p = 0; p < state.words.get(i).parts.size(); p++) {
                String letters = state.words.get(i).parts.get(p).letters;
                uses.merge(letters, 1, Integer::sum);
                places.putIfAbsent(letters, 10 * i + p);
            }
        }
        if (uses.isEmpty()) {
            return NONE;
        }
        int most = Collections.max(uses.values());
        for (Map.Entry<String, Integer> use : uses.entrySet()) {
            if (use.getValue() == most) {
                return places.get(use.getKey());
            }
        }
        throw new NoSuchElementException();
    }

    public int widthFor(int rows) {
        argument(in(rows, 0, 99));
        for (int width = 10; width <= 60; width++) {
            if (rowsWith(width, state.way) <= rows) {
                return width;
            }
        }
        return NONE;
    }

    public int empty() {
        return state.set().lineLengths.stream().filter(length -> length <= state.width)
            .mapToInt(length -> state.width - length).sum();
    }

    public int rowsWith(int width, int way) {
        argument(in(width, 10, 60) && in(way, 0, 1));
        return state.withLook(width, state.space, way).set().rows.size();
    }

    public int runScript(int n, long script) {
        argument(in(n, 1, 4) && script >= 0);
        String digits = String.valueOf(script);
        argument(digits.length() <= 4 * n);
        digits = "0".repeat(4 * n - digits.length()) + digits;
        State trial = state;
        for (int k = 0; k < n; k++) {
            trial = afterCommand(trial, digits.substring(4 * k, 4 * k + 4));
            if (trial == null) {
                return k;
            }
        }
        return NONE;
    }

    /** The state behind a command; null if it fails. */
    private static State afterCommand(State trial, String command) {
        int number = Integer.parseInt(command.substring(2));
        int p = command.charAt(1) - '0';
        if (command.matches("10[1-5].|1060")) {
            return trial.withLook(number, trial.space, trial.way);
        }
        if (command.matches("200[01]")) {
            return trial.withLook(trial.width, trial.space, number);
        }
        if (command.matches("30..") && trial.hasWord(number)) {
            return trial.ended(number);
        }
        if (command.matches("40..") && trial.hasWord(number)) {
            return trial.joined(number);
        }
        if (command.matches("50..") && trial.hasWord(number)) {
            return trial.without(number);
        }
        if (command.matches("6...") && trial.hasPart(number, p)) {
            return trial.learned(number, p);
        }
        if (command.equals("7000")) {
            return trial.filled();
        }
        boolean asked = command.matches("80..") && trial.set().rows.size() <= number
            || command.matches("90..") && trial.gaps() == number;
        return asked ? trial : null;
    }

    public int simulate(long seed, int m) {
        argument(in(m, 1, 99));
        State trial = state;
        long x = seed;
        int sum = 0;
        for (int round = 0; round < m; round++) {
            x = x * 6364136223846793005L + 1442695040888963407L;
            int r = (int) (x >>> 33);
            int choice = r / 4;
            switch (r % 4) {
                case 0 -> trial = trial.withLook(10 + choice % 51, trial.space, trial.way);
                case 1 -> trial = trial.withLook(trial.width, trial.space, choice % 2);
                case 2 -> trial = trial.withLook(trial.width, 1 + choice % 3, trial.way);
                default -> {
                    if (!trial.words.isEmpty()) {
                        int i = choice % trial.words.size();
                        trial = trial.words.get(i).ended ? trial.joined(i) : trial.ended(i);
                    }
                }
            }
            sum += trial.set().rows.size();
        }
        return sum;
    }

    public int save(int slot) {
        index(in(slot, 0, 1));
        slots[slot] = state;
        return state.words.size();
    }

    public int restore(int slot) {
        index(in(slot, 0, 1));
        state(slots[slot] != null);
        state = slots[slot];
        remembered.clear();
        return state.words.size();
    }
}
