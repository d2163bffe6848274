/**
 * The section "Terms" of the document: one method for each sentence that names a case at an edge. The
 * name of the method tells the term, and what is printed begins with the sentence.
 */
public final class TermTests extends Bench {
    /** Calls that throw behind RICH, for each method and each exception of it that comes without more ado. */
    private static final String[][] REFUSED = {
        {"append(-1)", ARGUMENT}, {"append(256)", ARGUMENT}, {"load()", STATE}, {"about(-1)", ARGUMENT},
        {"about(12)", ARGUMENT}, {"word(3, 0)", INDEX}, {"word(0, 8)", ARGUMENT}, {"part(0, 3, 0)", INDEX},
        {"part(0, 0, 4)", ARGUMENT}, {"letter(3, 0, false, 0)", INDEX}, {"letter(0, 0, true, -1)", ARGUMENT},
        {"entry(2, false, 0)", INDEX}, {"entry(0, false, -1)", ARGUMENT}, {"row(5, 0)", INDEX}, {"row(0, 3)", ARGUMENT},
        {"at(5, 0)", INDEX}, {"at(0, -1)", ARGUMENT}, {"insert(4)", INDEX}, {"insert(0)", STATE}, {"remove(3)", INDEX},
        {"end(3)", INDEX}, {"join(3)", INDEX}, {"setFree(3)", INDEX}, {"setGloss(0, 3)", INDEX}, {"setGloss(0, 0)", STATE},
        {"set(8, 10)", ARGUMENT}, {"set(9, 61)", ARGUMENT}, {"learn(0, 3)", INDEX}, {"learn(1, 0)", STATE},
        {"forget(2)", INDEX}, {"gap(-1)", ARGUMENT}, {"widthFor(100)", ARGUMENT}, {"rowsWith(9, 0)", ARGUMENT},
        {"rowsWith(10, 2)", ARGUMENT}, {"runScript(0, 0)", ARGUMENT}, {"runScript(1, 10000)", ARGUMENT},
        {"runScript(1, -1)", ARGUMENT}, {"simulate(0, 0)", ARGUMENT}, {"simulate(0, 100)", ARGUMENT}, {"save(2)", INDEX},
        {"restore(2)", INDEX}, {"restore(1)", STATE},
    };

    /** Actions of all kinds, each of which makes something different behind the steps of richer. */
    private static final String[] ACTIONS = {
        "insert(1)", "remove(1)", "end(0)", "join(1)", "setFree(0)", "setGloss(1, 0)", "set(9, 15)", "set(10, 3)",
        "set(11, 0)", "learn(0, 1)", "forget(1)", "fillGaps()",
    };

    private TermTests() {
        super("TermTests");
    }

    public static void main(String[] args) {
        new TermTests().runAll();
    }

    /** RICH with one more word, a gap that the lexicon can fill, and the text ab. */
    private static String[] richer(String... more) {
        String[] steps = loaded("kita-na=s:see-x=pl a b:c b", "learn(0, 0)", "learn(2, 0)", "type Free!", "setFree(1)");
        return and(and(steps, "save(0)", "set(9, 20)", "type ab"), more);
    }

    private void dueError(String text, int position) {
        on("type " + text);
        same("errorPosition() of \"" + text + "\"", ask("errorPosition()"), position);
        due("load()", position == NONE ? String.valueOf(text.split(" ").length) : STATE);
    }

    private void dueWords(String... texts) {
        for (String text : texts) {
            dueError(text, NONE);
        }
    }

    /** Whether a text is a gloss, as setGloss has it. */
    private void dueGloss(String text, boolean so) {
        on(loaded("a:x b", "type " + text));
        same("setGloss(0, 0) of \"" + text + "\"", ask("setGloss(0, 0)"), so ? text.isEmpty() ? 2 : 1 : STATE);
        duePart(0, 0, so ? "a:" + text : "a:x");
    }

    /** Whether a text is a free line, as setFree has it. */
    private void dueFree(String text, boolean so) {
        on(loaded("a", "type " + text));
        same("setFree(0) of \"" + text + "\"", ask("setFree(0)"), so ? text.length() : STATE);
        if (so && !text.isEmpty()) {
            dueRows("a", "*", text);
        } else {
            dueRows("a", "*");
        }
    }

    // ---- WORDS

    void wordsAreAtMostTwelve() {
        says("Terms, WORDS", "There are at most 12 words");
        on("type a b c d e f g h i j k l");
        due("load()", 12);
        step("type m");
        due("insert(0)", STATE);
        due("insert(12)", STATE);
        due("about(0)", 12);
        on(loaded("a b c d e f g h i j k", "type l"));
        due("insert(11)", 12);
        duePart(11, 0, "l:");
        on(loaded("a b c d e f", "insert(0)"));
        due("about(0)", 12);
        on(loaded("a b c d e f", "type g h i j k l m"));
        due("insert(3)", STATE);
        on("type a b c d e f g h i j k l m");
        due("load()", STATE);
        due("insert(0)", STATE);
        due("about(0)", 0);
    }

    void wordsAreNumberedFromZero() {
        says("Terms, WORDS", "There are at most 12 words, numbered from 0");
        on(loaded("a bb ccc"));
        due("part(0, 0, 0)", 1);
        due("part(1, 0, 0)", 2);
        due("part(2, 0, 0)", 3);
        due("word(-1, 0)", INDEX);
        due("word(3, 0)", INDEX);
        on(twelve());
        duePart(0, 0, "a:a");
        duePart(11, 0, "l:l");
        due("word(12, 0)", INDEX);
    }

    void wordsHaveOneToFourParts() {
        says("Terms, WORDS", "A word has 1 to 4 parts");
        on(loaded("a a-b a-b=c a-b=c-d"));
        for (int i = 0; i < 4; i++) {
            due("word(" + i + ", 0)", i + 1);
        }
        due("about(1)", 10);
        on("type a-b=c-d-e");
        due("load()", STATE);
        on("type a :");
        due("load()", STATE);
    }

    void wordsHavePartsNumberedFromZero() {
        says("Terms, WORDS", "A word has 1 to 4 parts, numbered from 0");
        on(loaded("a-bb=ccc-dddd e"));
        for (int p = 0; p < 4; p++) {
            due("part(0, " + p + ", 0)", p + 1);
        }
        due("part(0, -1, 0)", INDEX);
        due("part(0, 4, 0)", INDEX);
        due("part(1, 0, 0)", 1);
        due("part(1, 1, 0)", INDEX);
    }

    void wordsHaveAMarkBetweenTwoParts() {
        says("Terms, WORDS", "between two parts there is a mark, - or =");
        on(loaded("a-b=c-d e"));
        due("part(0, 0, 2)", NONE);
        due("part(0, 1, 2)", (int) '-');
        due("part(0, 2, 2)", (int) '=');
        due("part(0, 3, 2)", (int) '-');
        due("part(1, 0, 2)", NONE);
        dueRows("a-b=c-d  e", "*-*=*-*  *");
        for (String other : new String[] {"+", ",", ".", "<", ">", "_", "~"}) {
            dueError("a" + other + "b", 1);
        }
    }

    void wordsHavePartsOfOneToEightLetters() {
        says("Terms, WORDS", "A part has 1 to 8 letters");
        on(loaded("a abcdefgh-b=hgfedcba"));
        due("part(0, 0, 0)", 1);
        due("part(1, 0, 0)", 8);
        due("part(1, 1, 0)", 1);
        due("part(1, 2, 0)", 8);
        duePart(1, 2, "hgfedcba:");
        dueError("abcdefghi", 8);
        dueError("a--b", 2);
    }

    void wordsHavePartsOfLettersAToZ() {
        says("Terms, WORDS", "A part has 1 to 8 letters (a to z)");
        on(loaded("az-za"));
        duePart(0, 0, "az:");
        duePart(0, 1, "za:");
        for (String other : new String[] {"`", "{", "A", "Z", ".", "0", "9", "\u00e1", "\u00fa", "\u0000", "\u00ff"}) {
            dueError(other, 0);
            dueError("a" + other, 1);
        }
    }

    void wordsHaveGlossesOfNoneToEightLetters() {
        says("Terms, WORDS", "a gloss of 0 to 8 gloss letters");
        on(loaded("a: a-b:abcdefgh-a"));
        due("part(0, 0, 1)", 0);
        due("part(1, 0, 1)", 8);
        due("part(1, 1, 1)", 1);
        duePart(1, 0, "a:abcdefgh");
        dueError("a:abcdefghi", 10);
        dueError("a-b:a-abcdefghi", 14);
    }

    void wordsHaveGlossesOfLettersAndTheDot() {
        says("Terms, WORDS", "a gloss of 0 to 8 gloss letters (a to z and the dot)");
        on(loaded("a-b:a.z-. c:........"));
        duePart(0, 0, "a:a.z");
        duePart(0, 1, "b:.");
        duePart(1, 0, "c:........");
        for (String other : new String[] {"`", "{", "/", ",", "A", "Z", "*", "0", ":", "\u00e1", "\u00ae", "\u0000"}) {
            dueError("a:" + other, 2);
            dueError("a:." + other, 3);
        }
    }

    void wordsHaveGapsWhereGlossesAreEmpty() {
        says("Terms, WORDS", "a part with a gloss of 0 letters is a gap");
        on(loaded("a-b=c:-.=x d: e", "clearText()"));
        due("about(2)", 3);
        due("word(0, 6)", 1);
        due("word(1, 6)", 1);
        due("word(2, 6)", 1);
        due("gap(0)", 0);
        due("gap(1)", 10);
        due("gap(2)", 20);
        due("setGloss(0, 1)", 4);
        due("gap(1)", 1);
        step("type x");
        due("setGloss(0, 0)", 3);
        due("gap(0)", 1);
    }

    void wordsCanHaveAnEnd() {
        says("Terms, WORDS", "A word can have an end behind it");
        on(loaded("a b c"));
        for (int i = 0; i < 3; i++) {
            due("word(" + i + ", 5)", 0);
            step("end(" + i + ")");
            due("word(" + i + ", 5)", 1);
        }
        due("about(3)", 3);
    }

    void wordsTheLastHasAnEndForWhatIsShown() {
        says("Terms, WORDS", "the last word has one in any case for what is shown");
        on(loaded("a b"));
        due("word(1, 5)", 0);
        due("about(3)", 1);
        due("word(1, 4)", 0);
        due("end(1)", 1);
        due("word(1, 5)", 1);
        dueRows("a  b", "*  *");
        dueRowNumbers("0 4 0", "1 4 0");
        on(loaded("a b", "end(0)"));
        due("about(3)", 2);
        due("word(1, 5)", 0);
        due("word(1, 4)", 1);
        due("row(3, 2)", 1);
    }

    void wordsTheLastHasNoEndOfItsOwn() {
        says("Terms, WORDS", "the last word has one in any case for what is shown");
        on(loaded("a b", "type c", "insert(2)"));
        due("word(1, 5)", 0);
        due("about(3)", 1);
        dueRows("a  b  c", "*  *  *");
        on(loaded("a b", "end(1)", "type c", "insert(2)"));
        due("about(3)", 2);
        dueRows("a  b", "*  *", "c", "*");
        on(loaded("a b", "end(0)", "remove(1)"));
        due("word(0, 5)", 1);
        due("about(3)", 1);
        on(loaded("a b", "remove(1)"));
        due("word(0, 5)", 0);
        due("about(3)", 1);
    }

    void wordsUpToAnEndAreASentence() {
        says("Terms, WORDS", "Words up to and including one with an end (and behind the one with an end before) are a sentence");
        on(loaded("a b c d e", "end(1)", "end(2)"));
        int[] sentences = {0, 0, 1, 2, 2};
        for (int i = 0; i < 5; i++) {
            due("word(" + i + ", 4)", sentences[i]);
        }
        due("about(3)", 3);
        dueRows("a  b", "*  *", "c", "*", "d  e", "*  *");
        on(twelve());
        for (int i = 0; i < 12; i++) {
            due("end(" + i + ")", Math.min(i + 2, 12));
        }
        due("word(11, 4)", 11);
    }

    void wordsSentencesAreNumberedFromZero() {
        says("Terms, WORDS", "sentences are numbered from 0");
        on(loaded("a b", "end(0)", "type x", "setFree(1)"));
        due("word(0, 4)", 0);
        due("word(1, 4)", 1);
        dueRowNumbers("0 1 0", "1 1 0", "0 1 1", "1 1 1", "2 1 1");
    }

    void wordsWithEndsCanHaveAFreeLine() {
        says("Terms, WORDS", "A word with an end of its own can have a free line");
        on(loaded("a b", "type xy", "setFree(0)"));
        due("word(0, 5)", 1);
        due("word(0, 7)", 2);
        due("word(1, 7)", 0);
        step("join(0)");
        due("word(0, 7)", 0);
        step("end(0)");
        due("word(0, 7)", 0);
        dueRows("a", "*", "b", "*");
    }

    void wordsFreeLinesHaveOneTo24Characters() {
        says("Terms, WORDS", "a free line of 1 to 24 characters");
        dueFree("x", true);
        dueFree("123456789012345678901234", true);
        dueFree("1234567890123456789012345", false);
        on(loaded("a", "setFree(0)", "clearText()"));
        due("word(0, 7)", 1);
        due("setFree(0)", 0);
        due("about(5)", 2);
    }

    void wordsFreeLinesHaveCodes32To126() {
        says("Terms, WORDS", "a free line of 1 to 24 characters (codes 32 to 126)");
        dueFree(" ", true);
        dueFree("~", true);
        dueFree("a ~ b", true);
        dueFree("\u001f", false);
        dueFree("\u007f", false);
        dueFree("\u00ff", false);
        dueFree("a\u0000", false);
    }

    // ---- ROWS

    void rowsHaveAWidthFrom10To60() {
        says("Terms, ROWS", "a width W from 10 to 60");
        on();
        due("set(9, 9)", ARGUMENT);
        due("set(9, 61)", ARGUMENT);
        due("set(9, 10)", 30);
        due("set(9, 60)", 10);
        due("about(9)", 60);
    }

    void rowsHaveAWidthOf30AtFirst() {
        says("Terms, ROWS", "a width W from 10 to 60, at first 30");
        on();
        due("about(9)", 30);
        on(loaded("abcdefgh-abcdefgh abcdefgh-ab"));
        due("about(5)", 2);
        on(loaded("abcdefgh-abcdefgh abcdefgh-abc"));
        due("about(5)", 4);
    }

    void rowsHaveASpaceFrom1To3() {
        says("Terms, ROWS", "a space from 1 to 3");
        on(loaded("a b"));
        due("set(10, 0)", ARGUMENT);
        due("set(10, 4)", ARGUMENT);
        due("set(10, 1)", 2);
        dueRows("a b", "* *");
        due("set(10, 3)", 1);
        dueRows("a   b", "*   *");
    }

    void rowsHaveASpaceOf2AtFirst() {
        says("Terms, ROWS", "a space from 1 to 3, at first 2");
        on();
        due("about(10)", 2);
        on(loaded("a b"));
        dueRows("a  b", "*  *");
    }

    void rowsHaveAWayOf0Or1() {
        says("Terms, ROWS", "a way, 0 or 1");
        on(loaded("ab-c:x-y"));
        due("set(11, -1)", ARGUMENT);
        due("set(11, 2)", ARGUMENT);
        due("set(11, 0)", 1);
        dueRows("ab-c", "x-y ");
        due("set(11, 1)", 0);
        dueRows("ab-c", "x -y");
    }

    void rowsHaveTheWay1AtFirst() {
        says("Terms, ROWS", "a way, 0 or 1, at first 1");
        on();
        due("about(11)", 1);
        on(loaded("ab-c:x-y"));
        dueRows("ab-c", "x -y");
    }

    void rowsShowAGapAsAStar() {
        says("Terms, ROWS", "A gap is shown as the single character * in place of its gloss");
        on(loaded("a abc:xyz a-bc=d:-="));
        dueRows("a  abc  a-bc=d", "*  xyz  *-* =*");
        due("word(0, 1)", 1);
        due("word(2, 1)", 6);
        step("set(11, 0)");
        dueRows("a  abc  a-bc=d", "*  xyz  *-*=* ");
        on(loaded("a-b:xyz- c", "set(11, 0)"));
        dueRows("a-b    c", "xyz-*  *");
        on(loaded("abc", "type x", "setGloss(0, 0)", "clearText()", "setGloss(0, 0)"));
        due("at(1, 0)", (int) '*');
        due("part(0, 0, 1)", 0);
        due("letter(0, 0, true, 0)", NONE);
    }

    void rowsWithTheWay0FollowEachOther() {
        says("Terms, ROWS", "With the way 0, the parts of a word follow each other with their marks between, "
            + "and so do the shown glosses, with the same marks");
        on(loaded("ab-c=d:x-yyy=zz", "set(11, 0)"));
        dueRows("ab-c=d  ", "x-yyy=zz");
        on(loaded("abcd-ef=g-h:x-=-y", "set(11, 0)"));
        dueRows("abcd-ef=g-h", "x-*=*-y    ");
        on(loaded("a=b:abcdefgh=abcdefgh c", "set(11, 0)"));
        dueRows("a=b                c", "abcdefgh=abcdefgh  *");
    }

    void rowsWithTheWay0HaveWordsAsWideAsTheLongerOne() {
        says("Terms, ROWS", "the width of the word is the length of the longer one");
        on(loaded("abc-d:x-yz a-b:xyz-uv ab-c:x-yz a-b abc:xyz", "set(11, 0)"));
        int[] widths = {5, 6, 4, 3, 3};
        for (int i = 0; i < 5; i++) {
            due("word(" + i + ", 1)", widths[i]);
        }
        on(loaded("abcdefgh-a:x-abcdefgh a-b:xyz- a-b-c-d:ab---", "set(11, 0)"));
        due("word(0, 1)", 10);
        due("word(1, 1)", 5);
        due("word(2, 1)", 8);
    }

    void rowsWithTheWay1BeginPartsInTheSameColumn() {
        says("Terms, ROWS", "With the way 1, each part and its shown gloss begin in the same column");
        on(loaded("ab-c=d:x-yyy=zz"));
        dueRows("ab-c  =d ", "x -yyy=zz");
        on(loaded("a-b=c-d:xx-=yyy-z e"));
        dueRows("a -b=c  -d  e", "xx-*=yyy-z  *");
    }

    void rowsWithTheWay1HaveMarksBehindTheLongerOne() {
        says("Terms, ROWS", "the marks of both rows stand in the same column, directly behind the longer one of the two");
        on(loaded("abcd-b:x-y a=b:wxyz=v ab-c:xy-z"));
        dueRows("abcd-b  a   =b  ab-c", "x   -y  wxyz=v  xy-z");
        due("at(0, 4)", (int) '-');
        due("at(1, 4)", (int) '-');
        due("at(0, 12)", (int) '=');
        due("at(1, 12)", (int) '=');
    }

    void rowsWithTheWay1HaveWordsAsWideAsTheSum() {
        says("Terms, ROWS", "the width of the word is the sum, over its parts, of the greater one of both lengths, "
            + "plus one for each mark");
        on(loaded("abc-d:x-yz a ab-cd=e-f:x-yzu=-vw"));
        due("word(0, 1)", 6);
        due("word(1, 1)", 1);
        due("word(2, 1)", 11);
        on(loaded("abcdefgh-a=abcdefgh-b:x-abcdefgh=y-abcdefgh"));
        due("word(0, 1)", 35);
    }

    void rowsBeginASentenceInANewLine() {
        says("Terms, ROWS", "the first word of the sentence begins a line in the column 0");
        on(loaded("a b c", "end(0)", "end(1)"));
        for (int i = 0; i < 3; i++) {
            due("word(" + i + ", 2)", i);
            due("word(" + i + ", 3)", 0);
        }
        on(loaded("abcdefgh-abc a", "set(9, 10)"));
        due("word(0, 2)", 0);
        due("word(0, 3)", 0);
        due("about(4)", 2);
    }

    void rowsSetAWordBehindTheWordBeforePlusTheSpace() {
        says("Terms, ROWS", "each other word begins in the column behind the word before plus the space");
        on(loaded("ab a:xyz c"));
        for (int space = 1; space <= 3; space++) {
            step("set(10, " + space + ")");
            due("word(1, 3)", 2 + space);
            due("word(2, 3)", 5 + 2 * space);
        }
    }

    void rowsSetAWordThatEndsWithinW() {
        says("Terms, ROWS", "if it ends there within W columns");
        for (int space = 1; space <= 3; space++) {
            on(loaded("abcde abcde abcdefgh-abc", "set(10, " + space + ")", "set(9, " + (10 + space) + ")"));
            due("word(1, 2)", 0);
            due("word(1, 3)", 5 + space);
            due("about(4)", 2);
        }
        on(loaded("abcde a:vwxyz", "set(9, 12)"));
        due("about(4)", 1);
        on(loaded("abcdefgh-abcdefgh-abcdefgh abcdefgh-abcdefgh-abcdefgh a b c", "set(9, 60)"));
        due("word(3, 2)", 0);
        due("word(3, 3)", 59);
        due("word(4, 2)", 1);
    }

    void rowsSetAnyOtherWordInANewLine() {
        says("Terms, ROWS", "and otherwise in the column 0 of a new line");
        for (int space = 1; space <= 3; space++) {
            on(loaded("abcde abcde a", "set(10, " + space + ")", "set(9, 10)"));
            due("word(1, 2)", 1);
            due("word(1, 3)", 0);
            due("word(2, 2)", 1);
            due("word(2, 3)", 5 + space);
        }
        on(loaded("abcde a:uvwxyz", "set(9, 12)"));
        due("word(1, 2)", 1);
        due("word(1, 3)", 0);
        on(loaded("a abcdefgh-abc", "set(9, 10)"));
        due("word(1, 2)", 1);
        due("word(1, 3)", 0);
    }

    void rowsLetAWiderWordStickOut() {
        says("Terms, ROWS", "(A word that is wider than W sticks out.)");
        on(loaded("abcdefgh-b c abcdefgh-bc d", "set(9, 10)"));
        due("about(6)", 1);
        dueRows("abcdefgh-b", "*       -*", "c", "*", "abcdefgh-bc", "*       -* ", "d", "*");
        on(loaded("abcdefgh-bcd ab", "set(9, 12)"));
        due("about(6)", 0);
        step("set(9, 11)");
        due("about(6)", 1);
        due("word(0, 1)", 12);
        due("row(0, 1)", 12);
        due("word(1, 2)", 1);
    }

    void rowsShowALineAsTwoRows() {
        says("Terms, ROWS", "Each line is shown as two rows, one with the parts and one with the glosses");
        on(loaded("abcdefgh:x abcdefgh:y abcdefgh:z", "set(9, 18)"));
        due("about(4)", 2);
        dueRowNumbers("0 18 0", "1 18 0", "0 8 0", "1 8 0");
        dueRows("abcdefgh  abcdefgh", "x         y       ", "abcdefgh", "z       ");
    }

    void rowsOfALineHaveTheSameLength() {
        says("Terms, ROWS", "its length, which both rows have, is the column behind its last word "
            + "(the row that ends sooner has blanks at its end)");
        on(loaded("a bcd:x"));
        dueRowNumbers("0 6 0", "1 6 0");
        dueRows("a  bcd", "*  x  ");
        due("at(1, 5)", 32);
        due("at(1, 6)", NONE);
        on(loaded("a b:xyz", "set(11, 0)"));
        dueRowNumbers("0 6 0", "1 6 0");
        dueRows("a  b  ", "*  xyz");
        due("at(0, 5)", 32);
        due("at(0, 6)", NONE);
    }

    void rowsOfAFreeLineStandBehindTheLinesOfItsSentence() {
        says("Terms, ROWS", "Behind the lines of a sentence, the free line, if there is one, is shown");
        on(loaded("abcdefgh abc d", "set(9, 10)", "type one", "setFree(1)", "type two", "setFree(2)"));
        dueRows("abcdefgh", "*       ", "abc", "*  ", "one", "d", "*", "two");
        dueRowNumbers("0 8 0", "1 8 0", "0 3 0", "1 3 0", "2 3 0", "0 1 1", "1 1 1", "2 3 1");
        step("join(1)");
        dueRows("abcdefgh", "*       ", "abc  d", "*    *", "two");
        on(loaded("a b", "end(0)", "end(1)"));
        dueRows("a", "*", "b", "*");
    }

    void rowsOfAFreeLineHaveWCharacters() {
        says("Terms, ROWS", "in rows of W characters each");
        on(loaded("a b", "type 123456789012345678901234", "setFree(0)", "set(9, 12)"));
        dueRows("a", "*", "123456789012", "345678901234", "b", "*");
        step("set(9, 24)");
        dueRows("a", "*", "123456789012345678901234", "b", "*");
        step("type 1234567890");
        step("setFree(0)");
        step("set(9, 10)");
        dueRows("a", "*", "1234567890", "b", "*");
    }

    void rowsTheLastOfAFreeLineCanBeShorter() {
        says("Terms, ROWS", "the last of which can be shorter");
        on(loaded("a b", "type 123456789012345678901234", "setFree(0)", "set(9, 10)"));
        dueRows("a", "*", "1234567890", "1234567890", "1234", "b", "*");
        due("row(4, 1)", 4);
        due("at(4, 3)", (int) '4');
        due("at(4, 4)", NONE);
        step("set(9, 23)");
        dueRows("a", "*", "12345678901234567890123", "4", "b", "*");
        step("set(9, 25)");
        dueRows("a", "*", "123456789012345678901234", "b", "*");
        step("set(9, 60)");
        due("row(2, 1)", 24);
        due("at(2, 24)", NONE);
    }

    void rowsAndLinesAreNumberedOverAllSentences() {
        says("Terms, ROWS", "Rows and lines are numbered from 0, over all sentences");
        on(loaded("a b abcdefgh-ab d", "type x", "setFree(1)", "end(2)", "set(9, 10)"));
        int[] lines = {0, 0, 1, 2};
        for (int i = 0; i < 4; i++) {
            due("word(" + i + ", 2)", lines[i]);
        }
        due("about(4)", 3);
        dueRowNumbers("0 4 0", "1 4 0", "2 1 0", "0 11 1", "1 11 1", "0 1 2", "1 1 2");
        due("row(-1, 0)", INDEX);
        due("row(7, 0)", INDEX);
    }

    void rowsHaveBlanksWhereNoCharacterStands() {
        says("Terms, ROWS", "Columns of rows of words that no character stands in are blank");
        on(loaded("a-b:xyz-x cd:w e", "set(10, 3)"));
        dueRows("a  -b   cd   e", "xyz-x   w    *");
        for (int column : new int[] {1, 2, 5, 6, 7, 10, 11, 12}) {
            due("at(0, " + column + ")", 32);
        }
        step("set(11, 0)");
        dueRows("a-b     cd   e", "xyz-x   w    *");
        due("at(0, 3)", 32);
        due("at(0, 4)", 32);
    }

    // ---- LEXICON

    void lexiconHasAtMost16Entries() {
        says("Terms, LEXICON", "The lexicon has at most 16 entries");
        on(fullLexicon());
        due("about(7)", 16);
        due("entry(15, false, 0)", (int) 'p');
        due("entry(16, false, 0)", INDEX);
        due("learn(0, 0)", STATE);
        due("about(7)", 16);
        due("forget(15)", 15);
        due("learn(0, 0)", 16);
        due("entry(15, false, 0)", (int) 'q');
    }

    void lexiconHasGlossesThatAreNoGaps() {
        says("Terms, LEXICON", "each of them a part with a gloss (not a gap)");
        on(loaded("a:x a b:", "learn(0, 0)"));
        due("learn(1, 0)", STATE);
        due("learn(2, 0)", STATE);
        dueEntries("a:x");
        on(loaded("abcdefgh:........", "learn(0, 0)"));
        dueEntries("abcdefgh:........");
    }

    void lexiconIsInTheOrderOfTheAlphabet() {
        says("Terms, LEXICON", "in the order of the alphabet of the parts");
        on(loaded("m:a z:b a:c n:d l:e", "learn(0, 0)", "learn(1, 0)", "learn(2, 0)", "learn(3, 0)", "learn(4, 0)"));
        dueEntries("a:c", "l:e", "m:a", "n:d", "z:b");
        on(loaded("azz:a b:b ba:c abz:d", "learn(1, 0)", "learn(0, 0)", "learn(3, 0)", "learn(2, 0)"));
        dueEntries("abz:d", "azz:a", "b:b", "ba:c");
        on(loaded("bbbbbbba:z bbbbbbbb:y abbbbbbb:x", "learn(1, 0)", "learn(0, 0)", "learn(2, 0)"));
        dueEntries("abbbbbbb:x", "bbbbbbba:z", "bbbbbbbb:y");
    }

    void lexiconHasAWordBeforeThoseThatBeginWithIt() {
        says("Terms, LEXICON", "(a word that another one begins with comes before that one)");
        on(loaded("a:z ab:y abcdefg:x abcdefgh:w", "learn(3, 0)", "learn(1, 0)", "learn(2, 0)", "learn(0, 0)"));
        dueEntries("a:z", "ab:y", "abcdefg:x", "abcdefgh:w");
        on(loaded("a:z ab:y aa:x", "learn(0, 0)", "learn(1, 0)", "learn(2, 0)"));
        dueEntries("a:z", "aa:x", "ab:y");
        on(loaded("zz:a z:b", "learn(0, 0)", "learn(1, 0)"));
        dueEntries("z:b", "zz:a");
    }

    void lexiconHasNoPartTwice() {
        says("Terms, LEXICON", "No part is in it twice");
        on(loaded("a:x a:y b-a:z-x", "learn(0, 0)"));
        due("learn(1, 0)", 1);
        dueEntries("a:y");
        due("learn(0, 0)", 1);
        due("learn(2, 0)", 2);
        due("learn(2, 1)", 2);
        due("learn(1, 0)", 2);
        dueEntries("a:y", "b:z");
        on(fullLexicon());
        due("learn(1, 0)", 16);
        due("entry(4, true, 0)", (int) 'f');
        due("entry(5, false, 0)", (int) 'f');
    }

    // ---- TEXT

    void textHasAtMost60Characters() {
        says("Terms, TEXT", "a text buffer of at most 60 characters");
        on("type " + "a".repeat(59));
        due("append(97)", 60);
        due("append(97)", STATE);
        due("clearText()", 60);
        on("type " + "abcdefgh ".repeat(6) + "abcdef");
        due("errorPosition()", NONE);
        due("load()", 7);
        duePart(6, 0, "abcdef:");
    }

    void textAsWordsHasAtLeastOne() {
        says("Terms, TEXT", "1 or more words");
        on();
        due("load()", STATE);
        due("insert(0)", STATE);
        dueWords("a", "a b", "a b c d e f g h i j k l");
    }

    void textAsWordsHasSingleBlanks() {
        says("Terms, TEXT", "with single blanks between");
        dueWords("a b", "a: b:x c");
        dueError("a  b", 2);
        dueError(" a", 0);
        dueError("a ", 2);
        dueError("a: ", 3);
        dueError("a:  b", 3);
        dueError("a\tb", 1);
    }

    void textAsAWordHasMarksBetweenItsParts() {
        says("Terms, TEXT", "A word is 1 to 4 parts with marks between");
        dueWords("a", "a-b", "a=b", "a-b=c", "a-b=c-d", "a=b-c=d e-f");
        dueError("-a", 0);
        dueError("a -b", 2);
        dueError("a-", 2);
        dueError("a=", 2);
        dueError("a-=b", 2);
        dueError("a- b", 2);
        dueError("a-:x", 2);
    }

    void textAsAWordHasAsManyGlossesAsParts() {
        says("Terms, TEXT", "the character : and as many glosses as parts");
        dueWords("a:x", "a-b:x-y", "a-b-c:x-y-z", "a-b-c-d:x-y-z-u");
        dueError("a:x-", 3);
        dueError("a-b:x", 5);
        dueError("a-b:x c:y", 5);
        dueError("a-b:x-y-", 7);
        dueError("a-b-c-d:x-y-z", 13);
        dueError("a-b-c-d:x-y-z-u-", 15);
        dueError(":x", 0);
        dueError("a:x:y", 3);
        dueError("a::", 2);
    }

    void textAsAWordHasTheSameMarksInTheSameOrder() {
        says("Terms, TEXT", "with the same marks between in the same order");
        dueWords("a-b=c:x-y=z", "a=b-c:x=y-z", "a=b=c=d:x=y=z=u");
        dueError("a-b:x=y", 5);
        dueError("a=b:x-y", 5);
        dueError("a-b=c:x=y-z", 7);
        dueError("a-b=c:x-y-z", 9);
        dueError("a-b-c=d:x-y-z-u", 13);
        on(loaded("a-b=c:x-y=z"));
        due("part(0, 1, 2)", (int) '-');
        due("part(0, 2, 2)", (int) '=');
    }

    void textGlossesCanHaveNoLetters() {
        says("Terms, TEXT", "(a gloss can have 0 letters)");
        dueWords("a:", "a: b", "a-b:-", "a-b:x-", "a-b:-x", "a-b=c:-=", "a-b-c-d:---", "a-b-c:-x-");
        on(loaded("a-b=c:-x= d:"));
        duePart(0, 0, "a:");
        duePart(0, 1, "b:x");
        duePart(0, 2, "c:");
        duePart(1, 0, "d:");
    }

    void textWordsWithoutAColonHaveOnlyGaps() {
        says("Terms, TEXT", "A word without the character : has only gaps");
        on(loaded("a-b:x-y a-b-c-d e:z"));
        due("about(2)", 4);
        due("word(0, 6)", 0);
        due("word(1, 6)", 4);
        due("word(2, 6)", 0);
        duePart(1, 1, "b:");
        // What was read before leaves nothing behind.
        step("type a-b c-d:x-y");
        step("load()");
        duePart(0, 0, "a:");
        duePart(0, 1, "b:");
        duePart(1, 1, "d:y");
    }

    void textAsAGlossHasNoneToEightLetters() {
        says("Terms, TEXT", "a gloss: 0 to 8 gloss letters");
        dueGloss("", true);
        dueGloss("a", true);
        dueGloss("z.aaaaa.", true);
        dueGloss("........", true);
        dueGloss("abcdefghi", false);
        for (String other : new String[] {"`", "{", "/", "-", "=", ":", " ", "*", "A", "\u00e1", "\u0000"}) {
            dueGloss(other, false);
            dueGloss("a" + other, false);
            dueGloss(other + "a", false);
        }
    }

    void textAsAFreeLineHasNoneTo24Characters() {
        says("Terms, TEXT", "a free line: 0 to 24 characters");
        dueFree("", true);
        dueFree("a", true);
        dueFree("abcdefghijklmnopqrstuvwx", true);
        dueFree("abcdefghijklmnopqrstuvwxy", false);
        dueFree("a".repeat(60), false);
    }

    void textAsAFreeLineHasCodesFrom32To126() {
        says("Terms, TEXT", "characters with codes from 32 to 126");
        dueFree(" !~", true);
        dueFree("     ", true);
        dueFree("~".repeat(24), true);
        for (String other : new String[] {"\u0000", "\u001f", "\u007f", "\u0080", "\u00ff"}) {
            dueFree(other, false);
            dueFree("a" + other, false);
            dueFree(other + "a", false);
        }
    }

    void textErrorIsTheFirstCharacterThatIsNotAllowed() {
        says("Terms, TEXT", "the index of the first character that these rules do not allow at its place "
            + "when the text is read from left to right");
        dueError("A", 0);
        dueError("aB:-C", 1);
        dueError("a:x-B", 3);
        dueError("a b  C", 4);
        dueError("ab-c:x y Z", 6);
        dueError("a-b c:d-e", 7);
        dueError("abcdefghi j  k", 8);
    }

    void textErrorIsTheNinthLetterOfAPart() {
        says("Terms, TEXT", "(this includes the ninth letter of a part");
        dueWords("abcdefgh", "abcdefgh-abcdefgh abcdefgh");
        dueError("abcdefghi", 8);
        dueError("abcdefgha", 8);
        dueError("a-abcdefghi", 10);
        dueError("a abcdefghi", 10);
        dueError("abcdefgh-abcdefgh=abcdefgh-abcdefghi", 35);
    }

    void textErrorIsTheNinthLetterOfAGloss() {
        says("Terms, TEXT", "the ninth letter of a part or a gloss");
        dueWords("a:abcdefgh", "a-b:........-abcdefgh");
        dueError("a:abcdefghi", 10);
        dueError("a:.........", 10);
        dueError("a-b:-abcdefgh.", 13);
        dueError("a-b:abcdefghi-", 12);
    }

    void textErrorIsTheMarkAheadOfAFifthPart() {
        says("Terms, TEXT", "the mark ahead of a fifth part");
        dueWords("a-b-c-d", "a-b-c-d e-f-g-h");
        dueError("a-b-c-d-e", 7);
        dueError("a-b-c-d=", 7);
        dueError("a=b=c=d=e:x=y=z=u=v", 7);
        dueError("a b-c-d-e-f", 9);
    }

    void textErrorIsTheBlankOfAThirteenthWord() {
        says("Terms, TEXT", "a thirteenth word, whose blank is not allowed");
        dueWords("a b c d e f g h i j k l", "a b c d e f g h i j k l:x");
        dueError("a b c d e f g h i j k l m", 23);
        dueError("a b c d e f g h i j k l ", 23);
        dueError("a: b c d e f g h i j k l:x m", 26);
        // The words that there are already do not count.
        on(twelve("type a b c d e f g h i j k l"));
        due("errorPosition()", NONE);
    }

    void textErrorIsTheLengthIfTheTextEndsTooSoon() {
        says("Terms, TEXT", "if the text ends too soon, it is the length of the text");
        on();
        due("errorPosition()", 0);
        dueError("a-", 2);
        dueError("a ", 2);
        dueError("a b:x ", 6);
        dueError("a-b:", 4);
        dueError("a-b:x", 5);
        dueError("a-b-c:x-", 8);
        dueError("abcdefgh ".repeat(6) + "abcde-", 60);
        dueError("abcdefgh ".repeat(6) + "abc-d:", 60);
    }

    // ---- ACTIONS AND UNDO

    void actionsLeaveTheTextOutOfTheState() {
        says("Terms, ACTIONS AND UNDO", "the state, which consists of everything but the text and the save slots");
        on(richer("setGloss(0, 0)", "type xyz"));
        step("undo()");
        due("clearText()", 3);
        on(richer("set(10, 3)", "save(1)", "save(0)"));
        step("undo()");
        due("about(10)", 2);
        due("restore(1)", 4);
        due("about(10)", 3);
        due("restore(0)", 4);
        due("about(10)", 3);
    }

    void actionsChangeWhatUndoBringsBack() {
        says("Terms, ACTIONS AND UNDO", "Before each action, the state is remembered");
        for (String action : ACTIONS) {
            on(richer());
            String before = state();
            ask(action);
            same("whether " + action + " changes the state", before.equals(state()), false);
            same("undo() behind " + action, ask("undo()"), 4);
            same("the state behind " + action + " and undo()", state(), before);
        }
    }

    void actionsAreCallsThatMakeNothingDifferent() {
        says("Terms, ACTIONS AND UNDO", "is an action, also if nothing becomes different");
        String[] same = {"end(1)", "join(0)", "setFree(1)", "setGloss(0, 0)", "set(9, 20)", "set(10, 2)", "set(11, 1)",
            "learn(0, 0)", "fillGaps()"};
        for (String action : same) {
            on(richer("fillGaps()", "type " + (action.startsWith("setFree") ? "Free!" : "see")));
            String before = state();
            ask(action);
            same("the state behind " + action, state(), before);
            same("undo() behind " + action, ask("undo()"), 5);
            same("the state behind " + action + " and undo()", state(), before);
        }
        on(loaded("a", "clearText()"));
        due("setFree(0)", 0);
        due("undo()", 0);
    }

    void actionsAreNoCallsThatThrow() {
        says("Terms, ACTIONS AND UNDO", "Each call of one of them that does not throw an exception is an action");
        String[] thrown = {"insert(5)", "remove(4)", "end(4)", "join(-1)", "setFree(4)", "setGloss(4, 0)", "set(9, 9)",
            "learn(1, 0)", "forget(2)"};
        for (String call : thrown) {
            on(richer());
            same("whether " + call + " throws", ask(call).endsWith("Exception"), true);
            same("undo() behind " + call, ask("undo()"), 3);
            due("about(9)", 30);
        }
    }

    void actionsDoNotCountUndo() {
        says("Terms, ACTIONS AND UNDO", "(undo is none)");
        on(loaded("a", "set(9, 10)", "set(9, 11)", "set(9, 12)"));
        due("undo()", 2);
        due("about(9)", 11);
        due("undo()", 1);
        due("about(9)", 10);
        due("undo()", 0);
        due("about(9)", 30);
        due("undo()", STATE);
    }

    void actionsAreRememberedFourteenTimes() {
        says("Terms, ACTIONS AND UNDO", "At most 14 states are remembered");
        on(loaded("a"));
        for (int k = 1; k <= 14; k++) {
            step("set(9, " + (10 + k) + ")");
        }
        for (int k = 13; k >= 0; k--) {
            due("undo()", k);
            due("about(9)", k == 0 ? 30 : 10 + k);
        }
        due("undo()", STATE);
    }

    void actionsForgetTheOldestState() {
        says("Terms, ACTIONS AND UNDO", "when one more is remembered, the oldest one is forgotten");
        on(loaded("a"));
        for (int k = 1; k <= 15; k++) {
            step("set(9, " + (10 + k) + ")");
        }
        for (int k = 13; k >= 0; k--) {
            due("undo()", k);
            due("about(9)", 11 + k);
        }
        due("undo()", STATE);
        // Once more, so that the places of the forgotten states are used again.
        on(loaded("a"));
        for (int k = 1; k <= 40; k++) {
            step("set(9, " + (10 + k) + ")");
        }
        due("undo()", 13);
        due("set(9, 10)", 49);
        due("set(9, 11)", 10);
        due("undo()", 13);
        due("about(9)", 10);
        for (int k = 12; k >= 0; k--) {
            due("undo()", k);
            due("about(9)", 37 + k);
        }
        due("undo()", STATE);
    }

    void actionsAreNotUndoLoadAndRestore() {
        says("Terms, ACTIONS AND UNDO", "undo, load and restore are not actions");
        on(richer());
        step("undo()");
        due("undo()", 2);
        on(richer("load()"));
        due("undo()", STATE);
        on(richer("restore(0)"));
        due("undo()", STATE);
        on(richer("type a", "load()", "set(9, 11)"));
        due("undo()", 0);
        due("about(0)", 1);
    }

    void actionsAreOnlyTheMethodsOfTheirSection() {
        says("Terms, ACTIONS AND UNDO", "The methods in the section \"actions\" change the state");
        String[] others = {"append(98)", "clearText()", "errorPosition()", "about(5)", "word(0, 1)", "part(0, 0, 3)",
            "letter(0, 0, true, 0)", "entry(0, true, 0)", "row(0, 1)", "at(0, 0)", "gap(0)", "mostUsed()", "widthFor(9)",
            "empty()", "rowsWith(10, 0)", "runScript(1, 7000)", "simulate(3, 99)", "save(1)"};
        for (String call : others) {
            on(richer());
            String before = state();
            ask(call);
            same("the state behind " + call, state(), before);
            same("undo() behind " + call, ask("undo()"), 3);
            due("about(9)", 30);
        }
    }

    // ---- EXCEPTIONS

    void exceptionsTellWhatDoesNotExist() {
        says("Terms, EXCEPTIONS", "IndexOutOfBoundsException means that a word, a part of it, a row, or an entry "
            + "of the lexicon does not exist, or that a save slot is not 0 or 1");
        String[] ofWords = {"word(#, 0)", "part(#, 0, 0)", "letter(#, 0, false, 0)", "remove(#)", "end(#)", "join(#)",
            "setFree(#)", "setGloss(#, 0)", "learn(#, 0)"};
        String[] ofParts = {"part(0, #, 0)", "letter(0, #, false, 0)", "setGloss(0, #)", "learn(0, #)"};
        dueIndex(ofWords, -1, 4, 12, Integer.MAX_VALUE, Integer.MIN_VALUE);
        dueIndex(ofParts, -1, 3, 4, Integer.MAX_VALUE, Integer.MIN_VALUE);
        dueIndex(new String[] {"row(#, 0)", "at(#, 0)"}, -1, 5, Integer.MAX_VALUE, Integer.MIN_VALUE);
        dueIndex(new String[] {"entry(#, false, 0)", "forget(#)"}, -1, 2, 16, Integer.MAX_VALUE, Integer.MIN_VALUE);
        dueIndex(new String[] {"save(#)", "restore(#)"}, -1, 2, Integer.MAX_VALUE, Integer.MIN_VALUE);
        dueIndex(new String[] {"insert(#)"}, -1, 5, 13, Integer.MAX_VALUE, Integer.MIN_VALUE);
        on();
        for (String call : new String[] {"word(0, 0)", "remove(0)", "row(0, 0)", "at(0, 0)", "entry(0, true, 0)", "forget(0)"}) {
            due(call, INDEX);
        }
    }

    private void dueIndex(String[] calls, int... numbers) {
        for (String call : calls) {
            for (int number : numbers) {
                on(richer());
                due(call.replace("#", String.valueOf(number)), INDEX);
            }
        }
    }

    void exceptionsTellArgumentsOutOfRange() {
        says("Terms, EXCEPTIONS", "IllegalArgumentException means that another argument is out of its range");
        String[] calls = {"append(#)", "about(#)", "word(0, #)", "part(0, 0, #)", "letter(0, 0, false, #)",
            "entry(0, false, #)", "row(0, #)", "at(0, #)", "set(#, 10)", "set(9, #)", "set(10, #)", "set(11, #)", "gap(#)",
            "widthFor(#)", "rowsWith(#, 0)", "rowsWith(10, #)", "runScript(#, 0)", "runScript(1, #)", "simulate(0, #)"};
        String large = " append about word part row set widthFor rowsWith runScript simulate ";
        for (String call : calls) {
            on(richer());
            due(call.replace("#", "-1"), ARGUMENT);
            due(call.replace("#", "-2147483648"), ARGUMENT);
            if (large.contains(" " + call.substring(0, call.indexOf('(')) + " ")) {
                due(call.replace("#", "2147483647"), ARGUMENT);
            }
        }
    }

    void exceptionsComeInTheOrderOfTheDescription() {
        says("Terms, EXCEPTIONS", "If several exceptions apply to a call, the one that its description names first is thrown");
        String[][] dues = {
            {"word(4, 8)", INDEX}, {"word(-1, -1)", INDEX}, {"part(4, 0, 4)", INDEX}, {"part(0, 3, -1)", INDEX},
            {"letter(4, 0, true, -1)", INDEX}, {"letter(0, 3, false, -1)", INDEX}, {"entry(2, true, -1)", INDEX},
            {"entry(-1, false, -1)", INDEX}, {"row(5, 3)", INDEX}, {"row(-1, -1)", INDEX}, {"at(5, -1)", INDEX},
            {"at(-1, -1)", INDEX}, {"insert(5)", INDEX}, {"insert(-1)", INDEX}, {"setFree(4)", INDEX}, {"setFree(-1)", INDEX},
            {"setGloss(4, 0)", INDEX}, {"setGloss(0, 3)", INDEX}, {"learn(1, 1)", INDEX}, {"restore(2)", INDEX},
        };
        for (String[] call : dues) {
            on(richer("type \u007f"));
            due(call[0], call[1]);
        }
        on("type " + "a".repeat(60));
        due("append(256)", ARGUMENT);
        due("append(-1)", ARGUMENT);
        on(twelve("type m"));
        due("insert(13)", INDEX);
        on(fullLexicon());
        due("learn(0, 1)", INDEX);
    }

    void exceptionsLeaveEverythingAsItIs() {
        says("Terms, EXCEPTIONS", "A call that throws an exception changes nothing");
        for (String[] call : REFUSED) {
            refuses(call[0], call[1], RICH);
        }
        refuses("append(97)", STATE, and(RICH, "type " + "a".repeat(60)));
        refuses("setFree(0)", STATE, and(RICH, "type 1234567890123456789012345"));
        refuses("setFree(1)", STATE, and(RICH, "type ab\u007f"));
        refuses("setGloss(0, 1)", STATE, and(RICH, "type abcdefghi"));
        refuses("load()", STATE, and(RICH, "type a b:x-"));
        refuses("insert(1)", STATE, and(RICH, "type a b:x-"));
        refuses("insert(1)", STATE, and(RICH, "type a b c d e f g h i j"));
        refuses("undo()", STATE, loaded("ab c"));
        on(fullLexicon());
        String before = state();
        due("learn(0, 0)", STATE);
        same("the state behind learn(0, 0)", state(), before);
        due("undo()", 13);
        due("about(0)", 0);
    }

    void exceptionsTellWhatTheMethodSays() {
        says("Terms, EXCEPTIONS", "IllegalStateException means what the method says");
        on();
        due("undo()", STATE);
        due("restore(0)", STATE);
        due("load()", STATE);
        due("insert(0)", STATE);
        on(richer("type A"));
        for (String call : new String[] {"load()", "insert(0)", "setGloss(0, 0)", "learn(1, 0)", "restore(1)"}) {
            due(call, STATE);
        }
        step("type \u0007");
        due("setFree(0)", STATE);
        on("type " + "A".repeat(60));
        due("append(65)", STATE);
    }

    // ---- the constants and the sections of the interface

    void sectionsOfWhatIsFoundAndOfScriptsChangeNothing() {
        says("Terms", "these and all following methods up to the save slots change nothing");
        String[][] dues = {
            {"gap(0)", "10"}, {"gap(9)", "-9"}, {"mostUsed()", "20"}, {"widthFor(5)", "13"}, {"widthFor(0)", "-9"},
            {"empty()", "23"}, {"rowsWith(10, 0)", "7"}, {"rowsWith(60, 1)", "5"}, {"runScript(4, 5000600170001010)", "-9"},
            {"runScript(4, 3000400220001060)", "-9"}, {"runScript(2, 50000000)", "1"},
        };
        for (String[] call : dues) {
            onlyTells(call[0], call[1], richer());
        }
        on(richer());
        String before = state();
        for (int seed = 0; seed < 10; seed++) {
            ask("simulate(" + seed + ", 99)");
        }
        same("the state behind simulate", state(), before);
        dueRows("kita-na=s   a", "see -x =pl  *", "Free!", "b  b", "c  *");
    }

    void constantsNoneIsMinusNine() {
        says("Terms", "`NONE = -9`: There is no such result");
        same("NONE", GlossRows.NONE, -9);
        on();
        due("mostUsed()", -9);
        due("gap(0)", -9);
    }
}
