/**
 * The promises 1 to 32 sentence by sentence: one method for each sentence that names a case at an edge.
 * The name of the method tells the promise, and what is printed begins with the sentence.
 */
public final class EdgeTests extends Bench {
    private EdgeTests() {
        super("EdgeTests");
    }

    public static void main(String[] args) {
        new EdgeTests().runAll();
    }

    /** Refused for the two numbers that stand next to a range, and for the least and the greatest int. */
    private void refusesOutside(String call, int least, int most, String exception, String... steps) {
        for (int number : new int[] {least - 1, most + 1, Integer.MIN_VALUE, Integer.MAX_VALUE}) {
            on(steps);
            String before = state();
            due(call.replace("#", String.valueOf(number)), exception);
            same("the state behind " + call + " with " + number, state(), before);
        }
    }

    /** Answers to a call with the numbers from 0 on. */
    private void dueEach(String call, Object... dues) {
        for (int k = 0; k < dues.length; k++) {
            due(call.replace("#", String.valueOf(k)), dues[k]);
        }
    }

    // ---- 1: a new object

    void promise01HasNoWordsAndNoEntries() {
        says("Promise 1", "Creates a page without words and with an empty lexicon");
        on();
        dueNumbers("0 0 0 0 0 0 0 0 0 30 2 1");
        due("word(0, 0)", INDEX);
        due("row(0, 0)", INDEX);
        due("entry(0, false, 0)", INDEX);
        due("gap(0)", NONE);
        due("mostUsed()", NONE);
        due("empty()", 0);
        due("clearText()", 0);
        due("undo()", STATE);
        due("restore(0)", STATE);
        due("restore(1)", STATE);
    }

    // ---- 2: append

    void promise02TakesCodes0To255() {
        says("Promise 2", "`c`: character code, 0 to 255");
        on();
        due("append(0)", 1);
        due("append(255)", 2);
        due("append(-1)", ARGUMENT);
        due("append(256)", ARGUMENT);
        due("append(2147483647)", ARGUMENT);
        due("append(-2147483648)", ARGUMENT);
        due("append(128)", 3);
    }

    void promise02AppendsBehind() {
        says("Promise 2", "Appends a character to the text buffer");
        on("type ab");
        due("append(58)", 3);
        due("append(99)", 4);
        due("load()", 1);
        duePart(0, 0, "ab:c");
    }

    void promise02ReturnsTheNewLength() {
        says("Promise 2", "Returns the new length of the text");
        on();
        for (int k = 1; k <= 60; k++) {
            due("append(97)", k);
        }
        due("clearText()", 60);
        due("append(97)", 1);
    }

    void promise02RefusesCodesOutOfRangeFirst() {
        says("Promise 2", "Throws `IllegalArgumentException` if c is out of range");
        on("type " + "a".repeat(60));
        due("append(256)", ARGUMENT);
        due("append(-1)", ARGUMENT);
        due("append(255)", STATE);
        due("clearText()", 60);
    }

    void promise02RefusesTheCharacter61() {
        says("Promise 2", "Throws `IllegalStateException` if the text already has 60 characters");
        on("type " + "a".repeat(59));
        due("append(98)", 60);
        due("append(98)", STATE);
        due("append(0)", STATE);
        due("clearText()", 60);
    }

    // ---- 3: clearText

    void promise03EmptiesTheText() {
        says("Promise 3", "Empties the text buffer");
        on("type " + "a".repeat(60), "clearText()");
        due("errorPosition()", 0);
        due("load()", STATE);
        due("append(98)", 1);
        due("load()", 1);
        duePart(0, 0, "b:");
    }

    void promise03ReturnsThePreviousLength() {
        says("Promise 3", "Returns the previous length of the text");
        on();
        due("clearText()", 0);
        step("append(0)");
        due("clearText()", 1);
        due("clearText()", 0);
        step("type " + "\u00ff".repeat(60));
        due("clearText()", 60);
    }

    // ---- 4: errorPosition

    void promise04ReturnsThePositionOfAnError() {
        says("Promise 4", "Returns the error position of the text as words");
        on();
        due("errorPosition()", 0);
        step("type A");
        due("errorPosition()", 0);
        step("type a-");
        due("errorPosition()", 2);
        step("type " + "a-b-c-d ".repeat(7) + "a-B");
        due("errorPosition()", 58);
        step("type " + "a-b-c-d ".repeat(7) + "a-b-");
        due("errorPosition()", 60);
    }

    void promise04ReturnsNoneForWords() {
        says("Promise 4", "NONE if it is words");
        on("type a");
        due("errorPosition()", NONE);
        step("type " + "a-b-c-d ".repeat(7) + "a-bc");
        due("errorPosition()", NONE);
        step("type a b c d e f g h i j k l:");
        due("errorPosition()", NONE);
    }

    // ---- 5: load

    void promise05MakesEverythingNew() {
        says("Promise 5", "Makes everything as in a new object, and then adds the words of the text");
        on(and(RICH, "set(11, 0)", "end(2)", "type a bc:x", "load()"));
        dueNumbers("2 2 1 1 1 2 0 0 0 30 2 1");
        due("word(0, 5)", 0);
        due("word(1, 5)", 0);
        due("word(1, 7)", 0);
        due("entry(0, false, 0)", INDEX);
        dueRows("a  bc", "*  x ");
        step("load()");
        due("about(0)", 2);
    }

    void promise05ForgetsAllRememberedStates() {
        says("Promise 5", "Forgets all remembered states");
        on(loaded("a"));
        for (int k = 10; k < 30; k++) {
            step("set(9, " + k + ")");
        }
        step("load()");
        due("undo()", STATE);
        step("set(9, 10)");
        due("undo()", 0);
        due("about(9)", 30);
        due("undo()", STATE);
    }

    void promise05EmptiesBothSaveSlots() {
        says("Promise 5", "empties both save slots");
        on(loaded("a", "save(0)", "save(1)", "load()"));
        due("restore(0)", STATE);
        due("restore(1)", STATE);
        due("save(1)", 1);
        due("restore(0)", STATE);
        due("restore(1)", 1);
    }

    void promise05KeepsTheText() {
        says("Promise 5", "Keeps the text");
        on(loaded("ab c"));
        due("errorPosition()", NONE);
        due("insert(0)", 4);
        due("clearText()", 4);
    }

    void promise05ReturnsTheNumberOfWords() {
        says("Promise 5", "Returns the number of words");
        on("type a");
        due("load()", 1);
        due("load()", 1);
        step("type a b c d e f g h i j k l");
        due("load()", 12);
    }

    void promise05RefusesATextThatIsNotWords() {
        says("Promise 5", "Throws `IllegalStateException` if the text is not words");
        for (String text : new String[] {"", " ", "a ", "a-b:x", "abcdefghi", "a b c d e f g h i j k l m", "a\u0000"}) {
            on(and(RICH, "type " + text));
            due("load()", STATE);
            dueNumbers("3 5 1 2 2 5 0 2 0 20 1 1");
            due("undo()", 4);
            due("restore(0)", 3);
        }
    }

    // ---- 6: about

    void promise06CountsWordsAndPartsAndGaps() {
        says("Promise 6", "0: the number of words; 1: of parts; 2: of gaps");
        on();
        dueEach("about(#)", 0, 0, 0);
        on(loaded("a:x"));
        dueEach("about(#)", 1, 1, 0);
        on(loaded("a-b=c-d a-b=c-d:x-=- a:.", "insert(0)", "insert(0)"));
        dueEach("about(#)", 9, 27, 21);
        on(largest());
        dueEach("about(#)", 12, 48, 12);
        step("type a-b-c-d");
        step("load()");
        dueEach("about(#)", 1, 4, 4);
    }

    void promise06CountsNoSentenceWithoutWords() {
        says("Promise 6", "3: of sentences (0 without words)");
        on();
        due("about(3)", 0);
        on(loaded("a"));
        due("about(3)", 1);
        due("end(0)", 1);
        due("remove(0)", 0);
        due("about(3)", 0);
        on(loaded("a b", "end(0)"));
        due("about(3)", 2);
        due("end(1)", 2);
    }

    void promise06CountsLinesOfWords() {
        says("Promise 6", "4: of lines (of words)");
        on();
        due("about(4)", 0);
        on(loaded("a b", "type 123456789012345678901234", "setFree(0)", "set(9, 10)"));
        due("about(4)", 2);
        due("about(4)", 2);
        on(twelve("set(9, 10)"));
        due("about(4)", 3);
    }

    void promise06CountsRows() {
        says("Promise 6", "5: of rows");
        on();
        due("about(5)", 0);
        on(loaded("a b", "type 123456789012345678901234", "setFree(0)", "set(9, 10)"));
        due("about(5)", 7);
        step("set(9, 12)");
        due("about(5)", 6);
        step("set(9, 24)");
        due("about(5)", 5);
        // The most rows: twelve sentences, each with a free line of three rows.
        on(twelve("type " + "x".repeat(24), "set(9, 10)"));
        for (int i = 0; i < 12; i++) {
            step("setFree(" + i + ")");
        }
        due("about(5)", 60);
        due("row(59, 2)", 11);
        due("row(60, 0)", INDEX);
    }

    void promise06CountsWordsThatStickOut() {
        says("Promise 6", "6: of words that stick out");
        on(loaded("abcdefgh-b a abcdefgh-bc a:x", "set(9, 10)"));
        due("about(6)", 1);
        step("set(9, 11)");
        due("about(6)", 0);
        on(loaded("a-b:x-abcdefgh abcdefgh-c:x-yz", "set(9, 10)"));
        due("about(6)", 1);
        step("set(11, 0)");
        due("about(6)", 0);
        on(largest("set(9, 10)"));
        due("about(6)", 0);
        // A word that is no longer there does not stick out.
        on(loaded("a abcdefgh-bc", "set(9, 10)"));
        due("about(6)", 1);
        step("remove(1)");
        due("about(6)", 0);
    }

    void promise06CountsEntries() {
        says("Promise 6", "7: of entries of the lexicon");
        on();
        due("about(7)", 0);
        on(fullLexicon());
        due("about(7)", 16);
    }

    void promise06CountsOtherGlossesThanThoseOfTheLexicon() {
        says("Promise 6", "8: of parts that are no gaps and whose gloss is another one than that of the lexicon, "
            + "which has the part");
        on(loaded("a:x a:y a b:y ab:y a-a:xx-x", "learn(0, 0)"));
        due("about(8)", 2);
        step("forget(0)");
        due("about(8)", 0);
        step("learn(1, 0)");
        due("about(8)", 3);
        on(largest("type w", "setGloss(3, 0)", "learn(3, 0)", "learn(3, 1)"));
        due("about(8)", 11);
    }

    void promise06TellsWidthAndSpaceAndWay() {
        says("Promise 6", "9: W; 10: the space; 11: the way");
        on("type a", "load()", "set(9, 60)", "set(10, 3)", "set(11, 0)");
        due("about(9)", 60);
        due("about(10)", 3);
        due("about(11)", 0);
    }

    void promise06RefusesOtherNumbers() {
        says("Promise 6", "Throws `IllegalArgumentException` if what is not 0 to 11");
        refusesOutside("about(#)", 0, 11, ARGUMENT, RICH);
        on();
        due("about(12)", ARGUMENT);
        due("about(11)", 1);
    }

    // ---- 7: word

    void promise07TellsTheNumberOfParts() {
        says("Promise 7", "0: the number of its parts");
        on(loaded("a b-c=d-e"));
        due("word(0, 0)", 1);
        due("word(1, 0)", 4);
    }

    void promise07TellsTheWidth() {
        says("Promise 7", "1: its width");
        on(loaded("a abcdefgh-abcdefgh=abcdefgh-abcdefgh a-b:xyz-"));
        due("word(0, 1)", 1);
        due("word(1, 1)", 35);
        due("word(2, 1)", 5);
        on(loaded("abc-d:x-yz a-b:xyz- abc", "set(11, 0)"));
        dueEach("word(#, 1)", 5, 5, 3);
    }

    void promise07TellsTheLineAndTheColumn() {
        says("Promise 7", "2: its line; 3: the column in which it begins");
        on(loaded("abcd abcd abcde abcdefgh-ab a", "set(9, 10)", "type free", "setFree(1)"));
        int[][] dues = {{0, 0}, {0, 6}, {1, 0}, {2, 0}, {3, 0}};
        for (int i = 0; i < 5; i++) {
            due("word(" + i + ", 2)", dues[i][0]);
            due("word(" + i + ", 3)", dues[i][1]);
        }
        step("set(9, 60)");
        due("word(4, 2)", 1);
        due("word(4, 3)", 20);
    }

    void promise07TellsTheSentence() {
        says("Promise 7", "4: its sentence");
        on(loaded("a b c", "end(1)"));
        dueEach("word(#, 4)", 0, 0, 1);
        step("end(2)");
        dueEach("word(#, 4)", 0, 0, 1);
    }

    void promise07TellsAnEndOfItsOwn() {
        says("Promise 7", "5: 1 if it has an end of its own, 0 if not");
        on(loaded("a b c", "end(1)"));
        dueEach("word(#, 5)", 0, 1, 0);
        step("end(2)");
        due("word(2, 5)", 1);
        step("join(1)");
        due("word(1, 5)", 0);
    }

    void promise07TellsTheNumberOfGaps() {
        says("Promise 7", "6: the number of its gaps");
        on(loaded("a:x a a-b-c-d a-b-c-d:-x-y-"));
        dueEach("word(#, 6)", 0, 1, 4, 2);
    }

    void promise07TellsTheLengthOfTheFreeLine() {
        says("Promise 7", "7: the length of its free line (0 if there is none)");
        on(loaded("a b c", "end(1)", "type 123456789012345678901234", "setFree(2)", "type x", "setFree(0)"));
        dueEach("word(#, 7)", 1, 0, 24);
    }

    void promise07RefusesOtherWords() {
        says("Promise 7", "Throws `IndexOutOfBoundsException` if there is no such word");
        refusesOutside("word(#, 0)", 0, 2, INDEX, RICH);
        refusesOutside("word(#, 8)", 0, 2, INDEX, RICH);
        on(twelve());
        due("word(11, 0)", 1);
        due("word(12, 0)", INDEX);
        // A word that was there is no longer so.
        step("remove(0)");
        due("word(11, 0)", INDEX);
    }

    void promise07RefusesOtherNumbers() {
        says("Promise 7", "Throws `IllegalArgumentException` if what is not 0 to 7");
        refusesOutside("word(0, #)", 0, 7, ARGUMENT, RICH);
        refusesOutside("word(2, #)", 0, 7, ARGUMENT, RICH);
    }

    // ---- 8: part

    void promise08TellsItsLength() {
        says("Promise 8", "0: its length");
        on(loaded("a-abcdefgh:xyz-"));
        due("part(0, 0, 0)", 1);
        due("part(0, 1, 0)", 8);
    }

    void promise08TellsTheLengthOfItsGloss() {
        says("Promise 8", "1: the length of its gloss (0 for a gap)");
        on(loaded("a-b=c:abcdefgh-=. d"));
        due("part(0, 0, 1)", 8);
        due("part(0, 1, 1)", 0);
        due("part(0, 2, 1)", 1);
        due("part(1, 0, 1)", 0);
    }

    void promise08TellsTheMarkAheadOfIt() {
        says("Promise 8", "2: the code of the mark ahead of it (NONE for the part 0)");
        on(loaded("a=b-c=d:x=y-z=u e-f"));
        dueEach("part(0, #, 2)", NONE, 61, 45, 61);
        dueEach("part(1, #, 2)", NONE, 45);
    }

    void promise08TellsItsEntry() {
        says("Promise 8", "3: the entry of the lexicon that has this part (NONE if there is none)");
        on(loaded("ab-a=abc b:x ab:y", "learn(1, 0)", "learn(2, 0)"));
        dueEach("part(0, #, 3)", 0, NONE, NONE);
        due("part(1, 0, 3)", 1);
        step("forget(0)");
        due("part(1, 0, 3)", 0);
        due("part(2, 0, 3)", NONE);
        on(fullLexicon("type p-a", "insert(0)"));
        dueEach("part(0, #, 3)", 15, 0);
    }

    void promise08RefusesOtherWordsAndParts() {
        says("Promise 8", "Throws `IndexOutOfBoundsException` if there is no such word or part");
        refusesOutside("part(#, 0, 0)", 0, 2, INDEX, RICH);
        refusesOutside("part(0, #, 0)", 0, 2, INDEX, RICH);
        refusesOutside("part(1, #, 4)", 0, 0, INDEX, RICH);
        on(loaded("a-b-c-d e", "remove(0)"));
        due("part(0, 1, 0)", INDEX);
        due("part(1, 0, 0)", INDEX);
    }

    void promise08RefusesOtherNumbers() {
        says("Promise 8", "Throws `IllegalArgumentException` if what is not 0 to 3");
        refusesOutside("part(0, 2, #)", 0, 3, ARGUMENT, RICH);
    }

    // ---- 9: letter

    void promise09TellsLettersFromZero() {
        says("Promise 9", "`k`: 0 for the first letter, and so on");
        on(loaded("abcdefgh-z:z.yxwvut-."));
        dueEach("letter(0, 0, false, #)", 97, 98, 99, 100, 101, 102, 103, 104, NONE);
        dueEach("letter(0, 0, true, #)", 122, 46, 121, 120, 119, 118, 117, 116, NONE);
        dueEach("letter(0, 1, false, #)", 122, NONE);
        dueEach("letter(0, 1, true, #)", 46, NONE);
    }

    void promise09TellsThePartOrItsGloss() {
        says("Promise 9", "`gloss`: false for the part, true for its gloss");
        on(loaded("a-b:c- d"));
        due("letter(0, 0, false, 0)", 97);
        due("letter(0, 0, true, 0)", 99);
        due("letter(0, 1, false, 0)", 98);
        due("letter(0, 1, true, 0)", NONE);
        due("letter(1, 0, false, 0)", 100);
        due("letter(1, 0, true, 0)", NONE);
    }

    void promise09TellsNoneBehindTheLastLetter() {
        says("Promise 9", "NONE if there are not so many");
        on(loaded("a-bc:-xyz"));
        due("letter(0, 0, true, 0)", NONE);
        due("letter(0, 0, false, 1)", NONE);
        due("letter(0, 1, false, 1)", 99);
        due("letter(0, 1, false, 2)", NONE);
        due("letter(0, 1, true, 2)", 122);
        due("letter(0, 1, true, 3)", NONE);
        due("letter(0, 1, true, 8)", NONE);
        due("letter(0, 1, true, 2147483647)", NONE);
    }

    void promise09RefusesOtherWordsAndParts() {
        says("Promise 9", "Throws `IndexOutOfBoundsException` if there is no such word or part");
        refusesOutside("letter(#, 0, false, 0)", 0, 2, INDEX, RICH);
        refusesOutside("letter(0, #, true, 0)", 0, 2, INDEX, RICH);
        refusesOutside("letter(1, #, false, -1)", 0, 0, INDEX, RICH);
    }

    void promise09RefusesNegativeNumbers() {
        says("Promise 9", "Throws `IllegalArgumentException` if k is negative");
        for (String flag : new String[] {"false", "true"}) {
            refuses("letter(0, 0, " + flag + ", -1)", ARGUMENT, RICH);
            refuses("letter(1, 0, " + flag + ", -2147483648)", ARGUMENT, RICH);
        }
    }

    // ---- 10: entry

    void promise10TellsEntriesFromZero() {
        says("Promise 10", "`e`: entry, 0 for the first one");
        on(loaded("b:x a:y", "learn(0, 0)"));
        due("entry(0, false, 0)", 98);
        step("learn(1, 0)");
        due("entry(0, false, 0)", 97);
        due("entry(0, true, 0)", 121);
        due("entry(1, false, 0)", 98);
        on(fullLexicon());
        due("entry(0, false, 0)", 97);
        due("entry(15, false, 0)", 112);
    }

    void promise10TellsThePartOrItsGloss() {
        says("Promise 10", "`gloss`: false for its part, true for its gloss");
        on(loaded("ab:c", "learn(0, 0)"));
        dueEach("entry(0, false, #)", 97, 98, NONE);
        dueEach("entry(0, true, #)", 99, NONE);
    }

    void promise10TellsNoneBehindTheLastLetter() {
        says("Promise 10", "NONE if there are not so many");
        on(loaded("abcdefgh:x a:........", "learn(0, 0)", "learn(1, 0)"));
        due("entry(0, false, 0)", 97);
        due("entry(0, false, 1)", NONE);
        due("entry(0, true, 7)", 46);
        due("entry(0, true, 8)", NONE);
        due("entry(1, false, 7)", 104);
        due("entry(1, false, 8)", NONE);
        due("entry(1, true, 1)", NONE);
        due("entry(1, true, 2147483647)", NONE);
    }

    void promise10RefusesOtherEntries() {
        says("Promise 10", "Throws `IndexOutOfBoundsException` if there is no such entry");
        refusesOutside("entry(#, false, 0)", 0, 1, INDEX, RICH);
        refusesOutside("entry(#, true, -1)", 0, 1, INDEX, RICH);
        on(fullLexicon());
        due("entry(16, false, 0)", INDEX);
        due("entry(-1, true, 0)", INDEX);
        step("forget(3)");
        due("entry(15, false, 0)", INDEX);
        on();
        due("entry(0, false, 0)", INDEX);
    }

    void promise10RefusesNegativeNumbers() {
        says("Promise 10", "Throws `IllegalArgumentException` if k is negative");
        for (String flag : new String[] {"false", "true"}) {
            refuses("entry(0, " + flag + ", -1)", ARGUMENT, RICH);
            refuses("entry(1, " + flag + ", -2147483648)", ARGUMENT, RICH);
        }
    }

    // ---- 11: row

    void promise11TellsTheKind() {
        says("Promise 11", "0: its kind: 0 parts, 1 glosses, 2 a free line");
        on(loaded("abcdefgh abcdefgh c", "set(9, 10)", "type 123456789012345678901234", "setFree(1)"));
        dueEach("row(#, 0)", 0, 1, 0, 1, 2, 2, 2, 0, 1, INDEX);
    }

    void promise11TellsTheLength() {
        says("Promise 11", "1: its length");
        on(loaded("a bc:xyz abcdefgh-abc", "set(9, 10)", "type 12345678901", "setFree(1)"));
        dueEach("row(#, 1)", 6, 6, 10, 1, 12, 12);
        step("set(9, 11)");
        dueEach("row(#, 1)", 6, 6, 11, 12, 12);
    }

    void promise11TellsTheSentence() {
        says("Promise 11", "2: its sentence");
        on(loaded("a b c", "type 12345678901", "setFree(0)", "end(1)", "set(9, 10)"));
        dueEach("row(#, 2)", 0, 0, 0, 0, 1, 1, 2, 2, INDEX);
    }

    void promise11RefusesOtherRows() {
        says("Promise 11", "Throws `IndexOutOfBoundsException` if there is no such row");
        refusesOutside("row(#, 0)", 0, 4, INDEX, RICH);
        refusesOutside("row(#, 3)", 0, 4, INDEX, RICH);
        on();
        due("row(0, 0)", INDEX);
    }

    void promise11RefusesOtherNumbers() {
        says("Promise 11", "Throws `IllegalArgumentException` if what is not 0 to 2");
        for (int r = 0; r < 5; r++) {
            refusesOutside("row(" + r + ", #)", 0, 2, ARGUMENT, RICH);
        }
    }

    // ---- 12: at

    void promise12TellsBlanks() {
        says("Promise 12", "Returns its code (32 for a blank)");
        on(loaded("ab-c:x-yz d", "type a b", "setFree(1)"));
        dueEach("at(0, #)", 97, 98, 45, 99, 32, 32, 32, 100, NONE);
        dueEach("at(1, #)", 120, 32, 45, 121, 122, 32, 32, 42, NONE);
        dueEach("at(2, #)", 97, 32, 98, NONE);
        on(loaded("a bc", "type xyz", "setGloss(0, 0)", "type a ", "setFree(1)"));
        dueEach("at(0, #)", 97, 32, 32, 32, 32, 98, 99, NONE);
        dueEach("at(1, #)", 120, 121, 122, 32, 32, 42, 32, NONE);
        dueEach("at(2, #)", 97, 32, NONE);
    }

    void promise12TellsNoneBehindTheRow() {
        says("Promise 12", "NONE if the column is not less than the length of the row");
        on(loaded("a b:xyz", "type 12345678901", "setFree(1)", "set(9, 10)"));
        due("at(0, 5)", 32);
        due("at(0, 6)", NONE);
        due("at(1, 5)", 122);
        due("at(1, 6)", NONE);
        due("at(2, 9)", 48);
        due("at(2, 10)", NONE);
        due("at(3, 0)", 49);
        due("at(3, 1)", NONE);
        due("at(3, 2147483647)", NONE);
        on(loaded("abcdefgh-abc", "set(9, 10)"));
        due("at(0, 11)", 99);
        due("at(0, 12)", NONE);
    }

    void promise12RefusesOtherRows() {
        says("Promise 12", "Throws `IndexOutOfBoundsException` if there is no such row");
        refusesOutside("at(#, 0)", 0, 4, INDEX, RICH);
        refusesOutside("at(#, -1)", 0, 4, INDEX, RICH);
        on();
        due("at(0, 0)", INDEX);
    }

    void promise12RefusesNegativeColumns() {
        says("Promise 12", "Throws `IllegalArgumentException` if column is negative");
        for (int r = 0; r < 5; r++) {
            refuses("at(" + r + ", -1)", ARGUMENT, RICH);
        }
        refuses("at(0, -2147483648)", ARGUMENT, RICH);
    }

    // ---- 13: insert

    void promise13InsertsWordsWithoutEnds() {
        says("Promise 13", "Inserts the words of the text, without ends, ahead of a word");
        on(loaded("a b", "end(0)", "type x", "setFree(1)", "type c-d:y- e", "insert(1)"));
        dueEach("word(#, 5)", 1, 0, 0, 1);
        dueEach("word(#, 7)", 0, 0, 0, 1);
        dueRows("a", "*", "c-d  e  b", "y-*  *  *", "x");
        step("insert(0)");
        dueEach("word(#, 5)", 0, 0, 1, 0, 0, 1);
        due("errorPosition()", NONE);
        // Where words with ends stood before, those without stand then.
        on(loaded("a b c", "type x", "setFree(0)", "setFree(1)", "setFree(2)", "type q r s", "insert(0)"));
        dueEach("word(#, 5)", 0, 0, 0, 1, 1, 1);
        dueEach("word(#, 7)", 0, 0, 0, 1, 1, 1);
    }

    void promise13InsertsBehindTheLastWord() {
        says("Promise 13", "the number of words for behind the last one");
        on("type a");
        due("insert(0)", 1);
        step("type b");
        due("insert(1)", 2);
        step("end(1)");
        step("type c d");
        due("insert(2)", 4);
        dueRows("a  b", "*  *", "c  d", "*  *");
        on(twelve("remove(11)", "type m"));
        due("insert(11)", 12);
        duePart(11, 0, "m:");
    }

    void promise13ReturnsTheNumberOfWords() {
        says("Promise 13", "Returns the number of words then");
        on("type a b c");
        dueEach("insert(#)", 3, 6, 9, 12, STATE);
    }

    void promise13RefusesOtherPlaces() {
        says("Promise 13", "Throws `IndexOutOfBoundsException` if i is not 0 to the number of words");
        refusesOutside("insert(#)", 0, 3, INDEX, and(RICH, "type a"));
        refusesOutside("insert(#)", 0, 3, INDEX, and(RICH, "type A"));
        refusesOutside("insert(#)", 0, 12, INDEX, twelve("type a"));
        on("type a");
        due("insert(1)", INDEX);
        due("insert(0)", 1);
        due("insert(2)", INDEX);
        due("insert(1)", 2);
        due("insert(0)", 3);
        due("insert(3)", 4);
    }

    void promise13RefusesATextThatIsNotWords() {
        says("Promise 13", "Throws `IllegalStateException` if the text is not words");
        for (String text : new String[] {"", "a ", "A", "a-b:x", "a b c d e f g h i j k l m"}) {
            on("type " + text);
            due("insert(0)", STATE);
            due("about(0)", 0);
        }
        refuses("insert(3)", STATE, and(RICH, "type a-"));
    }

    void promise13RefusesMoreThanTwelveWords() {
        says("Promise 13", "or there would be more than 12 words");
        on(loaded("a b c d e f g h i j k", "type l m"));
        due("insert(0)", STATE);
        due("insert(11)", STATE);
        due("about(0)", 11);
        step("type l");
        due("insert(0)", 12);
        due("insert(0)", STATE);
        on(loaded("a", "type a b c d e f g h i j k l"));
        due("insert(1)", STATE);
        due("remove(0)", 0);
        due("insert(0)", 12);
    }

    // ---- 14: remove

    void promise14RemovesTheEndAndTheFreeLine() {
        says("Promise 14", "Removes a word, with its end and its free line");
        on(loaded("a b c d", "type x", "setFree(1)", "end(2)"));
        due("remove(1)", 3);
        dueEach("word(#, 5)", 0, 1, 0);
        dueEach("word(#, 7)", 0, 0, 0);
        dueRows("a  c", "*  *", "d", "*");
        on(twelve("end(11)", "remove(11)"));
        due("word(10, 5)", 0);
        duePart(10, 0, "k:k");
        step("remove(0)");
        duePart(0, 0, "b:b");
        duePart(9, 0, "k:k");
    }

    void promise14BringsTheWordsAroundIntoOneSentence() {
        says("Promise 14", "(words ahead of it are in one sentence with those behind it then)");
        on(loaded("a b c", "end(1)"));
        due("about(3)", 2);
        due("remove(1)", 2);
        due("about(3)", 1);
        dueEach("word(#, 4)", 0, 0);
        dueRows("a  c", "*  *");
        on(loaded("a b c", "end(0)", "end(1)", "remove(1)"));
        dueEach("word(#, 4)", 0, 1);
    }

    void promise14ReturnsTheNumberOfWords() {
        says("Promise 14", "Returns the number of words then");
        on(twelve());
        for (int left = 11; left >= 0; left--) {
            due("remove(0)", left);
        }
        due("remove(0)", INDEX);
        due("about(5)", 0);
    }

    void promise14RefusesOtherWords() {
        says("Promise 14", "Throws `IndexOutOfBoundsException` if there is no such word");
        refusesOutside("remove(#)", 0, 2, INDEX, RICH);
        refusesOutside("remove(#)", 0, 11, INDEX, twelve());
        on();
        due("remove(0)", INDEX);
    }

    // ---- 15: end

    void promise15GivesAnEnd() {
        says("Promise 15", "Gives a word an end of its own");
        on(loaded("a b", "end(1)"));
        dueEach("word(#, 5)", 0, 1);
        step("end(0)");
        dueEach("word(#, 5)", 1, 1);
        on(twelve());
        for (int i = 0; i < 12; i++) {
            due("word(" + i + ", 5)", 0);
            step("end(" + i + ")");
            due("word(" + i + ", 5)", 1);
        }
        on(loaded("a b", "type xyz", "setFree(0)", "end(0)"));
        due("word(0, 5)", 1);
        due("word(0, 7)", 3);
        dueRows("a", "*", "xyz", "b", "*");
    }

    void promise15ReturnsTheNumberOfSentences() {
        says("Promise 15", "Returns the number of sentences then");
        on(loaded("a b c"));
        due("end(2)", 1);
        due("end(0)", 2);
        due("end(0)", 2);
        due("end(1)", 3);
        on(twelve());
        for (int i = 0; i < 12; i++) {
            due("end(" + i + ")", Math.min(12, i + 2));
        }
    }

    void promise15RefusesOtherWords() {
        says("Promise 15", "Throws `IndexOutOfBoundsException` if there is no such word");
        refusesOutside("end(#)", 0, 2, INDEX, RICH);
        on();
        due("end(0)", INDEX);
    }

    // ---- 16: join

    void promise16TakesTheEndAndTheFreeLineAway() {
        says("Promise 16", "Takes the end of its own, and the free line, away from a word");
        on(loaded("a b", "type xyz", "setFree(0)", "setFree(1)"));
        due("join(0)", 1);
        dueEach("word(#, 5)", 0, 1);
        dueEach("word(#, 7)", 0, 3);
        dueRows("a  b", "*  *", "xyz");
        due("join(1)", 1);
        dueEach("word(#, 5)", 0, 0);
        dueRows("a  b", "*  *");
        step("end(0)");
        dueRows("a", "*", "b", "*");
    }

    void promise16ReturnsTheNumberOfSentences() {
        says("Promise 16", "Returns the number of sentences then");
        on(loaded("a b c", "end(0)", "end(1)", "end(2)"));
        due("join(2)", 3);
        due("join(0)", 2);
        due("join(0)", 2);
        due("join(1)", 1);
        due("join(2)", 1);
    }

    void promise16RefusesOtherWords() {
        says("Promise 16", "Throws `IndexOutOfBoundsException` if there is no such word");
        refusesOutside("join(#)", 0, 2, INDEX, RICH);
        on();
        due("join(0)", INDEX);
    }

    // ---- 17: setFree

    void promise17GivesAnEndByThis() {
        says("Promise 17", "Makes the text the free line of a word, which gets an end of its own by this");
        on(loaded("a b", "type x"));
        due("setFree(0)", 1);
        due("word(0, 5)", 1);
        due("about(3)", 2);
        due("setFree(1)", 1);
        due("word(1, 5)", 1);
        due("about(3)", 2);
        dueRows("a", "*", "x", "b", "*", "x");
        // A shorter line in place of a longer one.
        on(loaded("a", "type 123456789012345678901234", "setFree(0)", "type ~ ", "setFree(0)"));
        dueRows("a", "*", "~ ");
        due("errorPosition()", 0);
    }

    void promise17TakesTheFreeLineAwayIfTheTextIsEmpty() {
        says("Promise 17", "an empty text takes the free line away (and leaves the end as it is)");
        on(loaded("a b", "type x", "setFree(0)", "clearText()"));
        due("setFree(0)", 0);
        due("word(0, 7)", 0);
        due("word(0, 5)", 1);
        dueRows("a", "*", "b", "*");
        due("setFree(1)", 0);
        due("word(1, 5)", 0);
        due("undo()", 2);
        due("undo()", 1);
        due("word(0, 7)", 1);
    }

    void promise17ReturnsTheLength() {
        says("Promise 17", "Returns the length of the free line then");
        on(loaded("a"));
        for (int length : new int[] {24, 1, 23, 0, 10}) {
            step("type " + "x".repeat(length));
            due("setFree(0)", length);
            due("word(0, 7)", length);
        }
    }

    void promise17RefusesOtherWords() {
        says("Promise 17", "Throws `IndexOutOfBoundsException` if there is no such word");
        refusesOutside("setFree(#)", 0, 2, INDEX, RICH);
        refusesOutside("setFree(#)", 0, 2, INDEX, and(RICH, "type \u0007"));
        on("type x");
        due("setFree(0)", INDEX);
    }

    void promise17RefusesATextThatIsNoFreeLine() {
        says("Promise 17", "Throws `IllegalStateException` if the text is not a free line");
        for (String text : new String[] {"1234567890123456789012345", "\u001f", "\u007f", "ab\u00ff", "\u0000"}) {
            refuses("setFree(1)", STATE, and(RICH, "type " + text));
        }
    }

    // ---- 18: setGloss

    void promise18MakesTheTextTheGloss() {
        says("Promise 18", "Makes the text the gloss of a part");
        on(loaded("a-b-c-d:x-x-x-x e:x", "type abcdefgh", "setGloss(0, 3)", "type .", "setGloss(0, 0)"));
        duePart(0, 0, "a:.");
        duePart(0, 1, "b:x");
        duePart(0, 2, "c:x");
        duePart(0, 3, "d:abcdefgh");
        duePart(1, 0, "e:x");
        due("clearText()", 1);
        due("setGloss(0, 1)", 1);
        duePart(0, 1, "b:");
    }

    void promise18ReturnsTheNumberOfGaps() {
        says("Promise 18", "Returns the number of gaps then");
        on(loaded("a-b c", "type x"));
        due("setGloss(0, 0)", 2);
        due("setGloss(0, 0)", 2);
        due("setGloss(0, 1)", 1);
        due("setGloss(1, 0)", 0);
        step("clearText()");
        due("setGloss(1, 0)", 1);
        due("setGloss(1, 0)", 1);
        due("setGloss(0, 1)", 2);
    }

    void promise18RefusesOtherWordsAndParts() {
        says("Promise 18", "Throws `IndexOutOfBoundsException` if there is no such word or part");
        refusesOutside("setGloss(#, 0)", 0, 2, INDEX, and(RICH, "type a"));
        refusesOutside("setGloss(0, #)", 0, 2, INDEX, and(RICH, "type A"));
        refusesOutside("setGloss(1, #)", 0, 0, INDEX, and(RICH, "clearText()"));
    }

    void promise18RefusesATextThatIsNoGloss() {
        says("Promise 18", "Throws `IllegalStateException` if the text is not a gloss");
        for (String text : new String[] {"abcdefghi", ".........", "A", "a-b", "a:", "a b", "`", "{", "\u0000"}) {
            refuses("setGloss(0, 1)", STATE, and(RICH, "type " + text));
        }
    }

    // ---- 19: set

    void promise19TakesNumbersInTheirRanges() {
        says("Promise 19", "9: W, 10 to 60; 10: the space, 1 to 3; 11: the way, 0 or 1");
        int[][] ranges = {{9, 10, 60}, {10, 1, 3}, {11, 0, 1}};
        for (int[] range : ranges) {
            on();
            for (int v : new int[] {range[1], range[2], range[1] + 1}) {
                step("set(" + range[0] + ", " + v + ")");
                due("about(" + range[0] + ")", v);
            }
        }
    }

    void promise19ReturnsThePreviousNumber() {
        says("Promise 19", "Returns the previous number");
        on();
        due("set(9, 60)", 30);
        due("set(9, 10)", 60);
        due("set(9, 10)", 10);
        due("set(10, 3)", 2);
        due("set(10, 1)", 3);
        due("set(11, 0)", 1);
        due("set(11, 0)", 0);
    }

    void promise19RefusesWhatIsNoneOfThese() {
        says("Promise 19", "Throws `IllegalArgumentException` if what is none of these");
        for (int v : new int[] {0, 1, 10}) {
            refusesOutside("set(#, " + v + ")", 9, 11, ARGUMENT, RICH);
            refusesOutside("set(#, " + v + ")", 1, 6, ARGUMENT, RICH);
        }
    }

    void promise19RefusesNumbersOutOfRange() {
        says("Promise 19", "or v is out of range");
        refusesOutside("set(9, #)", 10, 60, ARGUMENT, RICH);
        refusesOutside("set(10, #)", 1, 3, ARGUMENT, RICH);
        refusesOutside("set(11, #)", 0, 1, ARGUMENT, RICH);
    }

    // ---- 20: learn

    void promise20LearnsInPlaceOfAnother() {
        says("Promise 20", "Lets the lexicon learn the gloss of a part, in place of the one that it has for this part");
        on(loaded("a:abcdefgh a:x b-a:y-.", "learn(0, 0)"));
        dueEntries("a:abcdefgh");
        due("learn(1, 0)", 1);
        dueEntries("a:x");
        due("learn(2, 0)", 2);
        due("learn(2, 1)", 2);
        dueEntries("a:.", "b:y");
        duePart(0, 0, "a:abcdefgh");
        step("type zz");
        step("setGloss(2, 1)");
        dueEntries("a:.", "b:y");
    }

    void promise20ReturnsTheNumberOfEntries() {
        says("Promise 20", "Returns the number of entries then");
        on(loaded("a-b-c-d:x-x-x-x e-f-g-h:x-x-x-x i-j-k-l:x-x-x-x", "type m-n-o-p:x-x-x-x", "insert(3)"));
        for (int k = 0; k < 16; k++) {
            due("learn(" + k / 4 + ", " + k % 4 + ")", k + 1);
        }
        due("learn(3, 3)", 16);
    }

    void promise20RefusesOtherWordsAndParts() {
        says("Promise 20", "Throws `IndexOutOfBoundsException` if there is no such word or part");
        refusesOutside("learn(#, 0)", 0, 2, INDEX, RICH);
        refusesOutside("learn(0, #)", 0, 2, INDEX, RICH);
        refusesOutside("learn(1, #)", 0, 0, INDEX, RICH);
    }

    void promise20RefusesAGap() {
        says("Promise 20", "Throws `IllegalStateException` if it is a gap");
        on(loaded("a:x a b-c:-y", "learn(0, 0)"));
        due("learn(1, 0)", STATE);
        due("learn(2, 0)", STATE);
        due("learn(2, 1)", 2);
        dueEntries("a:x", "c:y");
        refuses("learn(1, 0)", STATE, RICH);
        on(fullLexicon("clearText()", "setGloss(1, 0)"));
        due("learn(1, 0)", STATE);
        due("entry(4, true, 0)", 101);
    }

    void promise20RefusesAnewPartIfTheLexiconIsFull() {
        says("Promise 20", "the lexicon has 16 entries and this part is in none of them");
        on(fullLexicon());
        due("learn(0, 0)", STATE);
        due("learn(1, 0)", 16);
        due("entry(4, true, 0)", 102);
        due("forget(0)", 15);
        due("learn(0, 0)", 16);
        due("entry(15, false, 0)", 113);
        // A part that begins one of the entries is in none of them.
        on(fullLexicon("type aa:x", "insert(0)"));
        due("learn(0, 0)", STATE);
    }

    // ---- 21: forget

    void promise21ForgetsAnEntry() {
        says("Promise 21", "Lets the lexicon forget an entry");
        String[] steps = loaded("a:x b:y c:z b", "learn(0, 0)", "learn(1, 0)", "learn(2, 0)");
        String[] left = {"b:y c:z", "a:x c:z", "a:x b:y"};
        for (int e = 0; e < 3; e++) {
            on(and(steps, "forget(" + e + ")"));
            dueEntries(left[e].split(" "));
        }
        on(and(steps, "forget(1)"));
        due("part(3, 0, 3)", NONE);
        due("fillGaps()", 0);
        duePart(1, 0, "b:y");
        on(fullLexicon("forget(15)"));
        due("entry(14, false, 0)", 111);
        due("entry(15, false, 0)", INDEX);
    }

    void promise21ReturnsTheNumberOfEntries() {
        says("Promise 21", "Returns the number of entries then");
        on(fullLexicon());
        for (int left = 15; left >= 0; left--) {
            due("forget(0)", left);
        }
        due("forget(0)", INDEX);
    }

    void promise21RefusesOtherEntries() {
        says("Promise 21", "Throws `IndexOutOfBoundsException` if there is no such entry");
        refusesOutside("forget(#)", 0, 1, INDEX, RICH);
        on(fullLexicon());
        due("forget(16)", INDEX);
        due("forget(-1)", INDEX);
        on();
        due("forget(0)", INDEX);
    }

    // ---- 22: fillGaps

    void promise22FillsGapsOfTheLexicon() {
        says("Promise 22", "Fills all gaps whose parts are in the lexicon with its glosses");
        on(loaded("a:abcdefgh a-b a:x b-a:y-", "learn(0, 0)"));
        due("fillGaps()", 2);
        duePart(1, 0, "a:abcdefgh");
        duePart(1, 1, "b:");
        duePart(2, 0, "a:x");
        duePart(3, 0, "b:y");
        duePart(3, 1, "a:abcdefgh");
        on(loaded("a-b=a-a:x-=-", "learn(0, 0)"));
        due("fillGaps()", 2);
        duePart(0, 1, "b:");
        duePart(0, 2, "a:x");
        duePart(0, 3, "a:x");
        on(loaded("ab:x a b abc", "learn(0, 0)"));
        due("fillGaps()", 0);
    }

    void promise22ReturnsHowManyWereFilled() {
        says("Promise 22", "Returns how many gaps were filled");
        on();
        due("fillGaps()", 0);
        on(loaded("a:x", "learn(0, 0)"));
        due("fillGaps()", 0);
        on(loaded("a-a-a-a a-a-a-a a-a-a-a", "insert(0)", "insert(0)", "insert(0)", "type x", "setGloss(7, 2)", "learn(7, 2)"));
        due("about(2)", 47);
        due("fillGaps()", 47);
        due("about(2)", 0);
        due("fillGaps()", 0);
    }

    // ---- 23: undo

    void promise23TakesBackTheLastAction() {
        says("Promise 23", "Takes back the last action that is remembered");
        on(loaded("a b", "end(0)", "type x", "setFree(1)", "setGloss(0, 0)", "learn(0, 0)", "remove(0)"));
        due("undo()", 4);
        due("about(0)", 2);
        due("about(7)", 1);
        due("undo()", 3);
        due("about(7)", 0);
        duePart(0, 0, "a:x");
        due("undo()", 2);
        duePart(0, 0, "a:");
        due("word(1, 7)", 1);
        due("undo()", 1);
        dueEach("word(#, 7)", 0, 0);
        dueEach("word(#, 5)", 1, 0);
        due("undo()", 0);
        dueEach("word(#, 5)", 0, 0);
    }

    void promise23ReturnsHowManyAreRemembered() {
        says("Promise 23", "Returns how many states are still remembered");
        on();
        for (int k = 0; k < 20; k++) {
            step("fillGaps()");
        }
        for (int left = 13; left >= 0; left--) {
            due("undo()", left);
        }
        step("fillGaps()");
        due("undo()", 0);
    }

    void promise23RefusesIfNoneIsRemembered() {
        says("Promise 23", "Throws `IllegalStateException` if none is remembered");
        on();
        due("undo()", STATE);
        step("fillGaps()");
        due("undo()", 0);
        due("undo()", STATE);
        due("undo()", STATE);
        refuses("undo()", STATE, loaded("ab c"));
        refuses("undo()", STATE, and(RICH, "restore(0)"));
    }

    // ---- 24: gap

    void promise24TellsGapsInTheirOrder() {
        says("Promise 24", "0 for the first one (in the order of the words and their parts), 1 for the next one, and so on");
        on(loaded("a-b:x- c:y d-e=f-g:-=x- h"));
        dueEach("gap(#)", 1, 20, 21, 23, 30, NONE);
        step("type z");
        step("setGloss(2, 0)");
        dueEach("gap(#)", 1, 21, 23, 30, NONE);
    }

    void promise24TellsWordAndPart() {
        says("Promise 24", "Returns 10 * (its word) + (its part)");
        on(loaded("a-a-a-a a-a-a-a a-a-a-a", "insert(0)", "insert(0)", "insert(0)"));
        for (int k = 0; k < 48; k++) {
            due("gap(" + k + ")", 10 * (k / 4) + k % 4);
        }
        due("gap(48)", NONE);
    }

    void promise24TellsNoneIfThereAreNotSoMany() {
        says("Promise 24", "NONE if there are not so many");
        on();
        due("gap(0)", NONE);
        on(loaded("a:x"));
        due("gap(0)", NONE);
        on(loaded("a b"));
        due("gap(1)", 10);
        due("gap(2)", NONE);
        due("gap(2147483647)", NONE);
    }

    void promise24RefusesNegativeNumbers() {
        says("Promise 24", "Throws `IllegalArgumentException` if k is negative");
        refuses("gap(-1)", ARGUMENT, RICH);
        refuses("gap(-2147483648)", ARGUMENT, RICH);
        on();
        due("gap(-1)", ARGUMENT);
    }

    // ---- 25: mostUsed

    void promise25FindsThePartThatOccursMostOften() {
        says("Promise 25", "Finds the part that occurs most often in all words");
        on(loaded("a-b c-b b"));
        due("mostUsed()", 1);
        on(loaded("a:x z-z:y- a:y z"));
        due("mostUsed()", 10);
        on(loaded("ab abc a ab"));
        due("mostUsed()", 0);
    }

    void promise25TellsItsFirstOccurrence() {
        says("Promise 25", "Returns 10 * (word) + (part) of its first occurrence");
        on(loaded("a b-c-d-z z z"));
        due("mostUsed()", 13);
        on(twelve("remove(11)", "type y-y", "insert(11)"));
        due("mostUsed()", 110);
    }

    void promise25TellsTheFirstInTheAlphabetOfSeveral() {
        says("Promise 25", "of several such parts that of the first one in the order of the alphabet");
        on(loaded("c b a"));
        due("mostUsed()", 20);
        on(loaded("b-a c-a b"));
        due("mostUsed()", 1);
        on(loaded("ab a"));
        due("mostUsed()", 10);
        on(loaded("zz z zz z y"));
        due("mostUsed()", 10);
        on(loaded("a c c b b"));
        due("mostUsed()", 30);
    }

    void promise25TellsNoneWithoutWords() {
        says("Promise 25", "NONE without words");
        on();
        due("mostUsed()", NONE);
        on(loaded("a"));
        due("mostUsed()", 0);
        step("remove(0)");
        due("mostUsed()", NONE);
    }

    // ---- 26: widthFor

    void promise26TakesRowsFrom0To99() {
        says("Promise 26", "`rows`: 0 to 99");
        on(loaded("a"));
        due("widthFor(0)", NONE);
        due("widthFor(99)", 10);
        on();
        due("widthFor(0)", 10);
        due("widthFor(99)", 10);
    }

    void promise26FindsTheSmallestWidth() {
        says("Promise 26", "Returns the smallest W, 10 to 60, with which there are at most so many rows");
        on(loaded("abcdefgh abcdefgh abcdefgh", "set(9, 60)"));
        dueEach("widthFor(#)", NONE, NONE, 28, 28, 18, 18, 10);
        on(loaded("abcdefgh-a:x-abcdefgh b", "set(9, 60)"));
        due("widthFor(2)", 20);
        step("set(11, 0)");
        due("widthFor(2)", 13);
        on(loaded("abcdefgh-abcdefgh-abcdefgh-abc abcdefgh-abcdefgh-abcdefgh"));
        due("widthFor(2)", 58);
        due("widthFor(4)", 10);
        step("set(10, 3)");
        due("widthFor(2)", 59);
        on(loaded("abcdefgh-abcdefgh-abcdefgh-abc abcdefgh-abcdefgh-abcdefgh", "type ab", "setGloss(0, 3)", "type a-b"));
        step("insert(2)");
        due("widthFor(2)", NONE);
        on(loaded("abcdefgh ab abcdefgh", "set(10, 1)"));
        due("widthFor(4)", 11);
        on(loaded("a", "type 123456789012345678901234", "setFree(0)"));
        dueEach("widthFor(#)", NONE, NONE, NONE, 24, 12, 10, 10);
    }

    void promise26FindsTheWidth60() {
        says("Promise 26", "Returns the smallest W, 10 to 60");
        on(loaded("abcdefgh-abcdefgh-abcdefgh-abc abcdefgh-abcdefgh-abcdefgh", "set(10, 3)", "type a", "insert(0)"));
        due("widthFor(2)", NONE);
        due("widthFor(4)", 34);
        on(loaded("abcdefgh-abcdefgh-abcdefgh-abc abcdefgh-abcdefgh-abcdefgh", "type a", "insert(0)", "set(10, 1)"));
        due("widthFor(2)", 59);
        step("type ab");
        step("remove(0)");
        step("insert(0)");
        due("widthFor(2)", 60);
        step("type b");
        step("insert(0)");
        due("widthFor(2)", NONE);
    }

    void promise26TellsNoneIfThereIsNoWidth() {
        says("Promise 26", "NONE if there is none");
        on(loaded("a b", "end(0)"));
        due("widthFor(3)", NONE);
        due("widthFor(4)", 10);
        on(loaded("a"));
        due("widthFor(1)", NONE);
        due("widthFor(2)", 10);
    }

    void promise26RefusesOtherNumbersOfRows() {
        says("Promise 26", "Throws `IllegalArgumentException` if rows is out of range");
        refusesOutside("widthFor(#)", 0, 99, ARGUMENT, RICH);
        refuses("widthFor(-1)", ARGUMENT, RICH);
        refuses("widthFor(100)", ARGUMENT, RICH);
    }

    // ---- 27: empty

    void promise27AddsOverLinesThatAreNotLongerThanW() {
        says("Promise 27", "Returns the sum, over all lines whose length is at most W, of W minus the length");
        on();
        due("empty()", 0);
        on(loaded("a bc abcdefgh-b abcdefgh-bc d", "set(9, 10)"));
        due("empty()", 14);
        step("set(9, 11)");
        due("empty()", 17);
        step("set(9, 12)");
        due("empty()", 21);
        on(loaded("abcdefgh-bcd", "set(9, 10)"));
        due("empty()", 0);
        step("type 1");
        step("setFree(0)");
        due("empty()", 0);
        step("set(9, 60)");
        due("empty()", 48);
        // The last lines of sentences, and free lines, which are no lines of words.
        on(loaded("a b c", "end(0)", "type x", "setFree(1)"));
        due("empty()", 87);
        on(largest());
        due("empty()", 20);
        // A line that is no longer there does not count.
        on(loaded("abcdefgh abcdefgh", "set(9, 10)"));
        due("empty()", 4);
        step("remove(1)");
        due("empty()", 2);
    }

    // ---- 28: rowsWith

    void promise28TakesWidthsFrom10To60() {
        says("Promise 28", "`width`: 10 to 60");
        on(loaded("abcdefgh-abcdefgh-abcdefgh-abc abcdefgh-abcdefgh-abcdefgh"));
        due("rowsWith(10, 1)", 4);
        due("rowsWith(60, 1)", 2);
        due("rowsWith(58, 1)", 2);
        due("rowsWith(57, 1)", 4);
    }

    void promise28TakesTheWays0And1() {
        says("Promise 28", "`way`: 0 or 1");
        on(loaded("abcdefgh-a:x-abcdefgh b"));
        due("rowsWith(13, 0)", 2);
        due("rowsWith(12, 0)", 4);
        due("rowsWith(19, 1)", 4);
        due("rowsWith(20, 1)", 2);
        due("about(9)", 30);
        due("about(11)", 1);
        step("set(11, 0)");
        due("rowsWith(13, 1)", 4);
        due("rowsWith(13, 0)", 2);
    }

    void promise28TellsTheRowsThatThereWouldBe() {
        says("Promise 28", "Tells how many rows there would be with another width and way");
        on();
        due("rowsWith(10, 0)", 0);
        on(loaded("a b", "type 123456789012345678901234", "setFree(0)"));
        due("rowsWith(10, 0)", 7);
        due("rowsWith(12, 0)", 6);
        due("rowsWith(24, 1)", 5);
        dueNumbers("2 2 2 2 2 5 0 0 0 30 2 1");
        on(loaded("abcd abcd", "set(10, 3)"));
        due("rowsWith(11, 1)", 2);
        due("rowsWith(10, 1)", 4);
    }

    void promise28RefusesArgumentsOutOfRange() {
        says("Promise 28", "Throws `IllegalArgumentException` if an argument is out of range");
        refusesOutside("rowsWith(#, 0)", 10, 60, ARGUMENT, RICH);
        refusesOutside("rowsWith(10, #)", 0, 1, ARGUMENT, RICH);
        refusesOutside("rowsWith(#, 2)", 10, 60, ARGUMENT, RICH);
    }

    // ---- 29: runScript

    /** Runs a script of some groups. */
    private void dueScript(Object due, String... groups) {
        due("runScript(" + groups.length + ", " + Long.parseLong(String.join("", groups)) + ")", due);
    }

    /** All groups from one to another one fail. */
    private void dueFailing(int least, int most) {
        for (int group = least; group <= most; group++) {
            dueScript(0, String.format("%04d", group));
        }
    }

    void promise29RunsOnACopy() {
        says("Promise 29", "Runs a script on a copy of the state");
        on(RICH);
        String before = state();
        dueScript(NONE, "1010", "2000", "3000", "4001");
        same("the state", state(), before);
        dueScript(NONE, "6002", "7000", "5001", "6200");
        same("the state", state(), before);
        dueScript(NONE, "8005", "9001");
        due("undo()", 4);
        due("restore(0)", 3);
        due("about(9)", 30);
        on(RICH);
        due("set(9, 21)", 20);
        dueScript(NONE, "5000");
        due("undo()", 5);
        same("the state", state(), before);
    }

    void promise29HasOneToFourCommands() {
        says("Promise 29", "A script has 1 to 4 commands");
        on(loaded("a"));
        dueScript(NONE, "7000");
        dueScript(NONE, "7000", "7000");
        dueScript(NONE, "7000", "7000", "7000");
        dueScript(NONE, "7000", "7000", "7000", "7000");
        dueScript(3, "7000", "7000", "7000", "0000");
    }

    void promise29BeginsWithTheHighestGroup() {
        says("Promise 29", "the first command is the highest group of the number (with zeros before it, if it has fewer digits)");
        on(loaded("a b"));
        dueScript(NONE, "9002", "5000", "9001");
        dueScript(1, "5000", "9002", "9001");
        dueScript(0, "9001", "5000", "9002");
        due("runScript(2, 7000)", 0);
        due("runScript(4, 700070007000)", 0);
        due("runScript(1, 0)", 0);
        due("runScript(4, 0)", 0);
        due("runScript(3, 70007000)", 0);
    }

    void promise29SetsTheWidth() {
        says("Promise 29", "1 0 x y: W becomes xy");
        String[] steps = loaded("abcd abcd abcdefgh abcdefgh-abcdefgh abc", "type 123456789012345678901234", "setFree(1)");
        for (int width = 10; width <= 60; width++) {
            on(steps);
            int rows = Integer.parseInt(ask("rowsWith(" + width + ", 1)"));
            dueScript(NONE, "10" + width, String.format("%04d", 8000 + rows));
            dueScript(1, "10" + width, String.format("%04d", 8000 + rows - 1));
        }
        on(steps);
        dueFailing(1000, 1009);
        dueFailing(1061, 1110);
        dueFailing(1910, 1930);
    }

    void promise29SetsTheWay() {
        says("Promise 29", "2 0 0 v: the way becomes v");
        on(loaded("abcdefgh-a:x-abcdefgh b", "set(9, 19)"));
        dueScript(NONE, "2000", "8002");
        dueScript(NONE, "2001", "8004");
        dueScript(1, "2001", "8003");
        dueScript(NONE, "2000", "2001", "8004");
        dueScript(2, "2000", "2001", "8003");
        step("set(11, 0)");
        dueScript(NONE, "8002", "2001", "8004");
        dueScript(2, "8002", "2001", "8003");
        dueFailing(2002, 2101);
    }

    void promise29GivesAWordAnEnd() {
        says("Promise 29", "3 0 w w: gives word ww an end of its own");
        on(twelve());
        dueScript(NONE, "8004", "3000", "8006", "3005");
        dueScript(1, "3000", "8005");
        for (int i = 0; i < 11; i++) {
            String group = String.format("%04d", 3000 + i);
            dueScript(NONE, "1060", "8002", group, "8004");
            dueScript(3, "1060", "8002", group, "8003");
        }
        dueScript(NONE, "1060", "3011", "8002");
        dueFailing(3012, 3111);
        on(loaded("a", "type x", "setFree(0)"));
        dueScript(NONE, "3000", "8003");
        dueScript(1, "3000", "8002");
    }

    void promise29TakesAnEndAway() {
        says("Promise 29", "4 0 w w: takes its own end away from word ww");
        on(twelve("set(9, 60)", "end(3)", "type x", "setFree(11)"));
        dueScript(NONE, "8005", "4003", "8003", "4011");
        dueScript(3, "8005", "4003", "8003", "8002");
        dueScript(NONE, "4011", "8004", "4003", "8002");
        dueScript(NONE, "4000", "4003", "3003", "8005");
        dueScript(3, "4000", "4003", "3003", "8004");
        dueScript(NONE, "4011", "3011", "8004");
        dueFailing(4012, 4111);
    }

    void promise29RemovesAWord() {
        says("Promise 29", "5 0 w w: removes word ww");
        on(loaded("a-b-c b:x c-d", "end(1)"));
        dueScript(NONE, "5000", "9002");
        dueScript(NONE, "5001", "9005");
        dueScript(NONE, "5002", "9003");
        dueScript(NONE, "5001", "8002");
        dueScript(1, "5002", "5002", "9003");
        dueScript(NONE, "5000", "5000", "5000", "8000");
        dueScript(3, "5000", "5000", "5000", "5000");
        dueFailing(5003, 5102);
        on(twelve());
        dueScript(NONE, "5011");
        dueScript(1, "5011", "5011");
    }

    void promise29LearnsAGloss() {
        says("Promise 29", "6 p w w: learns the gloss of part p of word ww");
        on(loaded("a-b-c-d:x-y-z-u a-b-c-d d:v"));
        for (int p = 0; p < 4; p++) {
            dueScript(NONE, "6" + p + "00", "7000", "9003");
            dueScript(1, "7000", "9003");
        }
        dueScript(NONE, "6300", "6002", "7000", "9003");
        dueScript(NONE, "6000", "6100", "7000", "9002");
        dueScript(0, "6400");
        dueScript(0, "6102");
        due("about(7)", 0);
        on(twelve());
        dueScript(NONE, "6011");
        dueScript(0, "6012");
        dueScript(0, "6111");
    }

    void promise29FillsGaps() {
        says("Promise 29", "7 0 0 0: fills gaps");
        on(loaded("a:x a-b a", "learn(0, 0)"));
        dueScript(NONE, "9003", "7000", "9001");
        dueScript(2, "9003", "7000", "9003");
        dueScript(NONE, "7000", "7000", "9001");
        dueFailing(7001, 7100);
        dueFailing(7200, 7210);
    }

    void promise29AsksForAtMostSoManyRows() {
        says("Promise 29", "8 0 x y: succeeds if there are at most xy rows");
        on(loaded("a b", "type 123456789012345678901234", "setFree(0)", "set(9, 10)"));
        dueFailing(8000, 8006);
        for (int rows = 7; rows <= 99; rows++) {
            dueScript(NONE, String.format("%04d", 8000 + rows));
        }
        dueFailing(8100, 8110);
        on();
        dueScript(NONE, "8000");
    }

    void promise29AsksForJustSoManyGaps() {
        says("Promise 29", "9 0 x y: succeeds if there are just xy gaps");
        on(loaded("a-b:x- c d-e"));
        dueFailing(9000, 9003);
        dueScript(NONE, "9004");
        dueFailing(9005, 9104);
        on();
        dueScript(NONE, "9000");
        on(loaded("a-a-a-a a-a-a-a a-a-a-a", "insert(0)", "insert(0)", "insert(0)"));
        dueScript(NONE, "9048");
        dueScript(0, "9047");
        dueScript(0, "9049");
    }

    void promise29FailsWhereAMethodWouldThrow() {
        says("Promise 29", "The commands 1 to 7 fail if the method with this effect would throw an exception");
        on(fullLexicon());
        dueScript(0, "6000");
        dueScript(NONE, "6001");
        dueScript(0, "1009");
        dueScript(0, "1061");
        dueScript(0, "2002");
        dueScript(0, "3002");
        dueScript(0, "4002");
        dueScript(0, "5002");
        on(loaded("a b:x"));
        dueScript(0, "6000");
        dueScript(NONE, "6001");
        dueScript(1, "6001", "6000");
        dueScript(NONE, "7000", "3001", "4000");
    }

    void promise29FailsWhereWordsOrPartsDoNotExist() {
        says("Promise 29", "commands with words or parts that do not exist fail");
        on(loaded("a:x b-c:y-z"));
        for (int kind = 3; kind <= 5; kind++) {
            dueScript(NONE, kind + "001");
            dueScript(0, kind + "002");
            dueScript(0, kind + "012");
            dueScript(0, kind + "099");
        }
        dueScript(NONE, "6101");
        dueFailing(6100, 6100);
        dueFailing(6200, 6201);
        dueFailing(6002, 6099);
        dueScript(0, "6901");
        dueScript(1, "5000", "3001");
        dueScript(1, "5001", "6001");
        on();
        for (int kind = 3; kind <= 6; kind++) {
            dueScript(0, kind + "000");
        }
    }

    void promise29FailsWithAnyOtherGroup() {
        says("Promise 29", "and so does any other group (also one with another digit where a 0 is written)");
        String right = "10[1-5][0-9]|1060|200[01]|[345]00[0-2]|6[0-2]00|6002|7000|800[5-9]|80[1-9][0-9]|9001";
        for (int begin = 0; begin < 10000; begin += 400) {
            on(RICH);
            for (int group = begin; group < begin + 400; group++) {
                String digits = String.format("%04d", group);
                dueScript(digits.matches(right) ? NONE : 0, digits);
            }
        }
    }

    void promise29ReadsDecimalNumbers() {
        says("Promise 29", "ww and xy are decimal numbers");
        on(twelve("clearText()", "setGloss(10, 0)"));
        dueScript(NONE, "3011", "4011", "5011", "9001");
        dueScript(NONE, "9001", "5010", "9000");
        dueScript(NONE, "5009", "5009", "9000");
        dueScript(0, "6010");
        dueScript(NONE, "6011");
        on(loaded("a b c d e f g h i j k l"));
        dueScript(NONE, "9012", "1034", "8002");
        dueScript(2, "9012", "1033", "8002");
        dueScript(0, "9010");
        step("set(9, 10)");
        step("type " + "x".repeat(24));
        step("setFree(0)");
        step("setFree(1)");
        dueScript(NONE, "8016");
        dueScript(0, "8015");
    }

    void promise29ReturnsTheFirstCommandThatFails() {
        says("Promise 29", "Returns the index, from 0, of the first command that fails");
        on(loaded("a"));
        dueScript(0, "0000", "0000", "0000", "0000");
        dueScript(1, "7000", "0000", "0000", "7000");
        dueScript(2, "7000", "7000", "0000", "0000");
        dueScript(3, "7000", "7000", "7000", "0000");
    }

    void promise29ReturnsNoneIfAllSucceed() {
        says("Promise 29", "NONE if all succeed");
        on();
        dueScript(NONE, "9000", "8000", "7000", "1060");
        dueScript(NONE, "2000");
    }

    void promise29RefusesOtherNumbersOfCommands() {
        says("Promise 29", "Throws `IllegalArgumentException` if n is out of range");
        refusesOutside("runScript(#, 7000)", 1, 4, ARGUMENT, RICH);
        refusesOutside("runScript(#, 0)", 1, 4, ARGUMENT, RICH);
        on(RICH);
        due("runScript(5, 7000700070007000)", ARGUMENT);
    }

    void promise29RefusesNegativeScripts() {
        says("Promise 29", "if script is negative");
        for (int n = 1; n <= 4; n++) {
            on(RICH);
            due("runScript(" + n + ", -1)", ARGUMENT);
            due("runScript(" + n + ", -7000)", ARGUMENT);
            due("runScript(" + n + ", -9223372036854775808)", ARGUMENT);
            due("runScript(" + n + ", 0)", 0);
        }
    }

    void promise29RefusesTooManyDigits() {
        says("Promise 29", "or has more than 4 * n digits");
        String[] nines = {"9999", "99999999", "999999999999", "9999999999999999"};
        String[] more = {"10000", "100000000", "1000000000000", "10000000000000000"};
        on(RICH);
        for (int n = 1; n <= 4; n++) {
            due("runScript(" + n + ", " + nines[n - 1] + ")", 0);
            due("runScript(" + n + ", " + more[n - 1] + ")", ARGUMENT);
            due("runScript(" + n + ", 9223372036854775807)", ARGUMENT);
        }
        due("undo()", 4);
    }

    // ---- 30: simulate

    /** The number that the first round goes by. */
    private static int firstOf(long seed) {
        return (int) (seed * 6364136223846793005L + 1442695040888963407L >>> 33);
    }

    /** A seed whose first round does one of the four things, with one of so many choices. */
    private static long seedFor(int thing, int choice, int choices) {
        for (long seed = 0; seed < 1000000; seed++) {
            int r = firstOf(seed);
            if (r % 4 == thing && r / 4 % choices == choice) {
                return seed;
            }
        }
        throw new IllegalStateException("no seed");
    }

    private void dueRound(int thing, int choice, int choices, String rows) {
        due("simulate(" + seedFor(thing, choice, choices) + ", 1)", rows);
    }

    void promise30RunsOnACopy() {
        says("Promise 30", "Simulates m rounds on a copy of the state");
        on(RICH);
        String before = state();
        for (int seed = 0; seed < 50; seed++) {
            ask("simulate(" + seed + ", 20)");
        }
        same("the state", state(), before);
        due("undo()", 4);
        // What a simulation left on its copy plays no part in the next one.
        on(loaded("abcdefgh-a:x-abcdefgh b"));
        for (int m = 99; m > 90; m--) {
            due("simulate(1, " + m + ")", sumOfTwoWords(1, m));
        }
        due("remove(0)", 1);
        due("simulate(1, 99)", 198);
    }

    /** The sum for the words abcdefgh-a:x-abcdefgh b, in the plainest way. */
    private static int sumOfTwoWords(long seed, int m) {
        long x = seed;
        int sum = 0;
        int width = 30;
        int way = 1;
        int space = 2;
        boolean ended = false;
        for (int round = 0; round < m; round++) {
            x = x * 6364136223846793005L + 1442695040888963407L;
            int r = (int) (x >>> 33);
            width = r % 4 == 0 ? 10 + r / 4 % 51 : width;
            way = r % 4 == 1 ? r / 4 % 2 : way;
            space = r % 4 == 2 ? 1 + r / 4 % 3 : space;
            ended = r % 4 == 3 && r / 4 % 2 == 0 ? !ended : ended;
            int length = (way == 0 ? 10 : 17) + space + 1;
            sum += ended || length > width ? 4 : 2;
        }
        return sum;
    }

    void promise30StartsWithAnySeed() {
        says("Promise 30", "`seed`: any long");
        on(loaded("abcdefgh-a:x-abcdefgh b"));
        for (long seed : new long[] {Long.MIN_VALUE, Long.MAX_VALUE, -1, 0, 1, 1L << 32, 1L << 63, -(1L << 31)}) {
            for (int m = 1; m <= 20; m++) {
                due("simulate(" + seed + ", " + m + ")", sumOfTwoWords(seed, m));
            }
        }
    }

    void promise30ReplacesXInEachRound() {
        says("Promise 30", "Each round first replaces x by x * 6364136223846793005L + 1442695040888963407L "
            + "(with long overflow), and r = (int) (x >>> 33) is computed");
        on(loaded("abcdefgh-a:x-abcdefgh b"));
        for (long seed = 100; seed < 200; seed++) {
            due("simulate(" + seed + ", 99)", sumOfTwoWords(seed, 99));
            due("simulate(" + -seed * 1000003L + ", 99)", sumOfTwoWords(-seed * 1000003L, 99));
        }
    }

    void promise30SetsTheWidth() {
        says("Promise 30", "If r % 4 is 0, W becomes 10 + r / 4 % 51");
        on(loaded("abcd abcd abcdefgh abcdefgh-abcdefgh abc", "type 123456789012345678901234", "setFree(1)"));
        for (int choice = 0; choice < 51; choice++) {
            dueRound(0, choice, 51, ask("rowsWith(" + (10 + choice) + ", 1)"));
        }
    }

    void promise30SetsTheWay() {
        says("Promise 30", "if it is 1, the way becomes r / 4 % 2");
        on(loaded("abcdefgh-a:x-abcdefgh b", "set(9, 19)"));
        dueRound(1, 0, 2, "2");
        dueRound(1, 1, 2, "4");
        step("set(11, 0)");
        dueRound(1, 0, 2, "2");
        dueRound(1, 1, 2, "4");
    }

    void promise30SetsTheSpace() {
        says("Promise 30", "if it is 2, the space becomes 1 + r / 4 % 3");
        int[][] rows = {{2, 4, 4}, {2, 2, 4}, {2, 2, 2}};
        for (int width = 11; width <= 13; width++) {
            on(loaded("abcde abcde", "set(9, " + width + ")"));
            for (int choice = 0; choice < 3; choice++) {
                dueRound(2, choice, 3, String.valueOf(rows[width - 11][choice]));
            }
        }
    }

    void promise30DoesNothingWithoutWords() {
        says("Promise 30", "if it is 3 and there are words");
        on();
        for (int choice = 0; choice < 12; choice++) {
            dueRound(3, choice, 12, "0");
        }
        due("simulate(3, 99)", 0);
        on(loaded("a", "remove(0)"));
        dueRound(3, 0, 1, "0");
        due("about(0)", 0);
    }

    void promise30GivesAWordAnEnd() {
        says("Promise 30", "word r / 4 % (number of words) gets an end of its own");
        on(loaded("a b c"));
        dueRound(3, 0, 3, "4");
        dueRound(3, 1, 3, "4");
        dueRound(3, 2, 3, "2");
        on(twelve("set(9, 60)"));
        for (int choice = 0; choice < 12; choice++) {
            dueRound(3, choice, 12, choice == 11 ? "2" : "4");
        }
        on(loaded("a"));
        dueRound(3, 0, 1, "2");
    }

    void promise30TakesAnEndAwayWithTheFreeLine() {
        says("Promise 30", "if it has one, that is taken away, with the free line, as by join()");
        on(loaded("a b c", "type 123456789012345678901234", "setFree(0)", "end(1)", "setFree(2)"));
        due("about(5)", 8);
        dueRound(3, 0, 3, "5");
        dueRound(3, 1, 3, "6");
        dueRound(3, 2, 3, "7");
        // The same word twice: the end comes back, the free line does not.
        on(loaded("a", "type x", "setFree(0)"));
        long seed = 0;
        while (firstOf(seed) % 4 != 3 || firstOf(seed * 6364136223846793005L + 1442695040888963407L) % 4 != 3) {
            seed++;
        }
        due("simulate(" + seed + ", 2)", 4);
    }

    void promise30TakesOneTo99Rounds() {
        says("Promise 30", "`m`: number of rounds, 1 to 99");
        on(loaded("a"));
        for (int m = 1; m <= 99; m++) {
            due("simulate(5, " + m + ")", 2 * m);
        }
    }

    void promise30ReturnsTheSumBehindAllRounds() {
        says("Promise 30", "Returns the sum of the numbers of rows behind all rounds");
        on(loaded("abcdefgh b", "set(9, 60)"));
        long seed = seedFor(3, 0, 2);
        due("simulate(" + seed + ", 1)", 4);
        on(loaded("a b", "type 12345678901", "setFree(0)"));
        int before = 0;
        for (int m = 1; m <= 40; m++) {
            int sum = Integer.parseInt(ask("simulate(77, " + m + ")"));
            same("the rows behind round " + m, sum - before >= 2 && sum - before <= 6, true);
            before = sum;
        }
    }

    void promise30RefusesOtherNumbersOfRounds() {
        says("Promise 30", "Throws `IllegalArgumentException` if m is out of range");
        refusesOutside("simulate(1, #)", 1, 99, ARGUMENT, RICH);
        refusesOutside("simulate(-1, #)", 1, 99, ARGUMENT);
    }

    // ---- 31: save

    void promise31StoresThePresentState() {
        says("Promise 31", "Stores the present state in a save slot");
        on(loaded("a:x c-b=d:-z=", "learn(0, 0)", "type xy", "setFree(0)", "set(9, 12)", "set(10, 3)", "set(11, 0)"));
        String stored = state();
        step("save(1)");
        step("learn(1, 1)");
        step("setFree(1)");
        step("type zzz");
        step("setFree(0)");
        step("type q-r");
        step("insert(1)");
        step("set(9, 40)");
        step("set(10, 1)");
        step("forget(0)");
        step("join(0)");
        step("set(11, 1)");
        step("save(0)");
        String later = state();
        step("restore(1)");
        same("the state", state(), stored);
        due("errorPosition()", NONE);
        step("restore(0)");
        same("the state", state(), later);
        // What was stored before is replaced.
        step("save(1)");
        step("remove(0)");
        step("restore(1)");
        same("the state", state(), later);
    }

    void promise31HasTwoSlots() {
        says("Promise 31", "`slot`: 0 or 1");
        on(loaded("a b", "save(0)", "remove(0)", "save(1)", "remove(0)"));
        due("restore(0)", 2);
        due("restore(1)", 1);
        due("restore(0)", 2);
    }

    void promise31ReturnsTheNumberOfWords() {
        says("Promise 31", "Returns the number of words");
        on();
        due("save(0)", 0);
        due("save(1)", 0);
        on(twelve());
        due("save(1)", 12);
        step("remove(0)");
        due("save(1)", 11);
    }

    void promise31RefusesOtherSlots() {
        says("Promise 31", "Throws `IndexOutOfBoundsException` if there is no such save slot");
        refusesOutside("save(#)", 0, 1, INDEX, RICH);
        refuses("save(2)", INDEX, RICH);
        refuses("save(-1)", INDEX, RICH);
    }

    // ---- 32: restore

    void promise32ReplacesTheState() {
        says("Promise 32", "Replaces the state by the one in a save slot");
        on(RICH);
        step("type q");
        step("insert(0)");
        step("set(9, 60)");
        due("restore(0)", 3);
        dueNumbers("3 5 1 2 2 5 0 2 0 30 2 1");
        dueRows("kita-na=s   a", "see -x =pl  *", "Free line!", "b", "c");
        due("clearText()", 1);
        on("save(0)", "type a", "insert(0)");
        due("restore(0)", 0);
        dueNumbers("0 0 0 0 0 0 0 0 0 30 2 1");
    }

    void promise32HasTwoSlots() {
        says("Promise 32", "`slot`: 0 or 1");
        on(loaded("a:x b:y", "learn(0, 0)", "save(0)", "forget(0)", "learn(1, 0)", "save(1)", "remove(0)"));
        due("restore(1)", 2);
        dueEntries("b:y");
        due("restore(0)", 2);
        dueEntries("a:x");
    }

    void promise32ForgetsAllRememberedStates() {
        says("Promise 32", "and forgets all remembered states");
        on(loaded("a", "save(1)"));
        for (int k = 10; k < 30; k++) {
            step("set(9, " + k + ")");
        }
        step("restore(1)");
        due("undo()", STATE);
        step("set(9, 11)");
        due("undo()", 0);
        due("about(9)", 30);
    }

    void promise32KeepsTheSlot() {
        says("Promise 32", "The save slot keeps its state");
        on(loaded("a b", "save(0)", "remove(0)"));
        due("restore(0)", 2);
        due("remove(0)", 1);
        due("set(9, 10)", 30);
        due("restore(0)", 2);
        dueNumbers("2 2 2 1 1 2 0 0 0 30 2 1");
        due("restore(1)", STATE);
    }

    void promise32ReturnsTheNumberOfWords() {
        says("Promise 32", "Returns the number of words then");
        on("save(0)", "type a b c d e f g h i j k l", "insert(0)", "save(1)");
        due("restore(0)", 0);
        due("restore(1)", 12);
    }

    void promise32RefusesOtherSlots() {
        says("Promise 32", "Throws `IndexOutOfBoundsException` if there is no such save slot");
        refusesOutside("restore(#)", 0, 1, INDEX, RICH);
        refusesOutside("restore(#)", 0, 1, INDEX);
    }

    void promise32RefusesAnEmptySlot() {
        says("Promise 32", "Throws `IllegalStateException` if nothing has been saved in it");
        on();
        due("restore(0)", STATE);
        due("restore(1)", STATE);
        due("save(1)", 0);
        due("restore(0)", STATE);
        due("restore(1)", 0);
        refuses("restore(1)", STATE, RICH);
    }

    void promise32RefusesWhatWasSavedBeforeTheLastLoad() {
        says("Promise 32", "or not since the last load()");
        on(loaded("a", "save(0)", "save(1)", "load()", "save(1)"));
        due("restore(0)", STATE);
        due("restore(1)", 1);
        step("load()");
        due("restore(1)", STATE);
        // A load that throws empties no slot.
        on(loaded("a", "save(0)", "type A"));
        due("load()", STATE);
        due("restore(0)", 1);
    }
}
