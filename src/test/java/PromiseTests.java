/**
 * The promises 1 to 32, one method each: ordinary calls, the edges that the document names, and wrong
 * calls, which must throw what is named first and change nothing.
 */
public final class PromiseTests extends Bench {
    private PromiseTests() {
        super("PromiseTests");
    }

    public static void main(String[] args) {
        new PromiseTests().runAll();
    }

    void promise01() {
        on();
        dueNumbers("0 0 0 0 0 0 0 0 0 30 2 1");
        same("NONE", GlossRows.NONE, -9);
        due("undo()", STATE);
        due("restore(0)", STATE);
        due("restore(1)", STATE);
        due("errorPosition()", 0);
        due("clearText()", 0);
    }

    void promise02() {
        on();
        due("append(0)", 1);
        due("append(255)", 2);
        due("append(97)", 3);
        due("clearText()", 3);
        for (int k = 1; k <= 60; k++) {
            due("append(97)", k);
        }
        due("append(97)", STATE);
        due("append(256)", ARGUMENT);
        due("clearText()", 60);
        due("append(98)", 1);
        refuses("append(-1)", ARGUMENT, RICH);
        refuses("append(256)", ARGUMENT, RICH);
        refuses("append(97)", STATE, and(RICH, "type " + "a".repeat(60)));
        on("type a", "load()", "append(98)", "setFree(0)");
        dueRows("a", "*", "ab");
    }

    void promise03() {
        on("type ab c");
        due("clearText()", 4);
        due("clearText()", 0);
        due("errorPosition()", 0);
        on(RICH);
        due("clearText()", 10);
        dueNumbers("3 5 1 2 2 5 0 2 0 20 1 1");
        due("append(98)", 1);
        due("insert(0)", 4);
        due("undo()", 5);
    }

    void promise04() {
        String[][] dues = {
            {"", "0"}, {"a", "-9"}, {"a b", "-9"}, {"a-b=c-d", "-9"}, {"abcdefgh", "-9"}, {"a:", "-9"}, {"a:b.c", "-9"},
            {"a-b=c:x-=.", "-9"}, {"a-b=c:-=", "-9"}, {"a: b", "-9"}, {"a:........", "-9"}, {"z-z:z-z", "-9"},
            {"a b c d e f g h i j k l", "-9"}, {"a: b: c: d: e: f: g: h: i: j: k: l:", "-9"},
            {" a", "0"}, {"a ", "2"}, {"a  b", "2"}, {"-a", "0"}, {"a-", "2"}, {"a--b", "2"}, {"a-=b", "2"}, {"a- b", "2"},
            {":a", "0"}, {"a-:", "2"}, {"a::", "2"}, {"a:b:c", "3"}, {"A", "0"}, {"aB", "1"}, {"a.b", "1"}, {".", "0"},
            {"`", "0"}, {"{", "0"}, {"a:`", "2"}, {"a:{", "2"}, {"a:/", "2"}, {"a:A", "2"}, {"a*", "1"}, {"a:*", "2"},
            {"abcdefghi", "8"}, {"a-bcdefghij", "10"}, {"a:abcdefghi", "10"}, {"a:.........", "10"}, {"a-b:-abcdefghi", "13"},
            {"a-b-c-d-e", "7"}, {"a=b=c=d=", "7"}, {"a-b:c=d", "5"}, {"a=b:-", "4"}, {"a-b:c", "5"}, {"a-b:", "4"},
            {"a-b:c d", "5"}, {"a-b:c-d-", "7"}, {"a:-", "2"}, {"a-b=c:--", "7"}, {"a-b=c:-", "7"},
            {"a b c d e f g h i j k l m", "23"}, {"a b c d e f g h i j k l ", "23"}, {"a\u00ff", "1"}, {"a\u0000", "1"},
            {"a-b-c-d:a-b-c-d-", "15"}, {"a b c d e f g h i j k:- l", "22"}, {"a b c d e f g h i j k l:x y", "25"},
        };
        for (String[] text : dues) {
            on("type " + text[0]);
            same("errorPosition() of \"" + text[0] + "\"", ask("errorPosition()"), text[1]);
        }
        on("type " + "abcdefgh ".repeat(6) + "abcdef");
        due("errorPosition()", -9);
        on("type " + "abcdefgh ".repeat(6) + "abcde-");
        due("errorPosition()", 60);
        on("type a-b c", "errorPosition()", "type a:-");
        due("errorPosition()", 2);
        step("type a b:-");
        due("errorPosition()", 4);
        onlyTells("errorPosition()", "0", RICH);
        onlyTells("errorPosition()", "-9", and(RICH, "type q-r:x-y s"));
    }

    void promise05() {
        on("type kita-na=s:see-x=pl a b:c");
        due("load()", 3);
        dueNumbers("3 5 1 1 1 2 0 0 0 30 2 1");
        duePart(0, 0, "kita:see");
        duePart(0, 1, "na:x");
        duePart(0, 2, "s:pl");
        duePart(1, 0, "a:");
        duePart(2, 0, "b:c");
        due("clearText()", 24);
        on(and(RICH, "set(11, 0)", "save(1)", "type ab c:d"));
        due("load()", 2);
        dueNumbers("2 2 1 1 1 2 0 0 0 30 2 1");
        due("undo()", STATE);
        due("restore(0)", STATE);
        due("restore(1)", STATE);
        due("word(0, 5)", 0);
        due("word(1, 7)", 0);
        due("errorPosition()", -9);
        due("clearText()", 6);
        on("type a b c d e f g h i j k l");
        due("load()", 12);
        refuses("load()", STATE, RICH);
        refuses("load()", STATE, and(RICH, "clearText()"));
        refuses("load()", STATE, and(RICH, "type a b c d e f g h i j k l m"));
        refuses("load()", STATE, and(RICH, "type a-b:c"));
    }

    void promise06() {
        on(RICH);
        dueNumbers("3 5 1 2 2 5 0 2 0 20 1 1");
        on("type abcdefgh-abcdefgh abcdefgh-a b", "load()", "set(9, 10)");
        dueNumbers("3 5 5 1 3 6 1 0 0 10 2 1");
        step("end(0)");
        due("about(3)", 2);
        step("end(2)");
        due("about(3)", 2);
        due("about(4)", 3);
        on("type a:b a:c a:b a", "load()", "learn(0, 0)");
        due("about(8)", 1);
        step("learn(1, 0)");
        due("about(8)", 2);
        step("forget(0)");
        due("about(8)", 0);
        on("type ab-a:x-x a-ab:y-x", "load()", "learn(0, 0)");
        due("about(8)", 0);
        on("type a:bc a:b a:bcd", "load()", "learn(0, 0)");
        due("about(8)", 2);
        on("type a-b:x-y b:z a:z", "load()", "learn(1, 0)", "learn(2, 0)");
        due("about(8)", 2);
        on(largest("learn(0, 0)", "learn(0, 1)"));
        dueNumbers("12 48 12 1 4 8 0 2 0 30 2 1");
        on("type abcdefgh-b:-bcd a", "load()", "set(9, 10)", "set(11, 0)");
        due("about(6)", 0);
        step("set(11, 1)");
        due("about(6)", 1);
        on("type a b", "load()", "type 123456789012345678901234", "setFree(0)");
        due("about(5)", 5);
        step("set(9, 24)");
        due("about(5)", 5);
        step("set(9, 23)");
        due("about(5)", 6);
        step("set(9, 12)");
        due("about(5)", 6);
        step("set(9, 10)");
        due("about(5)", 7);
        refuses("about(-1)", ARGUMENT, RICH);
        refuses("about(12)", ARGUMENT, RICH);
        onlyTells("about(5)", "5", RICH);
    }

    void promise07() {
        on(RICH);
        String[] dues = {"3 10 0 0 0 0 0 0", "1 1 0 11 0 1 1 10", "1 1 1 0 1 0 0 0"};
        for (int i = 0; i < 3; i++) {
            StringBuilder numbers = new StringBuilder();
            for (int what = 0; what <= 7; what++) {
                numbers.append(ask("word(" + i + ", " + what + ")")).append(what < 7 ? " " : "");
            }
            same("word(" + i + ", 0 to 7)", numbers, dues[i]);
        }
        step("set(11, 0)");
        due("word(0, 1)", 9);
        due("word(1, 3)", 10);
        on("type abc-abc abc abc abcd", "load()", "set(9, 12)");
        due("word(1, 2)", 0);
        due("word(1, 3)", 9);
        due("word(2, 2)", 1);
        due("word(3, 3)", 5);
        step("set(9, 11)");
        due("word(1, 2)", 1);
        due("word(2, 3)", 5);
        due("word(3, 2)", 2);
        on("type a:abcd b-c:x-xyz a-b", "load()");
        due("word(0, 1)", 4);
        due("word(1, 1)", 5);
        due("word(2, 1)", 3);
        due("word(2, 6)", 2);
        refuses("word(-1, 0)", INDEX, RICH);
        refuses("word(3, 0)", INDEX, RICH);
        refuses("word(3, 8)", INDEX, RICH);
        refuses("word(2, 8)", ARGUMENT, RICH);
        refuses("word(0, -1)", ARGUMENT, RICH);
        onlyTells("word(1, 3)", "11", RICH);
    }

    void promise08() {
        on(RICH);
        String[] dues = {"0, 0: 4 3 -9 1", "0, 1: 2 1 45 -9", "0, 2: 1 2 61 -9", "1, 0: 1 0 -9 -9", "2, 0: 1 1 -9 0"};
        for (String due : dues) {
            String place = due.substring(0, 4);
            StringBuilder numbers = new StringBuilder(place + ":");
            for (int what = 0; what <= 3; what++) {
                numbers.append(' ').append(ask("part(" + place + ", " + what + ")"));
            }
            same("part(" + place + ", 0 to 3)", numbers, due);
        }
        on("type abcdefgh:........", "load()");
        due("part(0, 0, 0)", 8);
        due("part(0, 0, 1)", 8);
        refuses("part(-1, 0, 0)", INDEX, RICH);
        refuses("part(3, 0, 0)", INDEX, RICH);
        refuses("part(0, -1, 0)", INDEX, RICH);
        refuses("part(0, 3, 0)", INDEX, RICH);
        refuses("part(1, 1, 4)", INDEX, RICH);
        refuses("part(1, 0, 4)", ARGUMENT, RICH);
        refuses("part(1, 0, -1)", ARGUMENT, RICH);
        onlyTells("part(0, 0, 3)", "1", RICH);
    }

    void promise09() {
        on("type abcdefgh-z:z.yxwvut- b", "load()");
        duePart(0, 0, "abcdefgh:z.yxwvut");
        duePart(0, 1, "z:");
        duePart(1, 0, "b:");
        due("letter(0, 0, false, 7)", (int) 'h');
        due("letter(0, 0, false, 8)", -9);
        due("letter(0, 0, true, 1)", (int) '.');
        due("letter(0, 1, true, 0)", -9);
        due("letter(0, 1, false, 2147483647)", -9);
        refuses("letter(-1, 0, false, 0)", INDEX, RICH);
        refuses("letter(3, 0, true, 0)", INDEX, RICH);
        refuses("letter(0, 3, true, -1)", INDEX, RICH);
        refuses("letter(0, -1, true, 0)", INDEX, RICH);
        refuses("letter(0, 0, false, -1)", ARGUMENT, RICH);
        refuses("letter(1, 0, true, -2147483648)", ARGUMENT, RICH);
        onlyTells("letter(0, 0, true, 0)", String.valueOf((int) 's'), RICH);
    }

    void promise10() {
        on("type b:x ab:yy a:z abc:w ba:v", "load()");
        for (int i = 0; i < 5; i++) {
            step("learn(" + i + ", 0)");
        }
        dueEntries("a:z", "ab:yy", "abc:w", "b:x", "ba:v");
        due("entry(1, true, 1)", (int) 'y');
        due("entry(1, true, 2)", -9);
        due("entry(4, false, 1)", (int) 'a');
        due("entry(4, false, 2147483647)", -9);
        on("type abcdefgh:stuvwxyz", "load()", "learn(0, 0)");
        dueEntries("abcdefgh:stuvwxyz");
        refuses("entry(-1, false, 0)", INDEX, RICH);
        refuses("entry(2, false, 0)", INDEX, RICH);
        refuses("entry(2, true, -1)", INDEX, RICH);
        refuses("entry(1, true, -1)", ARGUMENT, RICH);
        onlyTells("entry(1, false, 3)", String.valueOf((int) 'a'), RICH);
        on();
        due("entry(0, false, 0)", INDEX);
    }

    void promise11() {
        on(RICH);
        String[] dues = {"0 12 0", "1 12 0", "2 10 0", "0 1 1", "1 1 1"};
        dueRowNumbers(dues);
        on("type a b c", "load()", "set(9, 10)", "type 123456789012345678901", "setFree(0)", "setFree(2)");
        dueRowNumbers("0 1 0", "1 1 0", "2 10 0", "2 10 0", "2 1 0", "0 4 1", "1 4 1", "2 10 1", "2 10 1", "2 1 1");
        on("type abcdefgh=abcdefgh a", "load()", "set(9, 10)");
        dueRowNumbers("0 17 0", "1 17 0", "0 1 0", "1 1 0");
        refuses("row(-1, 0)", INDEX, RICH);
        refuses("row(5, 0)", INDEX, RICH);
        refuses("row(5, 3)", INDEX, RICH);
        refuses("row(4, 3)", ARGUMENT, RICH);
        refuses("row(0, -1)", ARGUMENT, RICH);
        onlyTells("row(3, 2)", "1", RICH);
        on();
        due("row(0, 0)", INDEX);
    }

    void promise12() {
        on(RICH);
        dueRows("kita-na=s  a", "see -x =pl *", "Free line!", "b", "c");
        step("set(11, 0)");
        dueRows("kita-na=s a", "see-x=pl  *", "Free line!", "b", "c");
        on("type ab-c=d:x-yyy=zz abc abc a:", "load()", "set(9, 12)");
        dueRows("ab-c  =d ", "x -yyy=zz", "abc  abc  a", "*    *    *");
        step("set(10, 3)");
        dueRows("ab-c  =d ", "x -yyy=zz", "abc   abc", "*     *  ", "a", "*");
        step("set(11, 0)");
        dueRows("ab-c=d  ", "x-yyy=zz", "abc   abc", "*     *  ", "a", "*");
        on("type a-b=c:-=x a-b", "load()", "type ~!  ", "setFree(1)");
        dueRows("a-b=c  a-b", "*-*=x  *-*", "~!  ");
        on("type a", "load()", "set(9, 10)", "type 0123456789abcdefghij", "setFree(0)");
        dueRows("a", "*", "0123456789", "abcdefghij");
        due("at(0, 1)", -9);
        due("at(2, 9)", (int) '9');
        due("at(2, 10)", -9);
        due("at(3, 2147483647)", -9);
        refuses("at(-1, 0)", INDEX, RICH);
        refuses("at(5, 0)", INDEX, RICH);
        refuses("at(5, -1)", INDEX, RICH);
        refuses("at(2, -1)", ARGUMENT, RICH);
        onlyTells("at(1, 3)", "32", RICH);
    }

    void promise13() {
        on(and(RICH, "type q-r:x- s"));
        due("insert(0)", 5);
        dueRows("q-r s kita-na=s  a", "x-* * see -x =pl *", "Free line!", "b", "c");
        due("errorPosition()", -9);
        due("undo()", 5);
        due("insert(1)", 5);
        due("word(1, 0)", 2);
        due("word(3, 5)", 1);
        due("word(3, 7)", 10);
        due("undo()", 5);
        due("insert(2)", 5);
        due("word(2, 4)", 1);
        due("word(1, 5)", 1);
        due("word(2, 5)", 0);
        due("undo()", 5);
        due("insert(3)", 5);
        duePart(2, 0, "b:c");
        duePart(3, 0, "q:x");
        duePart(4, 0, "s:");
        on("type a");
        due("insert(0)", 1);
        due("about(2)", 1);
        on(twelve("remove(11)", "type m n"));
        due("insert(11)", STATE);
        step("type m");
        due("insert(11)", 12);
        due("insert(0)", STATE);
        due("insert(13)", INDEX);
        on("type a b c d e f", "load()", "end(5)", "type x", "setFree(5)", "type g h i j k l", "insert(3)", "remove(0)");
        step("type q");
        due("insert(11)", 12);
        due("word(11, 5)", 0);
        due("word(11, 7)", 0);
        due("word(10, 5)", 1);
        refuses("insert(-1)", INDEX, RICH);
        refuses("insert(4)", INDEX, RICH);
        refuses("insert(0)", STATE, RICH);
        refuses("insert(3)", STATE, and(RICH, "clearText()"));
        refuses("insert(4)", INDEX, and(RICH, "type a"));
        refuses("insert(1)", STATE, and(RICH, "type a b c d e f g h i j"));
    }

    void promise14() {
        on(RICH);
        due("remove(1)", 2);
        dueRows("kita-na=s  b", "see -x =pl c");
        dueNumbers("2 4 0 1 1 2 0 2 0 20 1 1");
        due("remove(1)", 1);
        due("remove(0)", 0);
        due("about(3)", 0);
        due("remove(0)", INDEX);
        due("undo()", 7);
        duePart(0, 0, "kita:see");
        on(twelve("end(3)", "end(7)"));
        due("remove(0)", 11);
        due("word(2, 5)", 1);
        due("word(6, 5)", 1);
        due("word(10, 5)", 0);
        duePart(10, 0, "l:l");
        due("remove(10)", 10);
        due("about(3)", 3);
        due("remove(2)", 9);
        due("about(3)", 2);
        refuses("remove(-1)", INDEX, RICH);
        refuses("remove(3)", INDEX, RICH);
    }

    void promise15() {
        on("type a b c", "load()");
        due("end(2)", 1);
        due("end(0)", 2);
        due("word(0, 5)", 1);
        due("end(1)", 3);
        due("end(1)", 3);
        dueRows("a", "*", "b", "*", "c", "*");
        due("undo()", 3);
        due("undo()", 2);
        due("word(1, 5)", 0);
        on(RICH);
        due("end(1)", 2);
        due("word(1, 7)", 10);
        refuses("end(-1)", INDEX, RICH);
        refuses("end(3)", INDEX, RICH);
    }

    void promise16() {
        on(RICH);
        due("join(1)", 1);
        due("word(1, 5)", 0);
        due("word(1, 7)", 0);
        dueRows("kita-na=s  a b", "see -x =pl * c");
        due("join(2)", 1);
        due("undo()", 6);
        due("end(1)", 2);
        due("word(1, 7)", 0);
        due("undo()", 6);
        due("undo()", 5);
        due("word(1, 7)", 10);
        on("type a b", "load()", "end(1)");
        due("join(1)", 1);
        due("word(1, 5)", 0);
        refuses("join(-1)", INDEX, RICH);
        refuses("join(3)", INDEX, RICH);
    }

    void promise17() {
        on("type a b c", "load()", "type  x~");
        due("setFree(2)", 3);
        due("word(2, 5)", 1);
        due("about(3)", 1);
        due("setFree(0)", 3);
        due("about(3)", 2);
        dueRows("a", "*", " x~", "b  c", "*  *", " x~");
        step("type 123456789012345678901234");
        due("setFree(0)", 24);
        step("type ab");
        due("setFree(0)", 2);
        due("word(0, 7)", 2);
        step("type x");
        due("setFree(1)", 1);
        due("word(1, 5)", 1);
        due("undo()", 4);
        step("clearText()");
        due("setFree(0)", 0);
        due("word(0, 5)", 1);
        due("word(0, 7)", 0);
        due("setFree(1)", 0);
        due("word(1, 5)", 0);
        due("undo()", 5);
        refuses("setFree(-1)", INDEX, RICH);
        refuses("setFree(3)", INDEX, RICH);
        refuses("setFree(0)", STATE, and(RICH, "type 1234567890123456789012345"));
        refuses("setFree(0)", STATE, and(RICH, "type a\u001fb"));
        refuses("setFree(0)", STATE, and(RICH, "type a\u007f"));
        refuses("setFree(0)", STATE, and(RICH, "type \u001fa"));
        refuses("setFree(2)", STATE, and(RICH, "type \u00e9"));
        refuses("setFree(3)", INDEX, and(RICH, "type \u007f"));
    }

    void promise18() {
        on("type a-b c", "load()", "type x.y");
        due("setGloss(0, 1)", 2);
        duePart(0, 0, "a:");
        duePart(0, 1, "b:x.y");
        step("type abcdefgh");
        due("setGloss(0, 1)", 2);
        duePart(0, 1, "b:abcdefgh");
        due("setGloss(1, 0)", 1);
        step("clearText()");
        due("setGloss(0, 1)", 2);
        due("gap(1)", 1);
        due("undo()", 3);
        refuses("setGloss(-1, 0)", INDEX, and(RICH, "type a"));
        refuses("setGloss(3, 0)", INDEX, and(RICH, "type a"));
        refuses("setGloss(0, 3)", INDEX, and(RICH, "type a"));
        refuses("setGloss(0, -1)", INDEX, and(RICH, "type A"));
        refuses("setGloss(0, 0)", STATE, and(RICH, "type A"));
        refuses("setGloss(0, 0)", STATE, and(RICH, "type abcdefghi"));
        refuses("setGloss(0, 0)", STATE, and(RICH, "type a-b"));
        refuses("setGloss(0, 0)", STATE, and(RICH, "type a`"));
        refuses("setGloss(0, 0)", STATE, and(RICH, "type {a"));
        refuses("setGloss(0, 0)", STATE, and(RICH, "type a b"));
    }

    void promise19() {
        on("type abc abc", "load()");
        due("set(9, 10)", 30);
        due("set(9, 60)", 10);
        due("set(10, 1)", 2);
        due("set(10, 3)", 1);
        due("set(11, 0)", 1);
        due("set(11, 1)", 0);
        due("set(11, 1)", 1);
        dueNumbers("2 2 2 1 1 2 0 0 0 60 3 1");
        due("undo()", 6);
        due("undo()", 5);
        due("about(11)", 0);
        refuses("set(9, 9)", ARGUMENT, RICH);
        refuses("set(9, 61)", ARGUMENT, RICH);
        refuses("set(10, 0)", ARGUMENT, RICH);
        refuses("set(10, 4)", ARGUMENT, RICH);
        refuses("set(11, -1)", ARGUMENT, RICH);
        refuses("set(11, 2)", ARGUMENT, RICH);
        refuses("set(8, 1)", ARGUMENT, RICH);
        refuses("set(12, 1)", ARGUMENT, RICH);
        refuses("set(-1, 10)", ARGUMENT, RICH);
    }

    void promise20() {
        on("type b:x a-b:y-z c", "load()");
        due("learn(0, 0)", 1);
        due("learn(1, 0)", 2);
        dueEntries("a:y", "b:x");
        due("learn(1, 1)", 2);
        dueEntries("a:y", "b:z");
        due("part(0, 0, 3)", 1);
        due("undo()", 2);
        dueEntries("a:y", "b:x");
        due("learn(2, 0)", STATE);
        on(fullLexicon());
        due("about(7)", 16);
        due("learn(0, 0)", STATE);
        due("learn(1, 0)", 16);
        due("entry(4, true, 0)", (int) 'f');
        due("forget(0)", 15);
        due("learn(0, 0)", 16);
        due("entry(15, false, 0)", (int) 'q');
        due("entry(0, false, 0)", (int) 'b');
        refuses("learn(-1, 0)", INDEX, RICH);
        refuses("learn(3, 0)", INDEX, RICH);
        refuses("learn(1, 1)", INDEX, RICH);
        refuses("learn(0, -1)", INDEX, RICH);
        refuses("learn(1, 0)", STATE, RICH);
    }

    void promise21() {
        on("type a:x b:y c:z", "load()", "learn(0, 0)", "learn(1, 0)", "learn(2, 0)");
        due("forget(1)", 2);
        dueEntries("a:x", "c:z");
        due("part(1, 0, 3)", -9);
        due("forget(1)", 1);
        due("forget(0)", 0);
        due("forget(0)", INDEX);
        due("undo()", 5);
        dueEntries("a:x");
        refuses("forget(-1)", INDEX, RICH);
        refuses("forget(2)", INDEX, RICH);
    }

    void promise22() {
        on("type a:x b-a:y- a a:z c", "load()");
        due("fillGaps()", 0);
        step("learn(0, 0)");
        due("fillGaps()", 2);
        duePart(1, 1, "a:x");
        duePart(2, 0, "a:x");
        duePart(3, 0, "a:z");
        duePart(4, 0, "c:");
        due("fillGaps()", 0);
        due("undo()", 3);
        due("undo()", 2);
        due("about(2)", 3);
        on(largest("learn(0, 0)"));
        due("fillGaps()", 0);
        step("type w");
        step("setGloss(5, 3)");
        step("learn(5, 3)");
        due("fillGaps()", 11);
        duePart(11, 3, "d:w");
        on();
        due("fillGaps()", 0);
        due("undo()", 0);
    }

    void promise23() {
        on(RICH);
        due("undo()", 4);
        dueNumbers("3 5 1 2 2 5 0 2 0 20 2 1");
        due("undo()", 3);
        due("about(9)", 30);
        due("undo()", 2);
        due("word(1, 5)", 0);
        due("word(1, 7)", 0);
        due("undo()", 1);
        dueEntries("kita:see");
        due("undo()", 0);
        dueNumbers("3 5 1 1 1 2 0 0 0 30 2 1");
        due("undo()", STATE);
        due("clearText()", 10);
        due("restore(0)", 3);
        due("word(1, 7)", 10);
        on("type a", "load()");
        for (int width = 10; width < 30; width++) {
            step("set(9, " + width + ")");
        }
        for (int k = 13; k >= 0; k--) {
            due("undo()", k);
            due("about(9)", 15 + k);
        }
        due("undo()", STATE);
        due("about(9)", 15);
        on(twelve("end(2)", "type x", "setFree(5)", "setGloss(4, 0)", "learn(4, 0)", "remove(0)", "fillGaps()"));
        due("undo()", 5);
        due("undo()", 4);
        due("about(0)", 12);
        due("undo()", 3);
        due("about(7)", 0);
        due("undo()", 2);
        duePart(4, 0, "e:e");
        due("undo()", 1);
        due("word(5, 7)", 0);
        due("set(10, 3)", 2);
        due("undo()", 1);
        due("undo()", 0);
        due("about(3)", 1);
        refuses("undo()", STATE, "type ab c", "load()");
        refuses("undo()", STATE, and(RICH, "restore(0)"));
    }

    void promise24() {
        on("type a-b:x- c d-e:-y f", "load()");
        due("gap(0)", 1);
        due("gap(1)", 10);
        due("gap(2)", 20);
        due("gap(3)", 30);
        due("gap(4)", -9);
        due("gap(2147483647)", -9);
        on("type a b c d e f g h i j k a-b-c-d:x-x-x-", "load()");
        due("gap(11)", 113);
        on(largest());
        due("gap(11)", 113);
        due("gap(12)", -9);
        step("remove(11)");
        due("gap(11)", -9);
        on();
        due("gap(0)", -9);
        refuses("gap(-1)", ARGUMENT, RICH);
        onlyTells("gap(0)", "10", RICH);
    }

    void promise25() {
        on();
        due("mostUsed()", -9);
        on("type c b b-c a", "load()");
        due("mostUsed()", 10);
        on("type b a", "load()");
        due("mostUsed()", 10);
        on("type ab-a abc", "load()");
        due("mostUsed()", 1);
        on("type a-b-c-b b c", "load()");
        due("mostUsed()", 1);
        on("type a a:x b:y c b:z b:y", "load()");
        due("mostUsed()", 20);
        on("type a b c d e f g h i j x z-z", "load()");
        due("mostUsed()", 110);
        on(largest());
        due("mostUsed()", 0);
        on("type b a a", "load()", "remove(2)", "type b", "insert(2)", "remove(1)", "remove(1)");
        due("mostUsed()", 0);
        onlyTells("mostUsed()", "10", RICH);
    }

    void promise26() {
        on();
        due("widthFor(0)", 10);
        on("type abcdefgh abcdefgh abcdefgh", "load()");
        due("widthFor(0)", -9);
        due("widthFor(1)", -9);
        due("widthFor(2)", 28);
        due("widthFor(3)", 28);
        due("widthFor(4)", 18);
        due("widthFor(5)", 18);
        due("widthFor(6)", 10);
        due("widthFor(99)", 10);
        step("set(10, 3)");
        due("widthFor(2)", 30);
        on("type a-b:abcdefgh-x c-d:x-abcdefgh", "load()");
        due("widthFor(2)", 22);
        on("type abcd-b:x-abcd a", "load()");
        due("widthFor(2)", 12);
        step("set(11, 0)");
        due("widthFor(2)", 10);
        on("type a", "load()", "type 123456789012345678901234", "setFree(0)");
        due("widthFor(2)", -9);
        due("widthFor(3)", 24);
        due("widthFor(4)", 12);
        due("widthFor(5)", 10);
        on("type abcdefgh-abcdefgh-abcdefgh-abcdefgh abcdefgh-abcdefgh", "load()", "type a-abcdefgh", "insert(2)");
        due("widthFor(4)", 29);
        due("widthFor(5)", 29);
        due("widthFor(6)", 10);
        due("widthFor(3)", -9);
        on("type abcdefgh-abcdefgh-abcdefgh-abc abcdefgh-abcdefgh-abcdefg", "load()");
        due("widthFor(2)", 57);
        step("type q");
        step("insert(2)");
        due("widthFor(2)", 60);
        step("set(10, 1)");
        due("widthFor(2)", 58);
        step("set(10, 3)");
        due("widthFor(2)", -9);
        due("widthFor(4)", 29);
        on(largest());
        due("widthFor(4)", 52);
        due("widthFor(2)", -9);
        due("widthFor(24)", 10);
        refuses("widthFor(-1)", ARGUMENT, RICH);
        refuses("widthFor(100)", ARGUMENT, RICH);
        onlyTells("widthFor(4)", "-9", RICH);
        onlyTells("widthFor(5)", "12", RICH);
    }

    void promise27() {
        on();
        due("empty()", 0);
        on(RICH);
        due("empty()", 27);
        on("type abcdefgh=abcdefgh abcdefgh a", "load()", "set(9, 10)");
        due("empty()", 11);
        step("set(9, 17)");
        due("empty()", 6);
        step("set(9, 16)");
        due("empty()", 5);
        on("type a", "load()");
        due("empty()", 29);
        step("set(9, 10)");
        due("empty()", 9);
        on(largest());
        due("empty()", 20);
        on("type abcdefgh ab", "load()", "set(9, 12)");
        due("empty()", 0);
        onlyTells("empty()", "27", RICH);
    }

    void promise28() {
        on(RICH);
        due("rowsWith(20, 1)", 5);
        due("rowsWith(12, 1)", 5);
        due("rowsWith(11, 1)", 7);
        due("rowsWith(11, 0)", 5);
        due("rowsWith(10, 0)", 7);
        due("rowsWith(60, 0)", 5);
        dueNumbers("3 5 1 2 2 5 0 2 0 20 1 1");
        on("type a", "load()", "type 12345678901", "setFree(0)");
        due("rowsWith(10, 0)", 4);
        due("rowsWith(11, 0)", 3);
        on("type abcd abcd", "load()", "set(10, 3)");
        due("rowsWith(11, 0)", 2);
        due("rowsWith(10, 0)", 4);
        on();
        due("rowsWith(10, 0)", 0);
        refuses("rowsWith(9, 0)", ARGUMENT, RICH);
        refuses("rowsWith(61, 0)", ARGUMENT, RICH);
        refuses("rowsWith(10, -1)", ARGUMENT, RICH);
        refuses("rowsWith(10, 2)", ARGUMENT, RICH);
        onlyTells("rowsWith(11, 0)", "5", RICH);
    }

    void promise29() {
        on(RICH);
        String[][] dues = {
            {"1, 1010", "-9"}, {"1, 1060", "-9"}, {"1, 1009", "0"}, {"1, 1061", "0"}, {"1, 1110", "0"},
            {"1, 2000", "-9"}, {"1, 2001", "-9"}, {"1, 2002", "0"}, {"1, 2010", "0"}, {"1, 2100", "0"},
            {"1, 3002", "-9"}, {"1, 3003", "0"}, {"1, 3100", "0"}, {"1, 4002", "-9"}, {"1, 4003", "0"}, {"1, 4100", "0"},
            {"1, 5002", "-9"}, {"1, 5003", "0"}, {"1, 5100", "0"}, {"1, 6200", "-9"}, {"1, 6300", "0"}, {"1, 6003", "0"},
            {"1, 6001", "0"}, {"1, 7000", "-9"}, {"1, 7001", "0"}, {"1, 7010", "0"}, {"1, 7100", "0"},
            {"1, 8005", "-9"}, {"1, 8004", "0"}, {"1, 8099", "-9"}, {"1, 8105", "0"},
            {"1, 9001", "-9"}, {"1, 9000", "0"}, {"1, 9002", "0"}, {"1, 9101", "0"}, {"1, 0", "0"}, {"1, 999", "0"},
            {"2, 7000", "0"}, {"2, 10117000", "-9"}, {"2, 10118006", "1"}, {"2, 10118007", "-9"}, {"3, 101120008005", "-9"},
            {"2, 50018002", "-9"}, {"2, 50005002", "1"}, {"3, 500050005000", "-9"}, {"4, 5000500050005000", "3"},
            {"4, 5000500050008000", "-9"}, {"2, 40018002", "-9"}, {"2, 30008006", "1"}, {"2, 30008007", "-9"},
            {"4, 7000700070007000", "-9"}, {"4, 9001700090019000", "3"}, {"3, 700070000000", "2"},
        };
        for (String[] script : dues) {
            due("runScript(" + script[0] + ")", script[1]);
        }
        dueNumbers("3 5 1 2 2 5 0 2 0 20 1 1");
        on("type a:x a b", "load()");
        due("runScript(3, 600070009001)", -9);
        due("runScript(2, 70009002)", -9);
        due("runScript(4, 6000700090019001)", -9);
        due("about(7)", 0);
        on(fullLexicon());
        due("runScript(1, 6000)", 0);
        due("runScript(1, 6001)", -9);
        on("type a", "load()", "type " + "x".repeat(24), "setFree(0)");
        due("runScript(2, 40008002)", -9);
        due("runScript(3, 400030008002)", -9);
        on();
        due("runScript(1, 8000)", -9);
        due("runScript(1, 5000)", 0);
        refuses("runScript(0, 0)", ARGUMENT, RICH);
        refuses("runScript(5, 0)", ARGUMENT, RICH);
        refuses("runScript(1, -1)", ARGUMENT, RICH);
        refuses("runScript(1, 10000)", ARGUMENT, RICH);
        refuses("runScript(2, 100000000)", ARGUMENT, RICH);
        refuses("runScript(4, 10000000000000000)", ARGUMENT, RICH);
        refuses("runScript(4, -9223372036854775808)", ARGUMENT, RICH);
        onlyTells("runScript(4, 5001620070001010)", "-9", RICH);
    }

    void promise30() {
        on();
        due("simulate(1, 99)", 0);
        String wide = "abcdefgh=abcdefgh x";
        on("type " + wide, "load()");
        for (long seed : new long[] {0, 1, -1, 7, Long.MAX_VALUE, Long.MIN_VALUE, 1234567890123L}) {
            due("simulate(" + seed + ", 99)", simulated(wide, "", seed, 99));
            due("simulate(" + seed + ", 1)", simulated(wide, "", seed, 1));
        }
        dueNumbers("2 3 3 1 1 2 0 0 0 30 2 1");
        String leveled = "abcdef-a:-abcdef abcdef-b:-abcdef abcdef-c:-abcdef";
        on("type " + leveled, "load()");
        for (long seed = 0; seed < 10; seed++) {
            due("simulate(" + seed + ", 99)", simulated(leveled, "", seed, 99));
        }
        on("type a", "load()", "type " + "x".repeat(24), "setFree(0)");
        due("simulate(9, 99)", simulated("a", "x".repeat(24), 9, 99));
        on(largest());
        step("simulate(9, 99)");
        refuses("simulate(1, 0)", ARGUMENT, RICH);
        refuses("simulate(1, 100)", ARGUMENT, RICH);
        onlyTells("simulate(5, 99)", Sheet.after(RICH).ask("simulate(5, 99)"), RICH);
    }

    /** The rounds of a simulation, by actions on a page of some words, the word 0 with a free line. */
    private static int simulated(String words, String free, long seed, int m) {
        GlossRows rows = new GlossRows();
        type(rows, words);
        int count = rows.load();
        rows.clearText();
        type(rows, free);
        rows.setFree(0);
        long x = seed;
        int sum = 0;
        for (int round = 0; round < m; round++) {
            x = x * 6364136223846793005L + 1442695040888963407L;
            int r = (int) (x >>> 33);
            int rest = r / 4;
            switch (r % 4) {
                case 0 -> rows.set(9, 10 + rest % 51);
                case 1 -> rows.set(11, rest % 2);
                case 2 -> rows.set(10, 1 + rest % 3);
                default -> turnEnd(rows, rest % count);
            }
            sum += rows.about(5);
        }
        return sum;
    }

    private static void type(GlossRows rows, String text) {
        for (char c : text.toCharArray()) {
            rows.append(c);
        }
    }

    private static void turnEnd(GlossRows rows, int i) {
        if (rows.word(i, 5) == 1) {
            rows.join(i);
        } else {
            rows.end(i);
        }
    }

    void promise31() {
        on(RICH);
        due("save(1)", 3);
        due("remove(0)", 2);
        due("save(0)", 2);
        due("undo()", 5);
        due("restore(1)", 3);
        dueNumbers("3 5 1 2 2 5 0 2 0 20 1 1");
        due("restore(0)", 2);
        dueNumbers("2 2 1 2 2 5 0 2 0 20 1 1");
        due("save(1)", 2);
        due("set(9, 11)", 20);
        due("save(1)", 2);
        due("undo()", 0);
        due("restore(1)", 2);
        due("about(9)", 11);
        on();
        due("save(0)", 0);
        step("type a");
        step("insert(0)");
        due("restore(0)", 0);
        due("about(0)", 0);
        refuses("save(-1)", INDEX, RICH);
        refuses("save(2)", INDEX, RICH);
    }

    void promise32() {
        on(RICH);
        step("type q");
        step("insert(0)");
        due("restore(0)", 3);
        dueNumbers("3 5 1 2 2 5 0 2 0 30 2 1");
        dueRows("kita-na=s   a", "see -x =pl  *", "Free line!", "b", "c");
        dueEntries("b:c", "kita:see");
        due("undo()", STATE);
        due("errorPosition()", -9);
        due("clearText()", 1);
        due("remove(0)", 2);
        due("forget(0)", 1);
        due("undo()", 1);
        due("restore(0)", 3);
        due("about(7)", 2);
        due("restore(0)", 3);
        refuses("restore(1)", STATE, RICH);
        refuses("restore(-1)", INDEX, RICH);
        refuses("restore(2)", INDEX, RICH);
        on(and(RICH, "type a", "load()"));
        due("restore(0)", STATE);
        due("save(0)", 1);
        due("restore(0)", 1);
        due("restore(1)", STATE);
    }
}
