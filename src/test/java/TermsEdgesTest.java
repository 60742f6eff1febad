/**
 * Sentences of the document's "Terms" that name a boundary, each with its own test: the last input on
 * this side, the first beyond it, and what stays as it was.
 */
public final class TermsEdgesTest {
    private static final int NONE = PhraseLearner.NONE;
    private static final String PAIRS = "S>aSb|ab;";
    private static final String ALL_A = "S>a|SS;";
    private static final String TWENTY = "aaaaaaaaaaaaaaaaaaaa";
    /** Six NAMES are there behind it. */
    private static final String SIX_NAMES = "S>ABCD|E;";

    private TermsEdgesTest() {
    }

    private static void due(String name, Object want, Check.Call call) {
        Check.due(name, want, call);
    }

    private static void faultIs(String text, int number, int place) {
        PhraseLearner x = new PhraseLearner();
        String shown = text.length() > 60 ? text.length() + " bytes" : text.replace("\n", "\\n");
        due("FAULT of " + shown, number, () -> Check.teach(x, text));
        due("its place in " + shown, place, () -> x.fault());
    }

    private static void isGrammar(String text) {
        faultIs(text, 0, NONE);
    }

    private static String many(String text, int times) {
        return text.repeat(times);
    }

    /** "A GRAMMAR is told by a TEXT of at most 400 bytes." */
    private static void textOf400Bytes() {
        String text = "S>a|" + many(" ", 394) + "b;";
        isGrammar(text);
        due("the last two of 400 bytes are read", 2, () -> Check.taught(text).many(1, 0));
        faultIs("S>a|" + many("\n", 395) + "b", 1, 400);
        faultIs(many(" ", 400), 1, 400);
        faultIs("S>a;" + many(" ", 395) + ";", 1, 399);
        PhraseLearner x = new PhraseLearner();
        Check.feed(x, text);
        due("there are no 401", Check.ILLEGAL, () -> x.teach(401));
        due("but 400", 0, () -> x.teach(400));
    }

    /** Which bytes go on behind a beginning; each other one is FAULT 1 at its place. */
    private static void goesOn(String beginning, String allowed, String ending) {
        for (int value = 0; value < 256; value++) {
            String text = beginning + (char) value;
            if (ending.indexOf(value) >= 0) {
                isGrammar(text);
            } else {
                // with a TOKEN that can stand there it is the end of the text that can't
                faultIs(text, 1, allowed.indexOf(value) >= 0 ? text.length() : beginning.length());
            }
        }
    }

    /** "TOKENS: a GREAT LETTER (A .. Z), a SIGN (a, b, c, d), one of > | ;", "blanks (32, 10)", "any other byte". */
    private static void bytesThatCanStand() {
        String great = "ABCDEFGHIJKLMNOPQRSTUVWXYZ";
        String blanks = " \n";
        goesOn("", great + blanks, "");
        goesOn("S", ">" + blanks, "");
        goesOn("S>", great + "abcd" + blanks, "");
        goesOn("S>a", great + "abcd|" + blanks, ";");
        goesOn("S>A", great + "abcd|" + blanks, ";");
        goesOn("S>a|", great + "abcd" + blanks, "");
        goesOn("S>a;", great, blanks);
        goesOn("S>a;S", ">" + blanks, "");
    }

    /** "blanks between them, which count for nothing", "each one byte; whatever stands beside it". */
    private static void blanksCountForNothing() {
        isGrammar("\n S \n>\n\n a  S\n b\n|a b\n;\n ");
        isGrammar(PAIRS);
        PhraseLearner x = Check.taught("\n S \n>\n\n a  S\n b\n|a b\n;\n ");
        PhraseLearner y = Check.taught(PAIRS);
        due("blanks count for nothing", Check.stateOf(y), () -> Check.stateOf(x));
        faultIs(" \nS > a a\n a a  a;", 3, 16);
        faultIs("  S>a;  >", 1, 8);
        faultIs("S>ABCD|\n\nE\n ;\nF>a;", 2, 14);
    }

    /** "TEXT: LINE LINE*", "the end of the text where it can't end: its length". */
    private static void endOfTheText() {
        faultIs("", 1, 0);
        faultIs("\n", 1, 1);
        faultIs("S>a;  S", 1, 7);
        faultIs("S>a;  S  ", 1, 9);
        faultIs("S>a;S>", 1, 6);
        faultIs("S>a;S>b", 1, 7);
        faultIs("S>a;S>b \n", 1, 9);
        isGrammar("S>a;");
        isGrammar("S>a;S>b;");
        isGrammar("S>a;S>b;T>c;  ");
        PhraseLearner x = new PhraseLearner();
        Check.feed(x, "S>a;|||");
        due("what stands behind n bytes isn't the text", 0, () -> x.teach(4));
        Check.feed(x, "S>a;");
        due("nor what would end it", 1, () -> x.teach(3));
        due("it ends at n", 3, () -> x.fault());
        Check.feed(x, "S>a;");
        due("no byte at all", 1, () -> x.teach(0));
        due("ends at 0", 0, () -> x.fault());
    }

    /** "BODY: (GREAT | SIGN){1, 4}", "the 5th of a BODY", "a 5th GREAT LETTER or SIGN of a BODY can". */
    private static void oneToFourOfABody() {
        faultIs("S>;", 1, 2);
        faultIs("S>a|;", 1, 4);
        faultIs("S>|a;", 1, 2);
        isGrammar("S>a;");
        isGrammar("S>S;");
        isGrammar("S>abcd;");
        isGrammar("S>aSbS;");
        isGrammar("S>SSSS|abcd;S>dcba;");
        faultIs("S>abcda;", 3, 6);
        faultIs("S>abcdS;", 3, 6);
        faultIs("S>a|abcda;", 3, 8);
        faultIs("S>a;S>SSSSS;", 3, 10);
        faultIs("S>abcd>", 1, 6);
        faultIs("S>abcde", 1, 6);
        faultIs("S>abcd", 1, 6);
        faultIs("S>abcda", 3, 6);
    }

    /** "2 it is a 7th NAME", "GREAT LETTERS are NAMES, numbered as they come (also on the right)". */
    private static void sixNames() {
        due("six NAMES, most on the right", 6, () -> Check.taught(SIX_NAMES).count(0));
        due("six NAMES, all on the left", 6, () -> Check.taught("Z>a;Y>a;X>a;W>a;V>a;A>a;").count(0));
        due("a NAME again is the same", 6, () -> Check.taught(SIX_NAMES + "E>S|A|B|C|D|E;").count(0));
        due("one NAME", 1, () -> Check.taught("S>a;").count(0));
        faultIs(SIX_NAMES + "F>a;", 2, 9);
        faultIs("S>ABCD|EF;", 2, 8);
        faultIs("Z>a;Y>a;X>a;W>a;V>a;A>aB;", 2, 23);
        faultIs("Z>a;Y>a;X>a;W>a;V>a;A>a;B>a;", 2, 24);
    }

    /** "3 it is the first TOKEN of a 17th BODY". */
    private static void sixteenBodies() {
        String sixteen = "S>a" + many("|a", 15);
        due("16 BODIES", 16, () -> Check.taught(sixteen + ";").count(1));
        due("16 BODIES of many LINES", 16, () -> Check.taught(many("S>a;", 15) + "T>a;").count(1));
        faultIs(sixteen + "|a;", 3, 34);
        faultIs(sixteen + "| \nS;", 3, 36);
        faultIs(sixteen + ";S>a;", 3, 36);
        faultIs(many("S>a;", 16) + "T>T;", 3, 66);
        // neither | nor the LINE's NAME is the BODY's first TOKEN
        faultIs(sixteen + "|", 1, 34);
        faultIs(sixteen + ";T>", 1, 36);
        isGrammar("S>a" + many("|a", 14) + "|abcd;");
        faultIs("S>a" + many("|a", 14) + "|abcda;", 3, 36);
    }

    /** "at the first TOKEN at which one of these is so it is that (the first one of this list)". */
    private static void firstFaultOfTheList() {
        // 1 ahead of 2: a 7th NAME that can't stand there
        faultIs(SIX_NAMES + "SF>a;", 1, 10);
        faultIs("S>ABCD|E;SF", 1, 10);
        // 2 ahead of 3: a 7th NAME that is the 5th of a BODY, the first TOKEN of a 17th one
        faultIs("S>ABCD|EaaaF;", 2, 11);
        faultIs("S>ABCD|EaaaaF;", 3, 11);
        faultIs("S>ABCD|E|aaaaF;", 2, 13);
        faultIs("S>A|B|C|D|E" + many("|a", 11) + "|F;", 2, 34);
        faultIs("S>A|B|C|D|E" + many("|a", 11) + "|E;", 3, 34);
        // the first TOKEN, whatever comes behind it
        faultIs("S>aaaaa;e", 3, 6);
        faultIs("S>e;aaaaa", 1, 2);
        faultIs("S>ABCD|EF>", 2, 8);
    }

    /** "the first one is the TOP", "of a NAME are those of all its LINES", "A NAME without a LINE has none". */
    private static void topAndItsLines() {
        PhraseLearner x = Check.taught("T>a;S>b;T>c;S>d;");
        due("TOP is the first one, by all its LINES", "a c", () -> Check.wordsOf(x, 1, true));
        due("a BODY that comes twice is two", 2, () -> Check.taught("S>a|a;").count(1));
        PhraseLearner none = Check.taught("S>T|aT|Ta|b;");
        due("what needs a NAME without a LINE is nothing", "b", () -> Check.wordsOf(none, 1, true));
        due("nor longer", 0, () -> none.many(2, 0));
        PhraseLearner late = Check.taught("S>TT;T>a;T>bT;");
        due("a NAME that stands on the right first", "aa", () -> Check.wordsOf(late, 2, true));
        due("with its second LINE", "aba baa", () -> Check.wordsOf(late, 3, true));
    }

    /** "A WORD is a row of SIGNS, 1 to 20." */
    private static void wordOf1To20() {
        PhraseLearner x = Check.taught(ALL_A);
        due("no SIGN", NONE, () -> Check.word(x, ""));
        due("one SIGN", 3, () -> Check.word(x, "a"));
        due("20 SIGNS", 3, () -> Check.word(x, TWENTY));
        due("21 SIGNS", NONE, () -> Check.word(x, TWENTY + "a"));
        PhraseLearner y = Check.taught("S>AAAA;A>Ba;B>aaaa;");
        due("20 by BODIES of four", 1, () -> Check.word(y, TWENTY));
        due("19", 0, () -> Check.word(y, TWENTY.substring(1)));
        due("16", 0, () -> Check.word(y, TWENTY.substring(4)));
        PhraseLearner z = Check.taught("S>aS|b;");
        due("the last of 20 counts", 1, () -> Check.word(z, TWENTY.substring(1) + "b"));
        due("the last of 20 counts, not", 0, () -> Check.word(z, TWENTY));
        PhraseLearner w = Check.taught("S>Sa|b;");
        due("the first of 20 counts", 1, () -> Check.word(w, "b" + TWENTY.substring(1)));
    }

    /** "a NAME is a WORD, if some BODY of it can be split": also a row of two NAMES; circles come to an end. */
    private static void circlesOfNames() {
        due("one NAME behind the other, six", "a b", () -> Check.wordsOf(Check.taught("S>A;A>B;B>C;C>D;D>E;E>a|b|cc;"), 1, true));
        due("with two SIGNS", "cc", () -> Check.wordsOf(Check.taught("S>A;A>B;B>C;C>D;D>E;E>a|b|cc;"), 2, true));
        due("a row that is two NAMES", "aba abb", () -> Check.wordsOf(Check.taught("S>Aa|Bb;A>ab;B>ab;"), 3, true));
        due("by way of others", "aba abb", () -> Check.wordsOf(Check.taught("S>Aa|Bb;A>C;B>D;C>ab;D>ab;"), 3, true));
        due("a SIGN that is two NAMES", "aa ab", () -> Check.wordsOf(Check.taught("S>Aa|Bb;A>a;B>a;"), 2, true));
        PhraseLearner x = Check.taught("S>T|S|a;T>S|U;U>T|b|UU;");
        due("by a circle", "a b", () -> Check.wordsOf(x, 1, true));
        due("and on", "aa ab ba bb", () -> Check.wordsOf(x, 2, true));
        PhraseLearner none = Check.taught("S>T|aS;T>S;");
        due("a circle alone is nothing", 0, () -> none.many(1, 0) + none.many(6, 0));
        PhraseLearner self = Check.taught("S>SS|S;");
        due("itself alone is nothing", 0, () -> Check.word(self, "a"));
    }

    /** "SIGNS OF THE GRAMMAR are those that stand in the TEXT, in the order a, b, c, d." */
    private static void signsOfTheGrammar() {
        due("by letter, not as they come", "a b c d", () -> Check.partsOf(Check.taught("S>dcba;")));
        due("each once", "b d", () -> Check.partsOf(Check.taught("S>dbdb|d|b;")));
        due("also those of no use", "a c", () -> Check.partsOf(Check.taught("S>a;T>c;")));
        PhraseLearner none = Check.taught("S>S|SS;");
        due("none", "0 0 1", () -> none.count(2) + " " + none.count(3) + " " + none.count(4));
        due("nothing is ASKED then", 0, () -> none.count(5));
        due("no RULES then", 0, () -> none.count(7) + none.count(8));
        due("no LESSON then", 0, () -> none.lesson(6));
        due("no WORDS then", 0, () -> none.many(6, 0) + none.many(1, 1) + none.many(3, 2));
        due("no PART then", NONE, () -> Check.part(none, "a"));
        due("a row of other SIGNS is a WORD yet", 0, () -> Check.word(none, "abcd"));
        due("nothing is SAID then", 0, () -> none.say());
        due("a SIGN behind the FAULT's place isn't one", "b", () -> {
            PhraseLearner x = Check.taught("S>b;");
            Check.teach(x, "S>a;;");
            return Check.partsOf(x);
        });
        due("SIGNS of the text before aren't either", "c", () -> {
            PhraseLearner x = Check.taught("S>abd;");
            Check.teach(x, "S>c;");
            return Check.partsOf(x);
        });
        due("nor those of a text with a FAULT", "c", () -> {
            PhraseLearner x = Check.taught("S>d;");
            Check.teach(x, "S>ab");
            Check.teach(x, "S>c;");
            return Check.partsOf(x);
        });
    }

    /** "PARTS (WORDS of at most 6 SIGNS; 16 at most; numbered as they come)". */
    private static void sixteenParts() {
        PhraseLearner x = withParts(16);
        due("16 PARTS", 16, () -> x.count(3));
        due("the last one", "aaaaaa", () -> Check.partOf(x, 15));
        due("its number is in COLUMNS", 65535, () -> x.kind(0, 0));
        due("all pairs", 256, () -> x.kind(0, 1));
        due("its pairs", true, () -> x.takes(0, 15, 15));
        due("no 17th", NONE, () -> Check.part(x, "bbbbbb"));
        due("still 16", 16, () -> x.count(3));
        PhraseLearner y = withParts(15);
        due("the 16th", 15, () -> Check.part(y, "aaaaab"));
    }

    /** a, b, then rows of two and more, the last one of six. */
    private static PhraseLearner withParts(int count) {
        PhraseLearner x = Check.taught("S>a|b|SS;");
        String[] rows = "aa ab ba bb aaa aab aba abb baa bab bba bbb aaaa".split(" ");
        for (int i = 0; i < count - 3; i++) {
            int number = i;
            due("PART " + (i + 2), i + 2, () -> Check.part(x, rows[number]));
        }
        due("the last PART", count - 1, () -> Check.part(x, "aaaaaa"));
        return x;
    }

    /** "CONTEXTS (.. either may be empty, together at most 5; 12 at most; numbered as they come)". */
    private static void twelveContexts() {
        PhraseLearner x = withContexts(12);
        due("12 CONTEXTS", ". a. .a aa. a.a .aa aaaaa. aaaa.a aaa.aa aa.aaa a.aaaa .aaaaa", () -> Check.contextsOf(x));
        due("no 13th", NONE, () -> Check.context(x, "aaa", ""));
        due("still 12", 12, () -> x.count(4));
        due("all RULES", 12 * (1 + 12 * 12), () -> x.count(7) + x.count(8));
        due("the last RULE's x", 11, () -> x.rule(1739, 0));
        due("the last RULE's y", 11, () -> x.rule(1739, 1));
        due("the last RULE's z", 11, () -> x.rule(1739, 2));
        due("one behind it", Check.NO_SUCH, () -> x.rule(1740, 0));
        due("all are like the first one", 0, () -> x.kind(11, 5));
        due("so that one is left", 1, () -> x.count(12));
        PhraseLearner y = withContexts(11);
        due("the 12th", 11, () -> Check.context(y, "aaa", ""));
    }

    private static PhraseLearner withContexts(int count) {
        PhraseLearner x = Check.taught(ALL_A);
        int[][] rows = {{1, 0}, {0, 1}, {2, 0}, {1, 1}, {0, 2}, {5, 0}, {4, 1}, {3, 2}, {2, 3}, {1, 4}, {0, 5}};
        for (int i = 0; i + 1 < count; i++) {
            int[] row = rows[i];
            due("CONTEXT " + (i + 1), i + 1, () -> Check.context(x, many("a", row[0]), many("a", row[1])));
        }
        return x;
    }

    /** The longest WORD of THE TABLE has 5 SIGNS of a CONTEXT and twice 6. */
    private static void longestOfTheTable() {
        PhraseLearner x = Check.taught("S>aS|b;");
        Check.part(x, "aaaaab");
        Check.part(x, "aaaaaa");
        Check.context(x, "aaaaa", "");
        due("of 17 SIGNS, TOLD", true, () -> x.takes(1, 3, 2));
        due("of 17 SIGNS, not TOLD", false, () -> x.takes(1, 2, 3));
        due("it is ASKED", "17 17 17 17", () -> {
            StringBuilder found = new StringBuilder();
            for (int i = 0; i < x.count(5); i++) {
                found.append(x.asked(i, NONE) == 17 ? "17 " : "");
            }
            return found.toString().trim();
        });
    }

    public static void main(String[] args) {
        textOf400Bytes();
        bytesThatCanStand();
        blanksCountForNothing();
        endOfTheText();
        oneToFourOfABody();
        sixNames();
        sixteenBodies();
        firstFaultOfTheList();
        topAndItsLines();
        wordOf1To20();
        circlesOfNames();
        signsOfTheGrammar();
        sixteenParts();
        twelveContexts();
        longestOfTheTable();
        Check.end("edges of the terms");
    }
}
