import java.util.Arrays;
import java.util.LinkedHashSet;
import java.util.Set;

/**
 * Sentences of the document's parts 2 and 3 (THE LEARNER, LESSONS, kinds of CONTEXTS) that name a
 * boundary, each with its own test.
 */
public final class LearnerEdgesTest {
    private static final int NONE = PhraseLearner.NONE;
    private static final String PAIRS = "S>aSb|ab;";
    private static final String ALL_A = "S>a|SS;";

    private LearnerEdgesTest() {
    }

    private static void due(String name, Object want, Check.Call call) {
        Check.due(name, want, call);
    }

    private static PhraseLearner afterLessons(int lessons) {
        PhraseLearner x = Check.taught(PAIRS);
        for (int i = 0; i < lessons; i++) {
            x.lesson(6);
        }
        return x;
    }

    private static PhraseLearner withContexts(String text, String... contexts) {
        PhraseLearner x = Check.taught(text);
        addContexts(x, contexts);
        return x;
    }

    private static String kindOf(PhraseLearner x, int context) {
        StringBuilder all = new StringBuilder();
        for (int what = 0; what < 7; what++) {
            all.append(what == 0 ? "" : " ").append(x.kind(context, what));
        }
        return all.toString();
    }

    /** "At first PARTS are the SIGNS OF THE GRAMMAR, each one; CONTEXT 0 is that of two empty rows." */
    private static void atFirst() {
        PhraseLearner none = new PhraseLearner();
        due("no GRAMMAR, no PARTS", "", () -> Check.partsOf(none));
        due("no GRAMMAR, CONTEXT 0", ".", () -> Check.contextsOf(none));
        PhraseLearner x = Check.taught("S>cab;");
        due("PARTS at first", "a b c", () -> Check.partsOf(x));
        due("CONTEXTS at first", ".", () -> Check.contextsOf(x));
        due("CONTEXT 0 is there already", NONE, () -> Check.context(x, "", ""));
    }

    /** "CONTEXT by CONTEXT all PARTS, then (for the same CONTEXT) all pairs", "each but once". */
    private static void askedInTheirOrder() {
        PhraseLearner x = Check.taught(PAIRS);
        due("at the end of teach()", "a b aa ab+ ba bb", () -> Check.askedOf(x));
        Check.context(x, "a", "");
        due("at the end of context()", "a b aa ab+ ba bb aaa aab aba abb", () -> Check.askedOf(x));
        Check.part(x, "ab");
        due("at the end of part()", "a b aa ab+ ba bb aaa aab aba abb bab abab aaab aaba aabb+ aabab",
            () -> Check.askedOf(x));
        due("of these TOLD", 2, () -> x.count(6));
        Check.context(x, "", "b");
        due("a CONTEXT behind", "a b aa ab+ ba bb aaa aab aba abb bab abab aaab aaba aabb+ aabab bbb babb abbb ababb",
            () -> Check.askedOf(x));
        x.anew();
        due("at the end of anew()", "a b aa ab+ ba bb", () -> Check.askedOf(x));
        x.lesson(6);
        due("at the end of a LESSON, when all that came is there", "a b aa ab+ ba bb aab bab aba abb abab aabb+ bbb babb "
            + "abbb ababb aaa aaab aaba aabab", () -> Check.askedOf(x));
        due("of several in learn(), too", Check.askedOf(() -> afterLessons(4)), () -> Check.askedOf(() -> {
            PhraseLearner once = Check.taught(PAIRS);
            once.learn(6, 4);
            return once;
        }));
        PhraseLearner fault = Check.taught(PAIRS);
        Check.teach(fault, "S>c|d");
        due("not by a FAULT", "a b aa ab+ ba bb", () -> Check.askedOf(fault));
    }

    /** "Nothing else is ASKED: not what a LESSON, a call looks at." */
    private static void nothingElseIsAsked() {
        Check.Maker maker = () -> afterLessons(3);
        int asked = afterLessons(3).count(5);
        Check.CallOn[] calls = {x -> Check.word(x, "aaaabbbb"), x -> Check.trees(x, "aaaabbbb"),
            x -> Check.tree(x, "aaaabbbb"), x -> x.next(6, NONE), x -> x.many(6, 2), x -> x.told(6, true, 0, 0),
            x -> x.say(), x -> x.lesson(2), x -> x.lesson(1), x -> x.learn(2, 20), x -> Check.part(x, "ab"),
            x -> Check.part(x, "aaabbbb"), x -> Check.context(x, "a", ""), x -> Check.context(x, "aaabbb", ""),
            x -> Check.teach(x, "S>a"), x -> x.within(0, 1), x -> x.kind(0, 6)};
        for (int i = 0; i < calls.length; i++) {
            PhraseLearner x = maker.make();
            calls[i].by(x);
            due("nothing is ASKED by call " + i, asked, () -> x.count(5));
        }
    }

    /** A full TABLE: "by the first PART, then by the second", "each but once", and what is TOLD of it. */
    private static void askedOfAFullTable() {
        String[] parts = "a b ab ba aa bb aab abb aba bab aabb abab baba bbaa aaabbb bababa".split(" ");
        String[] contexts = ". a. .b a.b aa. .bb aab. .abb ab. .ab a.bb aaab.b".split(" ");
        Set<String> words = new LinkedHashSet<>();
        for (String context : contexts) {
            for (String part : parts) {
                words.add(context.replace(".", part));
            }
            for (String part : parts) {
                for (String other : parts) {
                    words.add(context.replace(".", part + other));
                }
            }
        }
        StringBuilder due = new StringBuilder();
        for (String word : words) {
            int half = word.length() / 2;
            due.append(' ').append(word).append(word.equals("a".repeat(half) + "b".repeat(half)) ? "+" : "");
        }
        Check.Maker maker = () -> {
            PhraseLearner x = withContexts(PAIRS, Arrays.copyOfRange(contexts, 1, contexts.length));
            for (int i = 2; i < parts.length; i++) {
                Check.part(x, parts[i]);
            }
            return x;
        };
        due("how many", words.size(), () -> maker.make().count(5));
        // by part() each one's pairs come behind those of all CONTEXTS before, so that only the set is the same
        due("which", sorted(due.toString().trim()), () -> sorted(Check.askedOf(maker)));
        PhraseLearner x = maker.make();
        due("16 PARTS, 12 CONTEXTS", "16 12", () -> x.count(3) + " " + x.count(4));
    }

    private static String sorted(String words) {
        String[] all = words.split(" ");
        Arrays.sort(all);
        return String.join(" ", all);
    }

    /** "if COLUMNS of y, z aren't empty": else each pair of none would be allowed. */
    private static void emptyColumnsHaveNoRules() {
        PhraseLearner x = Check.taught("S>ab;");
        due("one COLUMN, empty", "", () -> Check.rulesOf(x));
        Check.context(x, "a", "");
        due("y or z empty", "B>b!", () -> Check.rulesOf(x));
        Check.context(x, "", "b");
        due("neither empty, but x", "A>CB B>b C>a", () -> Check.rulesOf(x));
        due("x is empty", 0, () -> x.kind(0, 0));
    }

    /** "x TAKES each pair of a PART in y's COLUMN and one in z's", "(also the same ones)". */
    private static void allPairsAreAllowed() {
        due("three of four pairs", "A>a A>b", () -> Check.rulesOf(Check.taught("S>a|b|aa|ab|ba;")));
        due("three others", "A>a A>b", () -> Check.rulesOf(Check.taught("S>a|b|ab|ba|bb;")));
        due("four of four", "A>a A>b A>AA", () -> Check.rulesOf(Check.taught("S>a|b|aa|ab|ba|bb;")));
        PhraseLearner x = Check.taught("S>a|b|aa|ab|ba|bb|aba;");
        due("ahead of a PART that refutes it", "A>a A>b A>AA", () -> Check.rulesOf(x));
        Check.part(x, "ab");
        due("behind it", "A>a A>b", () -> Check.rulesOf(x));
    }

    /** "by x, of one x those of one SIGN first, by the SIGN, then those of two by y, then z", "from 0 on". */
    private static void rulesInTheirOrder() {
        PhraseLearner x = withContexts("S>d|b|SS;", "b.", ".d");
        due("by x, y, z", "A>b A>d A>AA A>AB! A>AC! A>BA! A>BB! A>BC! A>CA! A>CB! A>CC! B>b! B>d! B>AA! B>AB! B>AC! "
            + "B>BA! B>BB! B>BC! B>CA! B>CB! B>CC! C>b! C>d! C>AA! C>AB! C>AC! C>BA! C>BB! C>BC! C>CA! C>CB! C>CC!",
            () -> Check.rulesOf(x));
        due("RULE 0", 1, () -> x.rule(0, 1));
        due("RULES of one SIGN", 6, () -> x.count(7));
        due("of two", 27, () -> x.count(8));
    }

    /** "the least split (by the first one's length) .., by this the first RULE". */
    private static void leastSplitThenFirstRule() {
        PhraseLearner x = afterLessons(4);
        // A > BJ is A's first RULE and makes aab, b; A > GC makes a, abb
        Check.tree(x, "aab" + "b");
        due("least split ahead of first RULE", "A04 G01 C13 B11 F22 C21 J31", () -> Check.treeOf(x));
        PhraseLearner y = withContexts(ALL_A, "a.", ".a");
        Check.tree(y, "aaa");
        due("of one split the first RULE", "A03 A01 A12 A11 A21", () -> Check.treeOf(y));
        Check.tree(y, "a");
        due("of one SIGN a leaf", "A01", () -> Check.treeOf(y));
        // from B it HAS a, too, but B TAKES c as well, and cb isn't TOLD
        PhraseLearner z = withContexts("S>ab|da|dc;", "d.", ".b", "a.");
        due("RULES", "A>CD B>a! B>c! C>a D>b", () -> Check.rulesOf(z));
        Check.tree(z, "ab");
        due("a CONTEXT that has it and no RULE", "A02 C01 D11", () -> Check.treeOf(z));
    }

    /** "the WORD can be split into two": at one place alone, the first or the last; more than once. */
    private static void anySplit() {
        String[] contexts = {".bc", "a.", "a.c", "ab.", ".c"};
        PhraseLearner first = Check.taught("S>abc;");
        Check.part(first, "bc");
        addContexts(first, contexts);
        // F HAS ab, and E c, but there is no A > FE
        due("by the first split", "A>BC B>a C>DE D>b E>c F>BD!", () -> Check.rulesOf(first));
        due("by the first split, it HAS it", 3, () -> Check.word(first, "abc"));
        due("by the first split, many", 1, () -> first.many(3, 1));
        due("by the first split, its TREES", 1, () -> Check.trees(first, "abc"));
        PhraseLearner last = Check.taught("S>abc;");
        Check.part(last, "ab");
        addContexts(last, contexts);
        due("by the last split", "A>FE B>a C>DE! D>b E>c F>BD", () -> Check.rulesOf(last));
        due("by the last split, it HAS it", 3, () -> Check.word(last, "abc"));
        due("by the last split, many", 1, () -> last.many(3, 1));
        Check.part(first, "ab");
        due("by both", 2, () -> Check.trees(first, "abc"));
        due("less", 0, () -> Check.word(first, "ab") + Check.word(first, "bc") + Check.word(first, "a"));
        due("other SIGNS", 0, () -> Check.word(first, "abd"));
    }

    private static void addContexts(PhraseLearner x, String... contexts) {
        for (String context : contexts) {
            int point = context.indexOf('.');
            due("CONTEXT " + context, x.count(4),
                () -> Check.context(x, context.substring(0, point), context.substring(point + 1)));
        }
    }

    /** "12 at most": wherever the two that make ab stand among them, they do. */
    private static void anyNumberOfAContext() {
        String[] others = {"b.", ".a", "bb.", "b.b", ".bb", "ba.", "b.a", ".ba", "aa."};
        for (int y = 1; y < 12; y++) {
            for (int z = 1; z < 12; z++) {
                if (y != z) {
                    String[] all = new String[11];
                    int used = 0;
                    for (int i = 0; i < 11; i++) {
                        all[i] = i + 1 == y ? ".b" : i + 1 == z ? "a." : others[used++];
                    }
                    PhraseLearner x = withContexts("S>ab;", all);
                    char first = (char) ('A' + y);
                    char second = (char) ('A' + z);
                    String right = y < z ? first + ">a;" + second + ">b;" : second + ">b;" + first + ">a;";
                    x.say();
                    due("SAID", "A>" + first + second + ";" + right, () -> Check.saidOf(x));
                    due("HAS", 3, () -> Check.word(x, "ab"));
                    due("many", 1, () -> x.many(2, 2));
                    due("TREES", 1, () -> Check.trees(x, "ab"));
                    Check.tree(x, "ab");
                    due("TREE", "A02 " + first + "01 " + second + "11", () -> Check.treeOf(x));
                    due("USEFUL", 3, () -> x.count(11));
                }
            }
        }
    }

    /** "by length, of one length as in a dictionary", "the first one in this order". */
    private static void firstWordOfALesson() {
        due("as in a dictionary", "bd", () -> nextOf(Check.taught("S>db|bd;"), 2));
        due("the shorter one first", "db", () -> nextOf(Check.taught("S>bbd|db;"), 3));
        due("not yet up to 1", "", () -> nextOf(Check.taught("S>bbd|db;"), 1));
        due("six SIGNS", "aaaaaa", () -> nextOf(Check.taught("S>aTTa;T>aa;"), 6));
        due("not up to five", "", () -> nextOf(Check.taught("S>aTTa;T>aa;"), 5));
        due("not of seven", 0, () -> Check.taught("S>aTTT;T>aa;").lesson(6));
        // A > AA stands in both, so that rows of three a, b (b, c) are WRONG; aac, abc are LACKED
        PhraseLearner wrong = Check.taught("S>a|b|AA|aac;A>a|b;");
        due("WRONG ahead of LACKED", "aaa", () -> nextOf(wrong, 3));
        due("it is WRONG", 2, () -> wrong.lesson(3));
        PhraseLearner lacked = Check.taught("S>b|c|AA|abc;A>b|c;");
        due("LACKED ahead of WRONG", "abc", () -> nextOf(lacked, 3));
        due("it is LACKED", 1, () -> lacked.lesson(3));
    }

    private static String nextOf(PhraseLearner x, int length) {
        StringBuilder word = new StringBuilder();
        for (int k = 0; k < x.next(length, NONE); k++) {
            word.append((char) ('a' + x.next(length, k)));
        }
        return word.toString();
    }

    /** Nothing is TOLD but ab; no PART but ab and no CONTEXT but .b and a. has a use, so that ab stays LACKED. */
    private static PhraseLearner lacksAb(int parts, int contexts) {
        PhraseLearner x = Check.taught("S>ab;");
        String[] rows = "aa ba bb aaa aab aba abb baa bab bba bbb aaaa bbbb aabb".split(" ");
        for (int i = 0; i < parts - 2; i++) {
            Check.part(x, rows[i]);
        }
        String[] lefts = {"b", "", "bb", "b", "", "ba", "b", "", "aa", "a", ""};
        String[] rights = {"", "a", "", "b", "bb", "", "a", "ba", "", "a", "aa"};
        for (int i = 0; i < contexts - 1; i++) {
            Check.context(x, lefts[i], rights[i]);
        }
        due("PARTS before", parts, () -> x.count(3));
        due("CONTEXTS before", contexts, () -> x.count(4));
        return x;
    }

    /** "as long as there are fewer than 16", "as long as there are fewer than 12", "FULL". */
    private static void roomForWhatIsLacked() {
        int[][] before = {{2, 1}, {15, 1}, {16, 1}, {2, 11}, {2, 12}, {15, 12}, {16, 11}, {15, 11}};
        String[] latest = {"1 1 2", "1 1 2", "1 0 2", "1 1 1", "1 1 0", "1 1 0", "1 0 1", "1 1 1"};
        for (int i = 0; i < before.length; i++) {
            PhraseLearner x = lacksAb(before[i][0], before[i][1]);
            String name = before[i][0] + " PARTS, " + before[i][1] + " CONTEXTS";
            due(name + ": next", 2, () -> x.next(2, NONE));
            due(name, 1, () -> x.lesson(2));
            due(name + ": what came", latest[i] + " -1 -1 -1 2 ab", () -> Check.latestOf(x));
        }
        PhraseLearner one = lacksAb(2, 11);
        one.lesson(2);
        due("the 12th is the one with fewer in LEFT", "0 1", () -> one.ofContext(11, false, NONE) + " "
            + one.ofContext(11, true, NONE));
        PhraseLearner full = lacksAb(16, 12);
        due("16 PARTS, 12 CONTEXTS: none next", 0, () -> full.next(2, NONE));
        due("16 PARTS, 12 CONTEXTS: FULL", NONE, () -> full.lesson(2));
        due("no LESSON was", NONE, () -> full.latest(0));
        due("it was no LESSON that is 1", 0, () -> full.count(14));
        due("but none is LACKED up to 1", 0, () -> full.lesson(1));
        due("learn() ends with FULL", 0, () -> full.learn(6, 20));
    }

    /** "each row .. that .. is no PART becomes one": of equal rows one; of a WORD of six as many as there is room for. */
    private static void rowsOfAWordOfSix() {
        PhraseLearner x = Check.taught("S>aTTa;T>aa;");
        due("one SIGN six times", 1, () -> x.lesson(6));
        due("what came", "1 5 11 -1 -1 -1 6 aaaaaa", () -> Check.latestOf(x));
        due("PARTS", "a aa aaa aaaa aaaaa aaaaaa", () -> Check.partsOf(x));
        due("CONTEXTS", ". .a a. .aa a.a aa. .aaa a.aa aa.a aaa. .aaaa a.aaa", () -> Check.contextsOf(x));
        PhraseLearner y = Check.taught("S>abTb;T>cad;");
        due("six, four SIGNS", 1, () -> y.lesson(6));
        due("16 and 12 then", "1 12 11 -1 -1 -1 6 abcadb", () -> Check.latestOf(y));
        due("by length, then by where it begins",
            "a b c d ab bc ca ad db abc bca cad adb abca bcad cadb", () -> Check.partsOf(y));
        due("by both together, then by LEFT",
            ". .b a. .db a.b ab. .adb a.db ab.b abc. .cadb a.adb", () -> Check.contextsOf(y));
        // CONTEXTS come around rows that are PARTS already, too
        PhraseLearner z = Check.taught("S>ab;");
        Check.part(z, "ab");
        due("all rows are PARTS", 1, () -> z.lesson(2));
        due("CONTEXTS come alone", "1 0 2 -1 -1 -1 2 ab", () -> Check.latestOf(z));
    }

    /** "both become PARTS, the first one first (those that aren't; as long as there are fewer than 16)". */
    private static void roomForWhatIsRefuted() {
        String[] rows = "bb abb bbb abbb bbbb abbbb bbbbb abbbbb bbbbbb bba bbba abba babb bbab".split(" ");
        // of ba, bab, aaa the learner HAS aaab wrongly, by aa, ab, neither of them a PART
        int[] before = {3, 14, 15};
        String[] parts = {"aa ab", "aa ab", "aa"};
        for (int i = 0; i < before.length; i++) {
            PhraseLearner x = Check.taught("S>ba|bab|aaa;");
            x.lesson(4);
            for (int k = 0; k < before[i] - 3; k++) {
                Check.part(x, rows[k]);
            }
            int old = before[i];
            int came = parts[i].split(" ").length;
            due(old + " PARTS: WRONG", 2, () -> x.lesson(4));
            due(old + " PARTS: how many came", "2 " + came + " 0 0 1 2 4 aaab", () -> Check.latestOf(x));
            due(old + " PARTS: which", parts[i], () -> came == 1 ? Check.partOf(x, old)
                : Check.partOf(x, old) + " " + Check.partOf(x, old + 1));
        }
        // aaa and others are WRONG, 0 > 0 0 would be REFUTED by a, aa; there is room for CONTEXTS, none for PARTS
        PhraseLearner full = Check.taught("S>a|b|AA;A>a|b;");
        for (String row : "aaa aab aba abb baa bab bba bbb aaaa bbbb aaab bbba abba".split(" ")) {
            Check.part(full, row);
        }
        due("15 PARTS", "15 1", () -> full.count(3) + " " + full.count(4));
        due("15 PARTS: WRONG next", "aaa", () -> nextOf(full, 3));
        Check.part(full, "baab");
        due("16 PARTS: none next", "", () -> nextOf(full, 3));
        due("16 PARTS: FULL", NONE, () -> full.lesson(3));
        due("16 PARTS: nothing up to 2", 0, () -> full.lesson(2));
        due("no LESSON was", "0 0 -1", () -> full.count(14) + " " + full.count(15) + " " + full.latest(0));
        PhraseLearner one = Check.taught("S>aS|b|ba;");
        due("ab is LACKED", 1, () -> one.lesson(3));
        due("baa is WRONG", 2, () -> one.lesson(3));
        due("0 > 0 1 is REFUTED by b, aa", "2 1 0 0 0 1 3 baa", () -> Check.latestOf(one));
        due("b was a PART", "a b ab aa", () -> Check.partsOf(one));
    }

    /** "(others are passed over)". */
    private static void passedOver() {
        PhraseLearner x = afterLessons(3);
        due("ab is LACKED, by which nothing comes", 1, () -> Check.word(x, "ab"));
        due("up to 2 there is no other", NONE, () -> x.lesson(2));
        due("up to 3 there is no other", NONE, () -> x.lesson(3));
        due("up to 4 there is", "aabb", () -> nextOf(x, 4));
        due("and it is told", 1, () -> x.lesson(4));
        due("about it", "1 3 7 -1 -1 -1 4 aabb", () -> Check.latestOf(x));
    }

    /** "if y doesn't TAKE the first one, down there; else if z doesn't TAKE the second one, down there". */
    private static void downTheTree() {
        PhraseLearner x = afterLessons(1);
        due("aababb", "aababb", () -> nextOf(x, 6));
        // 0 > 1 2: 1 TAKES a, 2 doesn't TAKE ababb; there 2 > 0 2: 0 TAKES ab, 2 TAKES abb
        due("down the second one", 2, () -> x.lesson(6));
        due("the RULE further down", "2 1 0 2 0 2 6 aababb", () -> Check.latestOf(x));
        due("ab was a PART, abb comes", "abb", () -> Check.partOf(x, 3));
        due("then", 2, () -> x.lesson(6));
        due("down the first one", "2 1 0 1 1 0 6 aababb", () -> Check.latestOf(x));
        due("a was a PART, aab comes", "aab", () -> Check.partOf(x, 4));
    }

    /** "A CONTEXT is MADE, if THE LEARNER HAS some WORD (of 1 to 20 SIGNS) from it." */
    private static void madeOfUpTo20() {
        String[] parts = {"aa", "bb", "cc", "dd", "ad"};
        PhraseLearner x = Check.taught("S>aba|acA|adAA|adB|baBB|baC|bcCC|bcD|caDB|caE|cbEa;A>aa;B>bb;C>cc;D>dd;E>ad;");
        for (String part : parts) {
            Check.part(x, part);
        }
        for (String left : "ab ac ad ba bc ca cb".split(" ")) {
            Check.context(x, left, "");
        }
        // B > a, then C > BB, D > CC, E > DD, F > EE: 1, 2, 4, 8, 16; G > FD, H > GB, A > GD: 20, 21, 24
        due("RULES", "A>GD! B>a C>BB D>CC E>DD F>EE G>FD H>GB!", () -> Check.rulesOf(x));
        due("1 SIGN", "1 1", () -> x.kind(1, 3) + " " + x.kind(1, 6));
        due("16 SIGNS", "1 16", () -> x.kind(5, 3) + " " + x.kind(5, 6));
        due("20 SIGNS", "1 20", () -> x.kind(6, 3) + " " + x.kind(6, 6));
        due("21 SIGNS", "0 -1", () -> x.kind(7, 3) + " " + x.kind(7, 6));
        due("24 SIGNS", "0 -1", () -> x.kind(0, 3) + " " + x.kind(0, 6));
        due("how many", 6, () -> x.count(9));
        PhraseLearner first = Check.taught("S>ab|dabc;");
        Check.part(first, "ab");
        addContexts(first, ".b", "a.", "d.", "dab.");
        due("by CONTEXT 0 as the first one", "A>BC B>a C>b D>AE! E>c!", () -> Check.rulesOf(first));
        due("its shortest WORDS", "2 1 1 3 1", () -> first.kind(0, 6) + " " + first.kind(1, 6) + " " + first.kind(2, 6) + " "
            + first.kind(3, 6) + " " + first.kind(4, 6));
        PhraseLearner second = Check.taught("S>ab|dcab;");
        Check.part(second, "ab");
        addContexts(second, ".b", "a.", "d.", "d.ab");
        due("by CONTEXT 0 as the second one", "A>BC B>a C>b D>EA! E>c!", () -> Check.rulesOf(second));
        due("its shortest WORD", 3, () -> second.kind(3, 6));
    }

    /** "It is REACHED, if it is CONTEXT 0, or ..., of whose RULE both are MADE." */
    private static void reached() {
        due("CONTEXT 0 without a GRAMMAR", "0 0 0 0 1 0 -1", () -> kindOf(new PhraseLearner(), 0));
        PhraseLearner x = Check.taught("S>acd;");
        Check.part(x, "cd");
        Check.context(x, "", "cd");
        Check.context(x, "a", "");
        due("the second one isn't MADE", "A>BC! B>a!", () -> Check.rulesOf(x));
        due("CONTEXT 0 is REACHED, not MADE", "0 1 1 0 1 0 -1", () -> kindOf(x, 0));
        due("MADE, not REACHED", "1 0 1 1 0 1 1", () -> kindOf(x, 1));
        due("neither", "8 1 0 0 0 2 -1", () -> kindOf(x, 2));
        due("how many are MADE, REACHED, USEFUL", "1 1 0", () -> x.count(9) + " " + x.count(10) + " " + x.count(11));
        Check.context(x, "a", "d");
        Check.context(x, "ac", "");
        due("then it is", "A>BC B>a C>DE D>c E>d", () -> Check.rulesOf(x));
        due("all are", "5 5 5", () -> x.count(9) + " " + x.count(10) + " " + x.count(11));
        PhraseLearner by0 = withContexts("S>b|bc;", "b.");
        due("beside CONTEXT 0", "A>b A>AB B>c", () -> Check.rulesOf(by0));
        PhraseLearner y = Check.taught("S>cda;");
        Check.part(y, "cd");
        Check.context(y, "", "a");
        Check.context(y, "cd", "");
        due("the first one isn't MADE", "A>BC! C>a!", () -> Check.rulesOf(y));
        due("MADE, not REACHED, behind it", "1 0 1 1 0 2 1", () -> kindOf(y, 2));
    }

    /** "each has as its LIKE the first one that is ALIKE to it", "the same PARTS and the same pairs". */
    private static void likes() {
        PhraseLearner x = withContexts(ALL_A, "a.", ".a", "aa.");
        due("the first of all", "0 0 0 0", () -> x.kind(0, 5) + " " + x.kind(1, 5) + " " + x.kind(2, 5) + " " + x.kind(3, 5));
        PhraseLearner y = withContexts("S>ab|cb;", "a.", "c.", ".b", "b.", "ba.");
        due("COLUMNS", "0 2 2 5 0 0", () -> y.kind(0, 0) + " " + y.kind(1, 0) + " " + y.kind(2, 0) + " " + y.kind(3, 0) + " "
            + y.kind(4, 0) + " " + y.kind(5, 0));
        due("by the first one", "0 1 1 3 4 4", () -> y.kind(0, 5) + " " + y.kind(1, 5) + " " + y.kind(2, 5) + " "
            + y.kind(3, 5) + " " + y.kind(4, 5) + " " + y.kind(5, 5));
        due("their own LIKES", 4, () -> y.count(12));
        PhraseLearner z = withContexts("S>ab|cb|abb;", "a.", "c.");
        due("another pair", "2 1 2 0", () -> z.kind(1, 0) + " " + z.kind(1, 1) + " " + z.kind(2, 0) + " " + z.kind(2, 1));
        due("so not ALIKE", 2, () -> z.kind(2, 5));
        Check.part(z, "bbb");
        due("nor then", 2, () -> z.kind(2, 5));
    }

    /** "RULES of CONTEXTS that are USEFUL and their own LIKES, on the right of which only such ones stand." */
    private static void theRest() {
        PhraseLearner x = withContexts("S>ab|cb;", "a.", "c.", ".b");
        due("y, z that are like another one", "A>DB A>DC! B>b C>b! D>a D>c", () -> Check.rulesOf(x));
        due("how many", 4, () -> x.count(13));
        due("SAID", 15, () -> x.say());
        due("text", "A>DB;B>b;D>a|c;", () -> Check.saidOf(x));
        PhraseLearner more = afterLessons(4);
        due("more, how many", 20, () -> more.count(13));
        due("more, of all", "48", () -> "" + (more.count(7) + more.count(8)));
        due("more, SAID", 70, () -> more.say());
        due("more, text", "A>BJ|DF|GC|GJ;B>a|DC|DJ|GA;C>b|AJ|BF|GF;D>DA|GB|GG;F>AF|CJ|JJ;G>a;J>b;",
            () -> Check.saidOf(more));
        PhraseLearner by0 = withContexts("S>b|bc;", "b.");
        due("CONTEXT 0 on the right", 3, () -> by0.count(13));
        PhraseLearner none = afterLessons(3);
        due("RULES that aren't REACHED", "B>a! C>b!", () -> Check.rulesOf(none));
        due("so that none is left", 0, () -> none.count(13));
    }

    /** "for each CONTEXT of which a RULE is in THE REST", "its letter (A for 0, B for 1, ..)". */
    private static void lettersOfWhatIsSaid() {
        PhraseLearner x = withContexts("S>ab;", ".b", "b.", ".a", "bb.", "b.b", ".bb", "ba.", "b.a", ".ba", "aa.", "a.");
        due("SAID", 13, () -> x.say());
        due("the last letter is L", "A>BL;B>a;L>b;", () -> Check.saidOf(x));
        due("12 CONTEXTS", 12, () -> x.count(4));
        PhraseLearner one = Check.taught("S>a;");
        due("one RULE", 4, () -> one.say());
        due("its text", "A>a;", () -> Check.saidOf(one));
        PhraseLearner none = Check.taught("S>ab;");
        due("no RULE", 0, () -> none.say());
    }

    /** "1000000000, if there are more". */
    private static void upToABillionTrees() {
        PhraseLearner x = Check.taught(ALL_A);
        due("19 SIGNS: not more", 477638700, () -> Check.trees(x, "aaaaaaaaaaaaaaaaaaa"));
        due("20 SIGNS: more", 1000000000, () -> Check.trees(x, "aaaaaaaaaaaaaaaaaaaa"));
        PhraseLearner y = withContexts(ALL_A, "a.", ".a", "aa.", "a.a", ".aa", "aaa.", "aa.a", "a.aa", ".aaa", "aaaa.", "aaa.a");
        due("one way", 1, () -> Check.trees(y, "a"));
        due("12 CONTEXTS, 2 SIGNS", 144, () -> Check.trees(y, "aa"));
        due("12 CONTEXTS, 4 SIGNS", 14929920, () -> Check.trees(y, "aaaa"));
        due("12 CONTEXTS, 5 SIGNS", 1000000000, () -> Check.trees(y, "aaaaa"));
        due("12 CONTEXTS, 20 SIGNS", 1000000000, () -> Check.trees(y, "aaaaaaaaaaaaaaaaaaaa"));
        // b is HAD from D and E, of which A > B .. takes one; what was counted for ab isn't counted for cb
        PhraseLearner z = withContexts("S>ab|cb|da|bc|cd;", "d.", "b.", "a.", "c.");
        due("RULES", "A>BD A>CD A>CE A>DC B>a C>c D>b E>b E>d", () -> Check.rulesOf(z));
        due("with B alone", 1, () -> Check.trees(z, "ab"));
        due("with C alone", 2, () -> Check.trees(z, "cb"));
        due("then", 1, () -> Check.trees(z, "bc"));
        due("and then", 1, () -> Check.trees(z, "cd"));
        due("TOLD, but no TREE", 0, () -> Check.trees(z, "da"));
    }

    public static void main(String[] args) {
        atFirst();
        askedInTheirOrder();
        askedOfAFullTable();
        nothingElseIsAsked();
        emptyColumnsHaveNoRules();
        allPairsAreAllowed();
        rulesInTheirOrder();
        anySplit();
        anyNumberOfAContext();
        leastSplitThenFirstRule();
        firstWordOfALesson();
        roomForWhatIsLacked();
        rowsOfAWordOfSix();
        roomForWhatIsRefuted();
        passedOver();
        downTheTree();
        madeOfUpTo20();
        reached();
        likes();
        theRest();
        lettersOfWhatIsSaid();
        upToABillionTrees();
        Check.end("edges of the learner");
    }
}
