/** The document's promises by number, each with what it says of ordinary, edge and wrong inputs. */
public final class PromisesTest {
    private static final int NONE = PhraseLearner.NONE;
    private static final int BLANKS = 0x20202020;
    private static final String PAIRS = "S>aSb|ab;";
    /** From CONTEXTS 1 to 7 the shortest WORDS have 1, 2, 4, 8, 16, 20 and 21 SIGNS. */
    private static final String DOUBLING = "S>aba|acA|adAA|adB|baBB|baC|bcCC|bcD|caDB|caE|cbEa;A>aa;B>bb;C>cc;D>dd;E>ad;";

    private PromisesTest() {
    }

    private static void due(String name, Object want, Check.Call call) {
        Check.due(name, want, call);
    }

    private static PhraseLearner doubling() {
        PhraseLearner x = Check.taught(DOUBLING);
        for (String row : "aa bb cc dd ad".split(" ")) {
            Check.part(x, row);
        }
        for (String left : "ab ac ad ba bc ca cb".split(" ")) {
            Check.context(x, left, "");
        }
        return x;
    }

    private static PhraseLearner afterLessons(int lessons) {
        PhraseLearner x = Check.taught(PAIRS);
        for (int i = 0; i < lessons; i++) {
            x.lesson(6);
        }
        return x;
    }

    /** "An object is used for at most 512 calls after it has been made": the last one answers as the first. */
    private static void wholeLife() {
        PhraseLearner x = new PhraseLearner();
        // eight calls a round, 504 in all
        for (int round = 0; round < 63; round++) {
            String text = round % 2 == 0 ? "S>aSbS|a|cSd;" : "S>dSc|dc;";
            due("life teach " + round, 0, () -> Check.teach(x, text));
            x.learn(6, 20);
            x.say();
            due("life trees " + round, round % 2 == 0 ? 0 : 85, () -> Check.trees(x, "ddcc"));
            x.next(6, NONE);
            x.anew();
        }
        due("life teach, calls 505 and 506", 0, () -> Check.teach(x, PAIRS));
        due("life learn, call 507", 4, () -> x.learn(6, 20));
        due("life say, call 508", 70, () -> x.say());
        due("life said, call 509", (int) 'A', () -> x.said(0));
        due("life tree, calls 510 and 511", 7, () -> Check.tree(x, "aabb"));
        due("life treed, call 512", 3, () -> x.treed(2, 2));
    }

    private static void promise1() {
        PhraseLearner x = new PhraseLearner();
        int[] counts = {0, 0, 0, 0, 1, 0, 0, 0, 0, 0, 1, 0, 1, 0, 0, 0, 0};
        for (int i = 0; i < counts.length; i++) {
            int what = i;
            due("1 count " + i, counts[i], () -> x.count(what));
        }
        due("1 contexts", ".", () -> Check.contextsOf(x));
        due("1 word", 0, () -> Check.word(x, "abcd"));
        due("1 part", NONE, () -> Check.part(x, "a"));
        due("1 context", NONE, () -> Check.context(x, "a", ""));
        due("1 constant", -1, () -> PhraseLearner.NONE);
    }

    private static void promise2() {
        PhraseLearner x = new PhraseLearner();
        for (int i = 1; i <= 20; i++) {
            int bytes = 20 * i;
            due("2 feed " + i, bytes, () -> x.feed(BLANKS, BLANKS, BLANKS, BLANKS, BLANKS));
        }
        due("2 feed of too many", NONE, () -> x.feed(0, 0, 0, 0, 0));
        due("2 none came", 400, () -> x.count(16));
        due("2 all blanks", 1, () -> x.teach(400));
        due("2 none came, its end", 400, () -> x.fault());
        due("2 empty", 0, () -> x.count(16));
        // the highest byte first, and the numbers in their order
        x.feed(0x533E6162, 0x63646162, 0x3B202020, BLANKS, BLANKS);
        due("2 order", 3, () -> x.teach(20));
        due("2 place", 6, () -> x.fault());
        x.feed(0x61FF6161, BLANKS, BLANKS, BLANKS, BLANKS);
        due("2 a byte above 127", NONE, () -> x.word(2));
        x.feed(0x53C53E61, 0x3B202020, BLANKS, BLANKS, BLANKS);
        due("2 a byte above 127 in a text", 1, () -> x.teach(5));
        due("2 its place", 1, () -> x.fault());
    }

    private static void faultIs(String text, int number, int place) {
        PhraseLearner x = Check.taught("S>b|SS;");
        due("3 fault of " + text, number, () -> Check.teach(x, text));
        due("4 place in " + text, place, () -> x.fault());
        due("3 tape behind " + text, 0, () -> x.count(16));
        if (number != 0) {
            due("3 all else stays behind " + text, "b SS", () -> x.count(1) == 2 && x.ofPart(0, 0) == 1 ? "b SS" : "");
        }
    }

    private static String bodies(int count) {
        StringBuilder text = new StringBuilder("S>a");
        for (int i = 1; i < count; i++) {
            text.append("|a");
        }
        return text.toString();
    }

    private static void promise3And4() {
        faultIs("", 1, 0);
        faultIs("  \n ", 1, 4);
        faultIs("S", 1, 1);
        faultIs("S>", 1, 2);
        faultIs("S>a", 1, 3);
        faultIs("S>a|", 1, 4);
        faultIs("S>a;S", 1, 5);
        faultIs("S>a ", 1, 4);
        faultIs("s>a;", 1, 0);
        faultIs("a>a;", 1, 0);
        faultIs("S;", 1, 1);
        faultIs("SS>a;", 1, 1);
        faultIs("S>|a;", 1, 2);
        faultIs("S>a||a;", 1, 4);
        faultIs("S>a|;", 1, 4);
        faultIs("S>;", 1, 2);
        faultIs("S>a>b;", 1, 3);
        faultIs("S>a;;", 1, 4);
        faultIs("S>a;|b;", 1, 4);
        faultIs("S>e;", 1, 2);
        faultIs("S>a\tb;", 1, 3);
        faultIs("S>a[;", 1, 3);
        faultIs("S>@;", 1, 2);
        faultIs("S>`;", 1, 2);
        faultIs("S>a\u0000;", 1, 3);
        faultIs("Z>a|AZ;", 0, NONE);
        faultIs("A>d|ZA;", 0, NONE);
        faultIs("S>ABCD|E;", 0, NONE);
        faultIs("S>ABCD|EF;", 2, 8);
        faultIs("S>ABCD|E;F>a;", 2, 9);
        faultIs("S>ABCD|E;S>SABC|DE;", 0, NONE);
        faultIs("S>aaaa;", 0, NONE);
        faultIs("S>aa aa\na;", 3, 8);
        faultIs("S>aaaaS;", 3, 6);
        faultIs("S>aaaa>;", 1, 6);
        // a 7th NAME that is the 5th of a BODY, or the first of a 17th one, is told as a 7th NAME
        faultIs("S>ABCD|EaaaF;", 2, 11);
        faultIs("S>ABCD|EaaF;", 2, 10);
        faultIs("S>A|B|C|D|E|aaaaF;", 2, 16);
        faultIs(bodies(16) + ";", 0, NONE);
        faultIs(bodies(17) + ";", 3, 34);
        faultIs(bodies(16) + ";S>a;", 3, 36);
        faultIs(bodies(16) + "|;", 1, 34);
        faultIs(bodies(16) + "|S;", 3, 34);
        faultIs(bodies(10) + "|A|B|C|D|E|a|F;", 2, 34);
        faultIs(bodies(16) + ";S>;", 1, 36);
        // the first TOKEN counts, not the least number
        faultIs("S>aaaaa", 3, 6);
        faultIs(" \nS > a S\nb | a\nb ;\n ", 0, NONE);

        PhraseLearner x = Check.taught(PAIRS);
        x.lesson(6);
        Check.tree(x, "ab");
        x.say();
        due("3 fault", 1, () -> Check.teach(x, "S>"));
        due("3 parts stay", "a b ab", () -> Check.partsOf(x));
        due("3 latest stays", "1 1 2 -1 -1 -1 2 ab", () -> Check.latestOf(x));
        due("3 lessons stay", 1, () -> x.count(14));
        due("3 tree stays", "A02 B01 C11", () -> Check.treeOf(x, 3));
        due("3 asked stay", 20, () -> x.count(5));
        Check.feed(x, "S>b;");
        due("3 not so many", Check.ILLEGAL, () -> x.teach(21));
        due("3 below 0", Check.ILLEGAL, () -> x.teach(-1));
        due("3 least", Check.ILLEGAL, () -> x.teach(Integer.MIN_VALUE));
        due("3 tape stays", 20, () -> x.count(16));
        due("4 stays", 2, () -> x.fault());
        due("3 then", 0, () -> x.teach(4));
        due("4 none", NONE, () -> x.fault());
        due("3 as at first", "b", () -> Check.partsOf(x));
        due("3 as at first, contexts", ".", () -> Check.contextsOf(x));
        due("3 asked", "b+ bb", () -> Check.askedOf(x));
        due("3 latest", NONE, () -> x.latest(0));
        due("3 lessons", 0, () -> x.count(14));
        due("3 tree is gone", Check.NO_SUCH, () -> x.treed(0, 0));
        due("3 said stays", "A>BC;B>a|BA;C>b|AC;", () -> Check.saidOf(x));
        due("4 at first", NONE, () -> new PhraseLearner().fault());

        PhraseLearner names = Check.taught("X>bA;B>c|X;X>d;");
        due("3 names", 3, () -> names.count(0));
        due("3 bodies", 4, () -> names.count(1));
        due("3 signs", "b c d", () -> Check.partsOf(names));
        due("3 the first is the top", 1, () -> Check.word(names, "d") & 1);
        due("3 of another name", 0, () -> Check.word(names, "c") & 1);
        due("3 a name without a line", 0, () -> names.many(2, 0));
    }

    private static void promise5() {
        PhraseLearner x = afterLessons(2);
        Check.tree(x, "ab");
        Check.feed(x, "ab");
        due("5 anew", 33, () -> x.anew());
        due("5 parts", "a b", () -> Check.partsOf(x));
        due("5 contexts", ".", () -> Check.contextsOf(x));
        due("5 asked", "a b aa ab+ ba bb", () -> Check.askedOf(x));
        due("5 latest", "-1 -1 -1 -1 -1 -1 -1", () -> Check.latestOf(x));
        due("5 lacked", 0, () -> x.count(14));
        due("5 wrong", 0, () -> x.count(15));
        due("5 tree", Check.NO_SUCH, () -> x.treed(0, 0));
        due("5 tape", 20, () -> x.count(16));
        due("5 rules", 0, () -> x.count(8));
        due("5 again", 6, () -> x.anew());
        due("5 it learns as at first", 1, () -> x.lesson(6));
        due("5 without a grammar", 0, () -> new PhraseLearner().anew());
    }

    private static void promise6() {
        PhraseLearner x = afterLessons(1);
        due("6 both", 3, () -> Check.word(x, "ab"));
        due("6 the learner alone", 2, () -> Check.word(x, "aababb"));
        due("6 none", 0, () -> Check.word(x, "ba"));
        due("6 signs of no grammar", 0, () -> Check.word(x, "acdb"));
        due("6 twenty", 3, () -> Check.word(x, "aaaaaaaaaabbbbbbbbbb"));
        due("6 twenty of another", 0, () -> Check.word(x, "aaaaaaaaaaabbbbbbbbb"));
        due("6 twenty-one", NONE, () -> Check.word(x, "aaaaaaaaaabbbbbbbbbbb"));
        due("6 tape behind", 0, () -> x.count(16));
        due("6 no sign", NONE, () -> Check.word(x, ""));
        due("6 blank", NONE, () -> Check.word(x, "a b"));
        due("6 e", NONE, () -> Check.word(x, "ae"));
        due("6 great", NONE, () -> Check.word(x, "aB"));
        due("6 below a", NONE, () -> Check.word(x, "a`"));
        Check.feed(x, "ab");
        due("6 below 0", Check.ILLEGAL, () -> x.word(-1));
        due("6 not so many", Check.ILLEGAL, () -> x.word(21));
        due("6 far too many", Check.ILLEGAL, () -> x.word(Integer.MAX_VALUE));
        due("6 tape stays", 20, () -> x.count(16));
        due("6 0 is no word", NONE, () -> x.word(0));
        due("6 the tape is empty then", 0, () -> x.count(16));
        Check.feed(x, "aaaaaaaaaaaaaaaaaaaaaaaa");
        due("6 above 20", NONE, () -> x.word(24));
        due("6 empty then, too", 0, () -> x.count(16));

        PhraseLearner chain = Check.taught("S>A|SaB;A>B;B>S|b|aCd;C>cc;");
        due("6 through names", 1, () -> Check.word(chain, "b") & 1);
        due("6 through more names", 1, () -> Check.word(chain, "baaccd") & 1);
        due("6 not", 0, () -> Check.word(chain, "baacd") & 1);
        due("6 nor", 0, () -> Check.word(chain, "cc") & 1);
        PhraseLearner four = Check.taught("S>SSSS|a|Sb;");
        due("6 four of it", 1, () -> Check.word(four, "abaaab") & 1);
        due("6 three of it", 0, () -> Check.word(four, "aba") & 1);
        PhraseLearner none = Check.taught("S>S|aS|T;");
        due("6 no end", 0, () -> Check.word(none, "a"));
        due("6 asked before", 2, () -> Check.word(afterLessons(1), "aababb"));
        due("6 nothing is asked", 20, () -> x.count(5));
    }

    private static void promise7() {
        PhraseLearner x = Check.taught(PAIRS);
        due("7 part", 2, () -> Check.part(x, "ab"));
        due("7 asked", "a b aa ab+ ba bb aab bab aba abb abab", () -> Check.askedOf(x));
        due("7 it is one", NONE, () -> Check.part(x, "ab"));
        due("7 a sign is one", NONE, () -> Check.part(x, "a"));
        due("7 no sign of the grammar", NONE, () -> Check.part(x, "c"));
        due("7 no sign", NONE, () -> Check.part(x, "a b"));
        due("7 none", NONE, () -> Check.part(x, ""));
        due("7 six", 3, () -> Check.part(x, "aaabbb"));
        due("7 seven", NONE, () -> Check.part(x, "aaabbbb"));
        due("7 tape", 0, () -> x.count(16));
        Check.feed(x, "ba");
        due("7 below 0", Check.ILLEGAL, () -> x.part(-1));
        due("7 not so many", Check.ILLEGAL, () -> x.part(21));
        due("7 tape stays", 20, () -> x.count(16));
        due("7 then", 4, () -> x.part(2));
        due("7 column", 12, () -> x.kind(0, 0));
        String[] more = "aa bb aaa aab aba abb baa bab bba bbb aaaa".split(" ");
        for (int i = 0; i < more.length; i++) {
            int number = i;
            due("7 " + more[i], 5 + i, () -> Check.part(x, more[number]));
        }
        due("7 there are 16", NONE, () -> Check.part(x, "bbbb"));
        due("7 parts", "a b ab aaabbb ba aa bb aaa aab aba abb baa bab bba bbb aaaa", () -> Check.partsOf(x));
    }

    private static void promise8() {
        PhraseLearner x = Check.taught(PAIRS);
        due("8 that of empty rows", NONE, () -> Check.context(x, "", ""));
        due("8 left", 1, () -> Check.context(x, "a", ""));
        due("8 asked", "a b aa ab+ ba bb aaa aab aba abb", () -> Check.askedOf(x));
        due("8 right", 2, () -> Check.context(x, "", "a"));
        due("8 it is one", NONE, () -> Check.context(x, "a", ""));
        due("8 both", 3, () -> Check.context(x, "a", "bb"));
        due("8 otherwise split", 4, () -> Check.context(x, "ab", "b"));
        due("8 five", 5, () -> Check.context(x, "aab", "bb"));
        due("8 six", NONE, () -> Check.context(x, "aab", "bbb"));
        due("8 no sign of the grammar", NONE, () -> Check.context(x, "c", ""));
        due("8 another byte", NONE, () -> Check.context(x, "a ", ""));
        Check.feed(x, "ab");
        due("8 below 0", NONE, () -> x.context(2, -1));
        due("8 tape", 0, () -> x.count(16));
        Check.feed(x, "ab");
        due("8 above n", NONE, () -> x.context(2, 3));
        Check.feed(x, "ab");
        due("8 far above n", NONE, () -> x.context(2, Integer.MAX_VALUE));
        Check.feed(x, "ab");
        due("8 far below", NONE, () -> x.context(2, Integer.MIN_VALUE));
        Check.feed(x, "ab");
        due("8 not so many", Check.ILLEGAL, () -> x.context(21, 1));
        due("8 n below 0", Check.ILLEGAL, () -> x.context(-1, 0));
        due("8 tape stays", 20, () -> x.count(16));
        due("8 all right", 6, () -> x.context(2, 0));
        due("8 contexts", ". a. .a a.bb ab.b aab.bb .ab", () -> Check.contextsOf(x));
        for (int i = 0; i < 5; i++) {
            int number = i;
            due("8 more", 7 + i, () -> Check.context(x, "bbbbb".substring(0, number + 1), ""));
        }
        due("8 there are 12", NONE, () -> Check.context(x, "", "bbbbb"));
        due("8 still", 12, () -> x.count(4));
    }

    private static void promise9() {
        PhraseLearner x = Check.taught(PAIRS);
        due("9 below", Check.ILLEGAL, () -> x.lesson(0));
        due("9 above", Check.ILLEGAL, () -> x.lesson(7));
        due("9 nothing yet", 0, () -> x.lesson(1));
        due("9 lacked", 1, () -> x.lesson(2));
        due("9 parts", "a b ab", () -> Check.partsOf(x));
        due("9 contexts", ". .b a.", () -> Check.contextsOf(x));
        due("9 asked", "a b aa ab+ ba bb aab bab aba abb abab aabb+ bbb babb abbb ababb aaa aaab aaba aabab",
            () -> Check.askedOf(x));
        due("9 rules", "A>BC B>a B>BA C>b C>AC", () -> Check.rulesOf(x));
        due("9 all up to five", 0, () -> x.lesson(5));
        due("9 wrong", 2, () -> x.lesson(6));
        due("9 only the one that wasn't", "a b ab abb", () -> Check.partsOf(x));
        due("9 wrong again", 2, () -> x.lesson(6));
        due("9 parts then", "a b ab abb aab", () -> Check.partsOf(x));
        due("9 rules then", "B>a! C>b!", () -> Check.rulesOf(x));
        due("9 full", NONE, () -> x.lesson(2));
        due("9 nothing changed", "2 1 0 1 1 0 6 aababb", () -> Check.latestOf(x));
        due("9 passed over", 1, () -> x.lesson(4));
        due("9 by length, then by where it begins", "a b ab abb aab aa bb aabb", () -> Check.partsOf(x));
        due("9 by both, then by left", ". .b a. .bb a.b aa. .abb a.bb aa.b aab.", () -> Check.contextsOf(x));
        due("9 learnt", 0, () -> x.lesson(6));

        PhraseLearner one = Check.taught("S>abcA;A>abd;");
        due("9 of six", 1, () -> one.lesson(6));
        due("9 as long as there are fewer than 16",
            "a b c d ab bc ca bd abc bca cab abd abca bcab cabd abcab", () -> Check.partsOf(one));
        due("9 as long as there are fewer than 12",
            ". .d a. .bd a.d ab. .abd a.bd ab.d abc. .cabd a.abd", () -> Check.contextsOf(one));

        // all CONTEXTS of ab are there, and only the WORD itself can come
        PhraseLearner itself = Check.taught("S>ab|cb|ad;");
        Check.context(itself, "", "b");
        Check.context(itself, "a", "");
        due("9 itself next", 2, () -> itself.next(2, NONE));
        due("9 itself", 1, () -> itself.lesson(2));
        due("9 itself alone", "1 1 0 -1 -1 -1 2 ab", () -> Check.latestOf(itself));

        PhraseLearner palindromes = Check.taught("S>aSa|bSb|a|b;");
        due("9 two parts of one wrong word", 1, () -> palindromes.lesson(3));
        due("9 no grammar", 0, () -> new PhraseLearner().lesson(6));
    }

    private static void promise9Wrong() {
        // 0 > 0 0 stands, as the PARTS a, b allow it: aa, ab, ba, bb are TOLD, but no three
        PhraseLearner x = Check.taught("S>a|b|AA;A>a|b;");
        due("9w lengths 1 and 2", 0, () -> x.lesson(2));
        due("9w wrong", 2, () -> x.lesson(3));
        due("9w second of the least split", "2 1 0 0 0 0 3 aaa", () -> Check.latestOf(x));
        due("9w it was a part, a", "a b aa", () -> Check.partsOf(x));
        PhraseLearner both = refutedByBoth();
        due("9w the learner has it", "aaab", () -> both.next(4, 0) + both.next(4, 3) == 1 ? "aaab" : "");
        due("9w wrong by both", 2, () -> both.lesson(4));
        due("9w both come", "2 2 0 0 1 2 4 aaab", () -> Check.latestOf(both));
        due("9w the first one first", "a b ba aa ab", () -> Check.partsOf(both));

        PhraseLearner room = refutedByBoth();
        for (String row : "bb bbb bbbb bbbbb bbbbbb abb bba abbb bbba abba babb bbab".split(" ")) {
            Check.part(room, row);
        }
        due("9w room for one", 2, () -> room.lesson(4));
        due("9w one comes", "2 1 0 0 1 2 4 aaab", () -> Check.latestOf(room));
        due("9w the first one", "aa", () -> Check.partOf(room, 15));
        due("9w contexts may come yet", 1, () -> room.lesson(4));
        due("9w contexts alone", "1 0 4 -1 -1 -1 3 bab", () -> Check.latestOf(room));
        due("9w contexts are", ". .a b. .b .ab b.b ba.", () -> Check.contextsOf(room));

        PhraseLearner full = Check.taught("S>a|b|AA;A>a|b;");
        for (String row : "aaa aab aba abb baa bab bba bbb aaaa bbbb aaab bbba abba baab".split(" ")) {
            Check.part(full, row);
        }
        due("9w sixteen", 16, () -> full.count(3));
        due("9w nothing up to two", 0, () -> full.lesson(2));
        due("9w wrong ones, but full", NONE, () -> full.lesson(3));
        due("9w none next", 0, () -> full.next(3, NONE));
        due("9w none was", NONE, () -> full.latest(0));
    }

    /** 0 > 1 2 stands; from 1 it HAS aa, from 2 ab, and both TAKE them, but aaab isn't TOLD. */
    private static PhraseLearner refutedByBoth() {
        PhraseLearner x = Check.taught("S>ba|bab|aaa;");
        due("9w lacked", 1, () -> x.lesson(4));
        due("9w rules", "A>AB A>BC B>b B>CC C>a C>CB", () -> Check.rulesOf(x));
        return x;
    }

    private static void promise10() {
        PhraseLearner x = Check.taught(PAIRS);
        due("10 below", Check.ILLEGAL, () -> x.learn(0, 1));
        due("10 above", Check.ILLEGAL, () -> x.learn(7, 1));
        due("10 none", Check.ILLEGAL, () -> x.learn(6, 0));
        due("10 too many", Check.ILLEGAL, () -> x.learn(6, 21));
        due("10 two", 2, () -> x.learn(6, 2));
        due("10 parts", "a b ab abb", () -> Check.partsOf(x));
        due("10 the rest", 2, () -> x.learn(6, 20));
        due("10 the table is asked behind each", 204, () -> x.count(5));
        due("10 none is left", 0, () -> x.learn(6, 1));
        due("10 latest", "1 3 7 -1 -1 -1 4 aabb", () -> Check.latestOf(x));
        due("10 lacked", 2, () -> x.count(14));
        due("10 wrong", 2, () -> x.count(15));
        PhraseLearner full = afterLessons(3);
        due("10 till it is full", 0, () -> full.learn(2, 20));
        due("10 as by steps", Check.askedOf(() -> afterLessons(4)), () -> Check.askedOf(() -> {
            PhraseLearner once = Check.taught(PAIRS);
            once.learn(6, 20);
            return once;
        }));
        due("10 no grammar", 0, () -> new PhraseLearner().learn(6, 20));
    }

    private static void promise11() {
        PhraseLearner x = Check.taught(PAIRS);
        due("11 below", Check.ILLEGAL, () -> x.next(0, NONE));
        due("11 above", Check.ILLEGAL, () -> x.next(7, 99));
        due("11 none", 0, () -> x.next(1, NONE));
        due("11 no sign of none", Check.NO_SUCH, () -> x.next(1, 0));
        due("11 two", 2, () -> x.next(6, NONE));
        due("11 a", 0, () -> x.next(6, 0));
        due("11 b", 1, () -> x.next(6, 1));
        due("11 behind", Check.NO_SUCH, () -> x.next(6, 2));
        due("11 ahead", Check.NO_SUCH, () -> x.next(6, -2));
        due("11 far", Check.NO_SUCH, () -> x.next(6, Integer.MAX_VALUE));
        due("11 nothing changes", 6, () -> x.count(5));
        PhraseLearner full = afterLessons(3);
        due("11 full", 0, () -> full.next(2, NONE));
        due("11 longer", 4, () -> full.next(4, NONE));
        due("11 latest stays", 2, () -> full.latest(0));
        PhraseLearner d = Check.taught("S>bd;");
        due("11 signs by their letters", 3, () -> d.next(2, 1));
    }

    private static void promise12() {
        PhraseLearner x = Check.taught(PAIRS);
        due("12 none", "-1 -1 -1 -1 -1 -1 -1", () -> Check.latestOf(x));
        due("12 10 without one", Check.NO_SUCH, () -> x.latest(10));
        due("12 7 without one", Check.NO_SUCH, () -> x.latest(7));
        x.lesson(1);
        due("12 one that was 0", NONE, () -> x.latest(0));
        x.lesson(6);
        due("12 lacked", "1 1 2 -1 -1 -1 2 ab", () -> Check.latestOf(x));
        due("12 behind the word", Check.NO_SUCH, () -> x.latest(12));
        due("12 far behind", Check.NO_SUCH, () -> x.latest(Integer.MAX_VALUE));
        for (int what : new int[] {-1, 7, 8, 9, Integer.MIN_VALUE}) {
            due("12 " + what, Check.NO_SUCH, () -> x.latest(what));
        }
        x.lesson(6);
        due("12 wrong", "2 1 0 2 0 2 6 aababb", () -> Check.latestOf(x));
        due("12 last sign", 1, () -> x.latest(15));
        due("12 behind six", Check.NO_SUCH, () -> x.latest(16));
        Check.part(x, "bb");
        due("12 part() is no lesson", "2 1 0 2 0 2 6 aababb", () -> Check.latestOf(x));
    }

    private static void promise13() {
        PhraseLearner x = afterLessons(4);
        Check.feed(x, "a");
        int[] counts = {1, 2, 2, 8, 10, 204, 4, 6, 42, 10, 10, 10, 7, 20, 2, 2, 20};
        for (int i = 0; i < counts.length; i++) {
            int what = i;
            due("13 count " + i, counts[i], () -> x.count(what));
        }
        due("13 below", Check.NO_SUCH, () -> x.count(-1));
        due("13 above", Check.NO_SUCH, () -> x.count(17));
        due("13 least", Check.NO_SUCH, () -> x.count(Integer.MIN_VALUE));
        PhraseLearner y = doubling();
        int[] others = {6, 16, 4, 9, 8, 615, 11, 1, 7, 6, 7, 6, 8, 6, 0, 0, 0};
        for (int i = 0; i < others.length; i++) {
            int what = i;
            due("13 doubling " + i, others[i], () -> y.count(what));
        }
        PhraseLearner z = afterLessons(3);
        due("13 made but not reached", 2, () -> z.count(9));
        due("13 reached but not made", 1, () -> z.count(10));
        due("13 useful", 0, () -> z.count(11));
    }

    private static void promise14() {
        PhraseLearner x = Check.taught("S>bSd|bd;");
        Check.part(x, "bdb");
        due("14 b", 1, () -> x.ofPart(0, 0));
        due("14 d", 3, () -> x.ofPart(1, 0));
        due("14 one", 1, () -> x.ofPart(1, NONE));
        due("14 three", 3, () -> x.ofPart(2, NONE));
        due("14 second", 3, () -> x.ofPart(2, 1));
        due("14 third", 1, () -> x.ofPart(2, 2));
        due("14 behind", Check.NO_SUCH, () -> x.ofPart(2, 3));
        due("14 ahead", Check.NO_SUCH, () -> x.ofPart(2, -2));
        due("14 no part", Check.NO_SUCH, () -> x.ofPart(3, NONE));
        due("14 below", Check.NO_SUCH, () -> x.ofPart(-1, NONE));
        due("14 far", Check.NO_SUCH, () -> x.ofPart(Integer.MAX_VALUE, 0));
    }

    private static void promise15() {
        PhraseLearner x = Check.taught("S>bSd|bd;");
        Check.context(x, "bd", "ddb");
        due("15 left", 2, () -> x.ofContext(1, false, NONE));
        due("15 right", 3, () -> x.ofContext(1, true, NONE));
        due("15 left 1", 3, () -> x.ofContext(1, false, 1));
        due("15 right 2", 1, () -> x.ofContext(1, true, 2));
        due("15 behind left", Check.NO_SUCH, () -> x.ofContext(1, false, 2));
        due("15 behind right", Check.NO_SUCH, () -> x.ofContext(1, true, 3));
        due("15 ahead", Check.NO_SUCH, () -> x.ofContext(1, true, -2));
        due("15 empty", 0, () -> x.ofContext(0, false, NONE));
        due("15 of empty", Check.NO_SUCH, () -> x.ofContext(0, false, 0));
        due("15 none", Check.NO_SUCH, () -> x.ofContext(2, false, NONE));
        due("15 below", Check.NO_SUCH, () -> x.ofContext(-1, false, NONE));
    }

    private static String kindOf(PhraseLearner x, int context) {
        StringBuilder all = new StringBuilder();
        for (int what = 0; what < 7; what++) {
            all.append(what == 0 ? "" : " ").append(x.kind(context, what));
        }
        return all.toString();
    }

    private static void promise16() {
        PhraseLearner x = afterLessons(4);
        String[] kinds = {"132 4 6 1 1 0 2", "17 4 6 1 1 1 1", "10 4 6 1 1 2 1", "32 4 5 1 1 3 2", "132 4 6 1 1 0 2",
            "64 4 5 1 1 5 2", "1 0 1 1 1 6 1", "17 4 6 1 1 1 1", "10 4 6 1 1 2 1", "2 0 1 1 1 9 1"};
        for (int i = 0; i < kinds.length; i++) {
            int context = i;
            due("16 kind " + i, kinds[i], () -> kindOf(x, context));
        }
        due("16 no context", Check.NO_SUCH, () -> x.kind(10, 0));
        due("16 below", Check.NO_SUCH, () -> x.kind(-1, 0));
        due("16 what", Check.NO_SUCH, () -> x.kind(0, 7));
        due("16 what below", Check.NO_SUCH, () -> x.kind(0, -1));
        PhraseLearner y = doubling();
        // 20 SIGNS are a WORD, 21 and 24 aren't; both on the right of 0's RULE are MADE, 0 isn't
        String[] others = {"0 1 1 0 1 0 -1", "1 0 1 1 1 1 1", "16 1 1 1 1 2 2", "32 2 1 1 1 3 4", "64 2 1 1 1 4 8",
            "128 2 1 1 1 5 16", "256 2 1 1 1 6 20", "0 1 1 0 0 7 -1"};
        for (int i = 0; i < others.length; i++) {
            int context = i;
            due("16 doubling " + i, others[i], () -> kindOf(y, context));
        }
        PhraseLearner z = afterLessons(3);
        due("16 reached alone", "4 3 0 0 1 0 -1", () -> kindOf(z, 0));
        due("16 made alone", "17 1 1 1 0 1 1", () -> kindOf(z, 1));
    }

    private static void promise17() {
        PhraseLearner x = afterLessons(1);
        due("17 ab", true, () -> x.takes(0, 0, 1));
        due("17 ba", false, () -> x.takes(0, 1, 0));
        due("17 a ab, b behind", true, () -> x.takes(1, 0, 2));
        due("17 ab b, a ahead", true, () -> x.takes(2, 2, 1));
        due("17 itself", false, () -> x.takes(2, 2, 2));
        due("17 no context", Check.NO_SUCH, () -> x.takes(3, 0, 0));
        due("17 below", Check.NO_SUCH, () -> x.takes(-1, 0, 0));
        due("17 no part", Check.NO_SUCH, () -> x.takes(0, 3, 0));
        due("17 no other", Check.NO_SUCH, () -> x.takes(0, 0, 3));
        due("17 part below", Check.NO_SUCH, () -> x.takes(0, -1, 0));
        due("17 other below", Check.NO_SUCH, () -> x.takes(0, 0, -1));
    }

    private static void promise18() {
        PhraseLearner x = afterLessons(4);
        due("18 rules", "A>BJ A>DF A>GC A>GI! A>GJ A>HJ! B>a B>DC B>DI! B>DJ B>GA B>GE! C>b C>AJ C>BF C>EJ! C>GF C>HF! "
            + "D>DA D>DE! D>GB D>GG D>GH! E>BJ! E>DF! E>GC! E>GI! E>GJ! E>HJ! F>AF F>CJ F>EF! F>IJ! F>JJ G>a H>a! H>DC! "
            + "H>DI! H>DJ! H>GA! H>GE! I>b! I>AJ! I>BF! I>EJ! I>GF! I>HF! J>b", () -> Check.rulesOf(x));
        due("18 behind", Check.NO_SUCH, () -> x.rule(48, 0));
        due("18 below", Check.NO_SUCH, () -> x.rule(-1, 0));
        due("18 far", Check.NO_SUCH, () -> x.rule(Integer.MAX_VALUE, 0));
        due("18 what", Check.NO_SUCH, () -> x.rule(0, 4));
        due("18 what below", Check.NO_SUCH, () -> x.rule(0, -1));
        due("18 doubling", "A>GD! B>a C>BB D>CC E>DD F>EE G>FD H>GB!", () -> Check.rulesOf(doubling()));
        due("18 not reached", "B>a! C>b!", () -> Check.rulesOf(afterLessons(3)));
        PhraseLearner d = Check.taught("S>d|b|SS;");
        due("18 signs by their letters", "A>b A>d A>AA", () -> Check.rulesOf(d));
    }

    private static void promise19() {
        PhraseLearner x = Check.taught("S>d|b|SS;");
        due("19 asked", "b+ d+ bb+ bd+ db+ dd+", () -> Check.askedOf(x));
        due("19 sign", 3, () -> x.asked(3, 1));
        due("19 behind", Check.NO_SUCH, () -> x.asked(3, 2));
        due("19 ahead", Check.NO_SUCH, () -> x.asked(3, -3));
        due("19 none", Check.NO_SUCH, () -> x.asked(6, NONE));
        due("19 none, told", Check.NO_SUCH, () -> x.asked(6, -2));
        due("19 below", Check.NO_SUCH, () -> x.asked(-1, NONE));
        Check.word(x, "bbbbb");
        x.next(6, NONE);
        x.many(6, 2);
        due("19 nothing else", 6, () -> x.count(5));
        Check.context(x, "b", "");
        due("19 each but once", "b+ d+ bb+ bd+ db+ dd+ bbb+ bbd+ bdb+ bdd+", () -> Check.askedOf(x));
    }

    private static void promise20() {
        PhraseLearner x = afterLessons(1);
        int[][] due = {{0, 0, 0}, {1, 1, 1}, {0, 0, 0}, {1, 1, 1}, {0, 0, 0}, {1, 2, 1}};
        for (int length = 1; length <= 6; length++) {
            for (int what = 0; what < 3; what++) {
                int l = length;
                int w = what;
                due("20 many " + l + " " + w, due[l - 1][w], () -> x.many(l, w));
            }
        }
        due("20 below", Check.ILLEGAL, () -> x.many(0, 0));
        due("20 above, ahead of what", Check.ILLEGAL, () -> x.many(7, 9));
        due("20 what", Check.NO_SUCH, () -> x.many(1, 3));
        due("20 what below", Check.NO_SUCH, () -> x.many(1, -1));
        due("20 no grammar", 0, () -> new PhraseLearner().many(6, 1));
        due("20 all of six", 4096, () -> Check.taught("S>a|b|c|d|SS;").many(6, 2));
    }

    private static void promise21() {
        PhraseLearner x = Check.taught("S>AA|d;A>d|a|b;");
        due("21 as in a dictionary", "aa ab ad ba bb bd da db dd", () -> Check.wordsOf(x, 2, true));
        PhraseLearner y = afterLessons(1);
        due("21 the learner", "aaabbb aababb", () -> Check.wordsOf(y, 6, false));
        due("21 the teacher", "aaabbb", () -> Check.wordsOf(y, 6, true));
        due("21 sign", 3, () -> x.told(2, true, 8, 1));
        due("21 no word", Check.NO_SUCH, () -> x.told(2, true, 9, 1));
        due("21 below", Check.NO_SUCH, () -> x.told(2, true, -1, 1));
        due("21 no sign", Check.NO_SUCH, () -> x.told(2, true, 0, 2));
        due("21 not how many", Check.NO_SUCH, () -> x.told(2, true, 0, NONE));
        due("21 length", Check.ILLEGAL, () -> x.told(0, true, 0, 0));
        due("21 length, ahead of word", Check.ILLEGAL, () -> x.told(7, false, -1, -1));
        due("21 no grammar", Check.NO_SUCH, () -> new PhraseLearner().told(1, false, 0, 0));
    }

    private static void promise22And23() {
        PhraseLearner x = afterLessons(4);
        due("23 nothing was said", NONE, () -> x.said(0));
        due("22 say", 70, () -> x.say());
        String text = "A>BJ|DF|GC|GJ;B>a|DC|DJ|GA;C>b|AJ|BF|GF;D>DA|GB|GG;F>AF|CJ|JJ;G>a;J>b;";
        due("22 text", text, () -> Check.saidOf(x));
        due("23 behind", NONE, () -> x.said(70));
        due("23 below", NONE, () -> x.said(-1));
        due("23 far", NONE, () -> x.said(Integer.MAX_VALUE));
        x.anew();
        due("23 as it was then", text, () -> Check.saidOf(x));
        due("22 no rules", 0, () -> x.say());
        due("23 none then", NONE, () -> x.said(0));
        PhraseLearner y = doubling();
        due("22 doubling", 29, () -> y.say());
        due("22 none of A", "B>a;C>BB;D>CC;E>DD;F>EE;G>FD;", () -> Check.saidOf(y));
        PhraseLearner four = Check.taught("S>a|b|c|d|SS;");
        four.say();
        due("22 signs first", "A>a|b|c|d|AA;", () -> Check.saidOf(four));
        Check.teach(four, "S>b;");
        due("23 behind teach()", "A>a|b|c|d|AA;", () -> Check.saidOf(four));
        due("22 no grammar", 0, () -> new PhraseLearner().say());
    }

    private static void promise24() {
        PhraseLearner x = afterLessons(4);
        due("24 itself", true, () -> x.within(3, 3));
        due("24 alike", true, () -> x.within(0, 4));
        due("24 alike, back", true, () -> x.within(4, 0));
        due("24 less", true, () -> x.within(6, 1));
        due("24 more", false, () -> x.within(1, 6));
        due("24 not", false, () -> x.within(0, 1));
        due("24 no context", Check.NO_SUCH, () -> x.within(10, 0));
        due("24 no other", Check.NO_SUCH, () -> x.within(0, 10));
        due("24 below", Check.NO_SUCH, () -> x.within(-1, 0));
        due("24 other below", Check.NO_SUCH, () -> x.within(0, -1));
        // the same PARTS, of pairs another one
        PhraseLearner y = Check.taught("S>a|ba|bbb|c;");
        Check.context(y, "b", "");
        due("24 a of both", 1, () -> y.kind(1, 0));
        due("24 pairs", false, () -> y.within(1, 0));
        PhraseLearner z = Check.taught("S>a|ba|baa|ca|caa|cab;");
        Check.context(z, "b", "");
        Check.context(z, "c", "");
        due("24 pairs within", true, () -> z.within(1, 2));
        due("24 pairs not within", false, () -> z.within(2, 1));
        due("24 columns are the same", z.kind(1, 0), () -> z.kind(2, 0));
        due("24 so not alike", 2, () -> z.kind(2, 5));
    }

    private static void promise25() {
        PhraseLearner x = Check.taught("S>a|SS;");
        String twenty = "aaaaaaaaaaaaaaaaaaaa";
        int[] catalan = {1, 1, 2, 5, 14, 42, 132, 429, 1430, 4862, 16796, 58786, 208012, 742900, 2674440, 9694845, 35357670,
            129644790, 477638700, 1000000000};
        for (int i = 1; i <= 20; i++) {
            int length = i;
            due("25 trees " + i, catalan[i - 1], () -> Check.trees(x, twenty.substring(0, length)));
        }
        Check.context(x, "a", "");
        due("25 any rule", 16, () -> Check.trees(x, "aaa") / 2);
        due("25 any rule of two", 4, () -> Check.trees(x, "aa"));
        due("25 not had", 0, () -> Check.trees(x, "ab"));
        due("25 no word", NONE, () -> Check.trees(x, "a b"));
        due("25 none", NONE, () -> Check.trees(x, ""));
        due("25 twenty-one", NONE, () -> Check.trees(x, twenty + "a"));
        due("25 tape", 0, () -> x.count(16));
        Check.feed(x, "a");
        due("25 below 0", Check.ILLEGAL, () -> x.trees(-1));
        due("25 not so many", Check.ILLEGAL, () -> x.trees(21));
        due("25 tape stays", 20, () -> x.count(16));
    }

    private static void promise26And27() {
        PhraseLearner x = afterLessons(1);
        due("27 none yet", Check.NO_SUCH, () -> x.treed(0, 0));
        due("26 tree", 7, () -> Check.tree(x, "aabb"));
        due("27 first rule of the least split", "A04 B01 C13 A12 B11 C21 C31", () -> Check.treeOf(x, 7));
        due("27 behind", Check.NO_SUCH, () -> x.treed(7, 0));
        due("27 below", Check.NO_SUCH, () -> x.treed(-1, 0));
        due("27 what", Check.NO_SUCH, () -> x.treed(0, 3));
        due("27 what below", Check.NO_SUCH, () -> x.treed(0, -1));
        due("26 not had", NONE, () -> Check.tree(x, "ba"));
        due("26 no word", NONE, () -> Check.tree(x, "a b"));
        due("26 none", NONE, () -> Check.tree(x, ""));
        Check.feed(x, "ab");
        due("26 below 0", Check.ILLEGAL, () -> x.tree(-1));
        due("26 not so many", Check.ILLEGAL, () -> x.tree(21));
        due("26 tape stays", 20, () -> x.count(16));
        Check.trees(x, "ab");
        Check.word(x, "ab");
        x.lesson(6);
        due("27 as it was then", "A04 B01 C13 A12 B11 C21 C31", () -> Check.treeOf(x, 7));
        due("26 one more", 3, () -> Check.tree(x, "ab"));
        due("27 the latest", "A02 B01 C11", () -> Check.treeOf(x, 3));
        due("27 no longer", Check.NO_SUCH, () -> x.treed(3, 0));
        x.anew();
        due("27 gone with anew()", Check.NO_SUCH, () -> x.treed(0, 0));
        // A > GC is A's first RULE with a from y, C > BF that of C; F > AF is at F's least split, F > CJ ahead of F > JJ
        PhraseLearner many = afterLessons(4);
        due("26 many rules", 11, () -> Check.tree(many, "aaabbb"));
        due("27 many rules", "A06 G01 C15 B11 F24 A22 B21 J31 F42 C41 J51", () -> Check.treeOf(many, 11));
        PhraseLearner y = Check.taught("S>a|SS;");
        due("26 twenty", 39, () -> Check.tree(y, "aaaaaaaaaaaaaaaaaaaa"));
        due("27 the last one", "A191", () -> {
            String all = Check.treeOf(y, 39);
            return all.substring(all.lastIndexOf(' ') + 1);
        });
        due("26 one", 1, () -> Check.tree(y, "a"));
        due("27 a leaf", "A01", () -> Check.treeOf(y, 1));
        Check.teach(y, "S>a;");
        due("27 gone with teach()", Check.NO_SUCH, () -> y.treed(0, 0));
    }

    public static void main(String[] args) {
        wholeLife();
        promise1();
        promise2();
        promise3And4();
        promise5();
        promise6();
        promise7();
        promise8();
        promise9();
        promise9Wrong();
        promise10();
        promise11();
        promise12();
        promise13();
        promise14();
        promise15();
        promise16();
        promise17();
        promise18();
        promise19();
        promise20();
        promise21();
        promise22And23();
        promise24();
        promise25();
        promise26And27();
        Check.end("promises");
    }
}
