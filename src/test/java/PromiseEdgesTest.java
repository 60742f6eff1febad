/**
 * Sentences of the promises that name a boundary, each with its own test: the last input that is
 * allowed and the first that isn't, on each side, which of two refusals comes first, and what a
 * refused call leaves as it was.
 */
public final class PromiseEdgesTest {
    private static final int NONE = PhraseLearner.NONE;
    private static final int LEAST = Integer.MIN_VALUE;
    private static final int GREATEST = Integer.MAX_VALUE;
    private static final int BLANKS = 0x20202020;
    private static final String PAIRS = "S>aSb|ab;";
    private static final String TWENTY = "aaaaaaaaaabbbbbbbbbb";

    private PromiseEdgesTest() {
    }

    private static void due(String name, Object want, Check.Call call) {
        Check.due(name, want, call);
    }

    private static PhraseLearner afterLessons(int lessons) {
        PhraseLearner x = Check.taught(PAIRS);
        for (int i = 0; i < lessons; i++) {
            x.lesson(6);
        }
        return x;
    }

    /** Whatever there is to lose: a LESSON, a TREE, what was SAID, a FAULT, and a tape of 20 bytes that begins so. */
    private static PhraseLearner busy(String tape) {
        PhraseLearner x = afterLessons(1);
        Check.tree(x, "ab");
        x.say();
        Check.teach(x, "S>");
        Check.feed(x, tape);
        return x;
    }

    private static PhraseLearner busy() {
        return busy("ab");
    }

    /** 16 PARTS (15 is aaaaaa), 12 CONTEXTS (11 is LEFT bbbbb); all is TOLD. */
    private static PhraseLearner crowded() {
        PhraseLearner x = Check.taught("S>a|b|SS;");
        for (String row : "aa ab ba bb aaa aab aba abb baa bab bba bbb aaaa aaaaaa".split(" ")) {
            Check.part(x, row);
        }
        for (String left : "a b aa ab ba bb aaa aab aba abb bbbbb".split(" ")) {
            Check.context(x, left, "");
        }
        return x;
    }

    private static void staysBy(String name, Object want, Check.CallOn call) {
        Check.leavesAll(name, want, PromiseEdgesTest::busy, call);
    }

    private static void emptiesTape(String name, Object want, String tape, Check.CallOn call) {
        Check.leavesAllButTape(name, want, () -> busy(tape), call);
        PhraseLearner x = busy(tape);
        call.by(x);
        due(name + ": the tape is empty then", 0, () -> x.count(16));
    }

    /** 1: "No GRAMMAR; no PARTS, CONTEXT 0." */
    private static void newObject() {
        PhraseLearner x = new PhraseLearner();
        due("1 state", "fault -1 counts 0 0 0 0 1 0 0 0 0 0 1 0 1 0 0 0 0 parts  contexts . kinds 0 0 0 0 1 0 -1 takes  "
            + "rules  latest -1 -1 -1 -1 -1 -1 -1 said  tree  many 0 0 0 0 0 0 0 0 0 0 0 0 0 0 0 0 0 0 next 0",
            () -> Check.stateOf(x));
        due("1 no PART 0", Check.NO_SUCH, () -> x.ofPart(0, NONE));
        due("1 CONTEXT 0", 0, () -> x.ofContext(0, true, NONE));
        due("1 no CONTEXT 1", Check.NO_SUCH, () -> x.ofContext(1, true, NONE));
        due("1 no RULE", Check.NO_SUCH, () -> x.rule(0, 0));
        due("1 no WORD ASKED", Check.NO_SUCH, () -> x.asked(0, NONE));
        due("1 nothing is TOLD", 0, () -> Check.word(x, "a"));
        due("1 no TREES", 0, () -> Check.trees(x, "a"));
        due("1 no TREE", NONE, () -> Check.tree(x, "a"));
        due("1 no tree", Check.NO_SUCH, () -> x.treed(0, 0));
        due("1 nothing is learnt", 0, () -> x.lesson(6) + x.learn(6, 20));
        due("1 nothing is SAID", 0, () -> x.say());
        due("1 within itself", true, () -> x.within(0, 0));
        due("1 not ASKED anew", 0, () -> x.anew());
    }

    /** 2: "NONE, and none come, if it would have more than 400", "of each number the highest first". */
    private static void feed() {
        PhraseLearner x = new PhraseLearner();
        for (int i = 1; i <= 19; i++) {
            x.feed(BLANKS, BLANKS, BLANKS, BLANKS, BLANKS);
        }
        due("2 380", 380, () -> x.count(16));
        due("2 400", 400, () -> x.feed(BLANKS, BLANKS, BLANKS, 0x20202053, 0x3E623B0A));
        due("2 above 400", NONE, () -> x.feed(0, 0, 0, 0, 0));
        due("2 above 400 again", NONE, () -> x.feed(0, 0, 0, 0, 0));
        due("2 it has 400 yet", 400, () -> x.count(16));
        due("2 those that came before", 0, () -> x.teach(400));
        due("2 are read", "b", () -> Check.partsOf(x));
        due("2 then 20 come again", 20, () -> x.feed(0x61626364, 0x61616161, 0x62626262, 0x63636363, 0x64646464));
        due("2 word", 0, () -> x.word(20));
        PhraseLearner y = Check.taught("S>ABCD;A>abcd;B>aaaa;C>bbbb;D>cEab;E>ccd;");
        y.feed(0x61626364, 0x61616161, 0x62626262, 0x63636364, 0x61622020);
        due("2 bytes in their order", 1, () -> y.word(18));
        Check.leavesAll("2 a full tape", NONE, () -> {
            PhraseLearner full = busy("ab" + " ".repeat(378));
            full.feed(BLANKS, BLANKS, BLANKS, BLANKS, BLANKS);
            return full;
        }, full -> full.feed(0, 0, 0, 0, 0));
        // bytes of numbers below 0 are 128 to 255, not SIGNS, and go beside others
        PhraseLearner z = Check.taught("S>ab;");
        z.feed(0x6162FFFF, -1, -1, -1, -1);
        due("2 a byte 255 behind n", 1, () -> z.word(2));
        z.feed(0x6162FFFF, -1, -1, -1, -1);
        due("2 a byte 255", NONE, () -> z.word(3));
        z.feed(0xE1E26162, -1, -1, -1, -1);
        due("2 a byte above 127 is no SIGN", NONE, () -> z.word(1));
    }

    /** 3: "it is empty then", "all else stays", "nothing changes, nor does the tape". */
    private static void teach() {
        for (int n : new int[] {21, 22, 401, GREATEST, -1, -20, LEAST}) {
            staysBy("3 teach " + n, Check.ILLEGAL, x -> x.teach(n));
        }
        PhraseLearner last = new PhraseLearner();
        Check.feed(last, "S>a;");
        due("3 as many as there are", 0, () -> last.teach(20));
        due("3 none on an empty tape", Check.ILLEGAL, () -> last.teach(1));
        due("3 0 on an empty tape", 1, () -> last.teach(0));
        due("3 which leaves the GRAMMAR", "a", () -> Check.partsOf(last));
        PhraseLearner more = new PhraseLearner();
        Check.feed(more, "S>a;" + " ".repeat(36));
        due("3 fewer than there are", 0, () -> more.teach(4));
        due("3 the tape is empty then", 0, () -> more.count(16));
        PhraseLearner wrong = new PhraseLearner();
        Check.feed(wrong, "S>a;" + " ".repeat(36));
        due("3 FAULT", 1, () -> wrong.teach(2));
        due("3 the tape is empty with a FAULT, too", 0, () -> wrong.count(16));
        due("3 no GRAMMAR then", 0, () -> wrong.count(0));
        // busy() has the FAULT of S> already, so that fault() stays as well
        for (String text : new String[] {"S>", "S>c|d", "S>AAAA|aaaaa"}) {
            PhraseLearner with = busy();
            with.word(0);
            Check.teach(with, text);
            Check.teach(with, "S>");
            PhraseLearner without = busy();
            without.word(0);
            due("3 all else stays behind " + text, Check.stateOf(without), () -> Check.stateOf(with));
            due("3 what is TOLD stays behind " + text, 3, () -> Check.word(with, "aabb"));
        }
        PhraseLearner fresh = Check.taught("S>b|cS;");
        PhraseLearner again = busy();
        again.word(0);
        again.learn(6, 20);
        Check.teach(again, "S>b|cS;");
        due("3 said stays", "A>BC;B>a|BA;C>b|AC;", () -> Check.saidOf(again));
        again.anew();
        again.say();
        fresh.say();
        due("3 THE LEARNER is as at first", Check.stateOf(fresh), () -> Check.stateOf(again));
    }

    /** 3: "THE LEARNER is as at first then, nothing but its TABLE ASKED", whatever GRAMMARS came before. */
    private static void teachAgain() {
        String[] texts = {PAIRS, "S>a|SS;", "S>aa|b;", "S>ABab|c;A>ba|Aa;B>b;", "S>b;", "S>aSa|bSb|a|b;", "S>S;", "S>ab|aSb",
            "S>A|aaaab;", "S>aaA|B;A>b|ab;C>A|B|D|E|F;"};
        for (String last : new String[] {PAIRS, "S>a|SS;", "S>aa|b;", "S>ABab|c;A>ba|Aa;B>b;", "S>b;", "S>S;"}) {
            PhraseLearner fresh = Check.taught(last);
            String due = Check.stateOf(fresh);
            for (String first : texts) {
                for (String second : texts) {
                    PhraseLearner x = new PhraseLearner();
                    Check.teach(x, first);
                    x.learn(4, 2);
                    x.many(6, 2);
                    Check.teach(x, second);
                    Check.word(x, "aab");
                    x.many(5, 2);
                    Check.teach(x, last);
                    due("3 " + last + " behind " + first + " and " + second, due, () -> Check.stateOf(x));
                }
            }
        }
    }

    /** 4: "NONE: it had none, or there was none." */
    private static void fault() {
        PhraseLearner x = new PhraseLearner();
        due("4 there was none", NONE, () -> x.fault());
        Check.teach(x, "S>a;S");
        due("4 its place", 5, () -> x.fault());
        due("4 its place again", 5, () -> x.fault());
        x.anew();
        x.lesson(6);
        due("4 other calls leave it", 5, () -> x.fault());
        due("4 refused", Check.ILLEGAL, () -> x.teach(1));
        due("4 a refused teach() leaves it", 5, () -> x.fault());
        Check.teach(x, ";");
        due("4 the latest one's, at byte 0", 0, () -> x.fault());
        Check.teach(x, "S>a;");
        due("4 it had none", NONE, () -> x.fault());
        due("4 refused again", Check.ILLEGAL, () -> x.teach(-1));
        due("4 none yet", NONE, () -> x.fault());
    }

    /** 5: "THE LEARNER is as at first .. (ASKED are only those of its TABLE then): how many WORDS were ASKED." */
    private static void anew() {
        PhraseLearner x = busy();
        due("5 those that were ASKED", 20, () -> x.anew());
        due("5 only those of its TABLE then", "a b aa ab+ ba bb", () -> Check.askedOf(x));
        due("5 at once again", 6, () -> x.anew());
        due("5 the FAULT stays", 2, () -> x.fault());
        due("5 what was SAID stays", "A>BC;B>a|BA;C>b|AC;", () -> Check.saidOf(x));
        due("5 the tape stays", 20, () -> x.count(16));
        due("5 with its bytes", 1, () -> x.word(2));
        due("5 the GRAMMAR stays", "1 2 2", () -> x.count(0) + " " + x.count(1) + " " + x.count(2));
        due("5 LESSONS are none", "0 0", () -> x.count(14) + " " + x.count(15));
        due("5 the TREE is gone", "", () -> Check.treeOf(x));
        due("5 the latest LESSON is gone", "-1 -1 -1 -1 -1 -1 -1", () -> Check.latestOf(x));
        PhraseLearner full = crowded();
        int asked = full.count(5);
        due("5 behind a full TABLE", asked, () -> full.anew());
        due("5 empty then", "2 1 6", () -> full.count(3) + " " + full.count(4) + " " + full.count(5));
        due("5 COLUMN then", 3, () -> full.kind(0, 0));
        due("5 no GRAMMAR", 0, () -> new PhraseLearner().anew());
    }

    /** The IllegalArgumentException of word(), part(), context(), trees(), tree(): "(ahead of that)", "the tape stays". */
    private static void tapeHasNotSoMany() {
        for (int n : new int[] {21, 22, 400, GREATEST, -1, -21, LEAST}) {
            staysBy("6 word " + n, Check.ILLEGAL, x -> x.word(n));
            staysBy("7 part " + n, Check.ILLEGAL, x -> x.part(n));
            staysBy("8 context " + n, Check.ILLEGAL, x -> x.context(n, 0));
            staysBy("8 context, left wrong, too " + n, Check.ILLEGAL, x -> x.context(n, -1));
            staysBy("8 context, left as many " + n, Check.ILLEGAL, x -> x.context(n, n));
            staysBy("25 trees " + n, Check.ILLEGAL, x -> x.trees(n));
            staysBy("26 tree " + n, Check.ILLEGAL, x -> x.tree(n));
        }
        PhraseLearner x = Check.taught(PAIRS);
        due("6 1 of an empty tape", Check.ILLEGAL, () -> x.word(1));
        due("6 0 of an empty tape", NONE, () -> x.word(0));
        due("7 0 of an empty tape", NONE, () -> x.part(0));
        due("8 0 of an empty tape", NONE, () -> x.context(0, 0));
        due("8 0 of an empty tape, left 1", NONE, () -> x.context(0, 1));
        due("8 -1 of an empty tape", Check.ILLEGAL, () -> x.context(-1, -1));
        due("25 0 of an empty tape", NONE, () -> x.trees(0));
        due("26 0 of an empty tape", NONE, () -> x.tree(0));
    }

    /** 6: "NONE: it is no WORD (another byte, n below 1 or above 20)", "empty then, whatever comes of it". */
    private static void word() {
        emptiesTape("6 a WORD", 3, "ab", x -> x.word(2));
        emptiesTape("6 one that THE LEARNER alone HAS", 2, "aababb", x -> x.word(6));
        emptiesTape("6 none", NONE, "ab", x -> x.word(0));
        emptiesTape("6 one", 0, "ab", x -> x.word(1));
        emptiesTape("6 another byte", NONE, "ab", x -> x.word(3));
        emptiesTape("6 20", 3, TWENTY + "a", x -> x.word(20));
        emptiesTape("6 21", NONE, TWENTY + "a", x -> x.word(21));
        emptiesTape("6 40", NONE, TWENTY + TWENTY, x -> x.word(40));
        emptiesTape("6 SIGNS not of the GRAMMAR", 0, "acdb", x -> x.word(4));
        for (int value = 0; value < 256; value++) {
            String text = "ab" + (char) value;
            PhraseLearner x = Check.taught("S>a|SS|SbS|bb;");
            boolean isSign = value >= 'a' && value <= 'd';
            due("6 byte " + value, isSign ? 0 : NONE, () -> Math.min(0, Check.word(x, text)));
            due("7 byte " + value, value == 'a' || value == 'b' ? 2 : NONE, () -> Check.part(x, text));
            due("8 byte " + value, value == 'a' || value == 'b' ? 1 : NONE, () -> Check.context(x, text, ""));
            due("25 byte " + value, isSign ? 0 : NONE, () -> Math.min(0, Check.trees(x, text)));
        }
    }

    /** 7: "NONE: it is no such WORD, it has more than 6 SIGNS, it is a PART, there are 16". */
    private static void part() {
        emptiesTape("7 none", NONE, "ab", x -> x.part(0));
        emptiesTape("7 another byte", NONE, "b b", x -> x.part(3));
        emptiesTape("7 no SIGN OF THE GRAMMAR", NONE, "bc", x -> x.part(2));
        emptiesTape("7 a SIGN", NONE, "ab", x -> x.part(1));
        emptiesTape("7 a PART", NONE, "ab", x -> x.part(2));
        emptiesTape("7 seven", NONE, "abababa", x -> x.part(7));
        emptiesTape("7 twenty", NONE, TWENTY, x -> x.part(20));
        emptiesTape("7 twenty-one", NONE, TWENTY + "a", x -> x.part(21));
        PhraseLearner x = busy("ababab");
        due("7 six", 3, () -> x.part(6));
        due("7 the tape is empty then", 0, () -> x.count(16));
        due("7 it is there", "ababab", () -> Check.partOf(x, 3));
        due("7 THE TABLE is asked", true, () -> x.count(5) > 20);
        PhraseLearner full = crowded();
        int asked = full.count(5);
        due("7 there are 16", NONE, () -> Check.part(full, "bbbb"));
        due("7 the tape is empty with 16, too", 0, () -> full.count(16));
        due("7 nothing becomes of it", "16 " + asked, () -> full.count(3) + " " + full.count(5));
        due("7 no GRAMMAR, no SIGN of it", NONE, () -> Check.part(new PhraseLearner(), "a"));
    }

    /** 8: "NONE: left is below 0 or above n, there is another byte, n is above 5, it is a CONTEXT, there are 12." */
    private static void context() {
        emptiesTape("8 left below 0", NONE, "bb", x -> x.context(2, -1));
        emptiesTape("8 left far below 0", NONE, "bb", x -> x.context(2, LEAST));
        emptiesTape("8 left above n", NONE, "bb", x -> x.context(2, 3));
        emptiesTape("8 left far above n", NONE, "bb", x -> x.context(2, GREATEST));
        emptiesTape("8 left above 0", NONE, "bb", x -> x.context(0, 1));
        emptiesTape("8 another byte", NONE, "b b", x -> x.context(3, 1));
        emptiesTape("8 no SIGN OF THE GRAMMAR", NONE, "bc", x -> x.context(2, 1));
        emptiesTape("8 six", NONE, "bbbbbb", x -> x.context(6, 3));
        emptiesTape("8 twenty", NONE, TWENTY, x -> x.context(20, 3));
        emptiesTape("8 twenty-one", NONE, TWENTY + "a", x -> x.context(21, 0));
        emptiesTape("8 CONTEXT 0", NONE, "ab", x -> x.context(0, 0));
        emptiesTape("8 a CONTEXT", NONE, "ab", x -> x.context(1, 1));
        for (int left = 0; left <= 5; left++) {
            int signs = left;
            PhraseLearner x = busy("ababa");
            due("8 five, left " + left, 3, () -> x.context(5, signs));
            due("8 the tape is empty then", 0, () -> x.count(16));
            due("8 LEFT", signs, () -> x.ofContext(3, false, NONE));
            due("8 RIGHT", 5 - signs, () -> x.ofContext(3, true, NONE));
            due("8 once more", NONE, () -> Check.context(x, "ababa".substring(0, signs), "ababa".substring(signs)));
        }
        PhraseLearner one = busy("a");
        due("8 the same SIGN as RIGHT is another one", 3, () -> one.context(1, 0));
        PhraseLearner full = crowded();
        int asked = full.count(5);
        due("8 there are 12", NONE, () -> Check.context(full, "", "a"));
        due("8 nothing becomes of it", "12 " + asked, () -> full.count(4) + " " + full.count(5));
        due("8 the tape is empty with 12, too", 0, () -> full.count(16));
        due("8 no GRAMMAR, no SIGN of it", NONE, () -> Check.context(new PhraseLearner(), "a", ""));
    }

    /** 9: "0 no WORD is LACKED or WRONG", "NONE: FULL (nothing changes)", "IllegalArgumentException: not 1 to 6". */
    private static void lesson() {
        for (int length : new int[] {0, -1, LEAST, 7, 8, GREATEST}) {
            staysBy("9 lesson " + length, Check.ILLEGAL, x -> x.lesson(length));
        }
        for (int length = 1; length <= 5; length++) {
            int upTo = length;
            staysBy("9 nothing up to " + length, 0, x -> x.lesson(upTo));
        }
        due("9 up to 6", 2, () -> busy().lesson(6));
        Check.leavesAll("9 FULL", NONE, () -> afterLessons(3), x -> x.lesson(2));
        Check.leavesAll("9 FULL, 3", NONE, () -> afterLessons(3), x -> x.lesson(3));
        due("9 not FULL", 1, () -> afterLessons(3).lesson(4));
        due("9 the tape stays", 20, () -> {
            PhraseLearner x = busy();
            x.lesson(6);
            return x.count(16);
        });
    }

    /** 10: "as many as most (1 to 20), or till one is 0 or NONE: how many were 1 or 2." */
    private static void learn() {
        for (int wrong : new int[] {0, -1, LEAST, 7, GREATEST}) {
            staysBy("10 length " + wrong, Check.ILLEGAL, x -> x.learn(wrong, 1));
            staysBy("10 length and most " + wrong, Check.ILLEGAL, x -> x.learn(wrong, 0));
        }
        for (int most : new int[] {0, -1, LEAST, 21, GREATEST}) {
            staysBy("10 most " + most, Check.ILLEGAL, x -> x.learn(6, most));
        }
        staysBy("10 till one is 0", 0, x -> x.learn(5, 20));
        Check.leavesAll("10 till one is NONE", 0, () -> afterLessons(3), x -> x.learn(2, 20));
        due("10 length 1", 0, () -> busy().learn(1, 1));
        for (int most = 1; most <= 20; most++) {
            int lessons = most;
            PhraseLearner x = Check.taught(PAIRS);
            due("10 most " + most, Math.min(most, 4), () -> x.learn(6, lessons));
            due("10 as by lesson()", Check.latestOf(afterLessons(most)), () -> Check.latestOf(x));
        }
    }

    /** 11: "k NONE: how many (0: there is none, or it would be FULL)", "NoSuchElementException (behind that)". */
    private static void next() {
        for (int length : new int[] {0, -1, LEAST, 7, GREATEST}) {
            staysBy("11 length " + length, Check.ILLEGAL, x -> x.next(length, NONE));
            staysBy("11 length ahead of k " + length, Check.ILLEGAL, x -> x.next(length, 99));
        }
        for (int k : new int[] {6, 7, 32, GREATEST, -2, LEAST}) {
            staysBy("11 k " + k, Check.NO_SUCH, x -> x.next(6, k));
        }
        staysBy("11 how many", 6, x -> x.next(6, NONE));
        staysBy("11 the first SIGN", 0, x -> x.next(6, 0));
        staysBy("11 the last SIGN", 1, x -> x.next(6, 5));
        staysBy("11 there is none", 0, x -> x.next(5, NONE));
        staysBy("11 no SIGN of none", Check.NO_SUCH, x -> x.next(5, 0));
        due("11 FULL", 0, () -> afterLessons(3).next(2, NONE));
        due("11 no SIGN, if FULL", Check.NO_SUCH, () -> afterLessons(3).next(2, 0));
        due("11 d is 3", 3, () -> Check.taught("S>dd;").next(2, 0));
        PhraseLearner x = busy();
        int count = x.next(6, NONE);
        x.lesson(6);
        due("11 what the LESSON was about", count, () -> x.latest(6));
    }

    /** 12: "NONE of all without one", "another what (10 and k behind the WORD, too; without one 10 on)". */
    private static void latest() {
        for (int what : new int[] {-1, LEAST, 7, 8, 9, 12, 13, 42, GREATEST}) {
            staysBy("12 what " + what, Check.NO_SUCH, x -> x.latest(what));
        }
        PhraseLearner none = Check.taught(PAIRS);
        for (int what = 0; what <= 6; what++) {
            int number = what;
            due("12 without one " + what, NONE, () -> none.latest(number));
        }
        for (int what : new int[] {-1, 7, 9, 10, 11, GREATEST}) {
            due("12 without one " + what, Check.NO_SUCH, () -> none.latest(what));
        }
        PhraseLearner x = busy();
        due("12 the first SIGN", 0, () -> x.latest(10));
        due("12 the last SIGN", 1, () -> x.latest(11));
        x.lesson(5);
        due("12 one that is 0 isn't it", "1 1 2 -1 -1 -1 2 ab", () -> Check.latestOf(x));
        x.learn(6, 20);
        due("12 of learn() the last one", "1 3 7 -1 -1 -1 4 aabb", () -> Check.latestOf(x));
        PhraseLearner full = afterLessons(3);
        full.lesson(2);
        due("12 one that is FULL isn't it", "2 1 0 1 1 0 6 aababb", () -> Check.latestOf(full));
        due("12 its last SIGN", 1, () -> full.latest(15));
        due("12 behind it", Check.NO_SUCH, () -> full.latest(16));
        Check.teach(full, "S>");
        due("12 a FAULT leaves it", 2, () -> full.latest(0));
        full.anew();
        due("12 gone with anew()", "-1 -1 -1 -1 -1 -1 -1", () -> Check.latestOf(full));
        full.lesson(6);
        Check.teach(full, PAIRS);
        due("12 gone with teach()", "-1 -1 -1 -1 -1 -1 -1", () -> Check.latestOf(full));
        due("12 no SIGN then", Check.NO_SUCH, () -> full.latest(10));
    }

    /** 13: "NoSuchElementException: another what", and LESSONS "since teach(), anew()". */
    private static void count() {
        for (int what : new int[] {-1, LEAST, 17, 18, GREATEST}) {
            staysBy("13 what " + what, Check.NO_SUCH, x -> x.count(what));
        }
        due("13 the first", 1, () -> busy().count(0));
        due("13 the last", 20, () -> busy().count(16));
        PhraseLearner x = afterLessons(4);
        due("13 LESSONS", "2 2", () -> x.count(14) + " " + x.count(15));
        x.lesson(6);
        due("13 one that is 0 isn't counted", "2 2", () -> x.count(14) + " " + x.count(15));
        Check.teach(x, "S>");
        due("13 a FAULT leaves them", "2 2", () -> x.count(14) + " " + x.count(15));
        Check.teach(x, PAIRS);
        due("13 since teach()", "0 0", () -> x.count(14) + " " + x.count(15));
        PhraseLearner full = crowded();
        due("13 a full TABLE", "16 12", () -> full.count(3) + " " + full.count(4));
        due("13 all RULES", "24 1728", () -> full.count(7) + " " + full.count(8));
        due("13 all ASKED are TOLD", full.count(5), () -> full.count(6));
    }

    /** 14, 15: "(0 on; 0 a .. 3 d)", "k NONE: how many", "no such PART, CONTEXT, SIGN". */
    private static void signsOfPartsAndContexts() {
        for (int wrong : new int[] {-1, LEAST, 3, GREATEST}) {
            staysBy("14 PART " + wrong, Check.NO_SUCH, x -> x.ofPart(wrong, NONE));
            staysBy("14 PART and k " + wrong, Check.NO_SUCH, x -> x.ofPart(wrong, 9));
            staysBy("15 CONTEXT, LEFT " + wrong, Check.NO_SUCH, x -> x.ofContext(wrong, false, NONE));
            staysBy("15 CONTEXT, RIGHT " + wrong, Check.NO_SUCH, x -> x.ofContext(wrong, true, 0));
        }
        for (int k : new int[] {-2, LEAST, 2, 32, 33, GREATEST}) {
            staysBy("14 k " + k, Check.NO_SUCH, x -> x.ofPart(2, k));
            staysBy("15 k of LEFT " + k, Check.NO_SUCH, x -> x.ofContext(2, false, k));
            staysBy("15 k of RIGHT " + k, Check.NO_SUCH, x -> x.ofContext(1, true, k));
        }
        PhraseLearner x = crowded();
        due("14 the last PART", 6, () -> x.ofPart(15, NONE));
        due("14 its last SIGN", 0, () -> x.ofPart(15, 5));
        due("14 behind it", Check.NO_SUCH, () -> x.ofPart(15, 6));
        due("14 behind the last PART", Check.NO_SUCH, () -> x.ofPart(16, NONE));
        due("14 the first PART", 1, () -> x.ofPart(0, NONE));
        due("15 the last CONTEXT", 5, () -> x.ofContext(11, false, NONE));
        due("15 its last SIGN", 1, () -> x.ofContext(11, false, 4));
        due("15 behind it", Check.NO_SUCH, () -> x.ofContext(11, false, 5));
        due("15 its RIGHT is empty", 0, () -> x.ofContext(11, true, NONE));
        due("15 no SIGN in it", Check.NO_SUCH, () -> x.ofContext(11, true, 0));
        due("15 behind the last CONTEXT", Check.NO_SUCH, () -> x.ofContext(12, false, NONE));
        due("15 CONTEXT 0 has none", Check.NO_SUCH, () -> x.ofContext(0, true, 0));
        PhraseLearner d = Check.taught("S>abcd;");
        due("14 a .. d", "0 1 2 3", () -> d.ofPart(0, 0) + " " + d.ofPart(1, 0) + " " + d.ofPart(2, 0) + " " + d.ofPart(3, 0));
        Check.context(d, "dc", "ba");
        due("15 a .. d", "3 2 1 0", () -> d.ofContext(1, false, 0) + " " + d.ofContext(1, false, 1) + " "
            + d.ofContext(1, true, 0) + " " + d.ofContext(1, true, 1));
    }

    /** 16, 17, 24: "no such CONTEXT, another what", "no such CONTEXT, PARTS", "no such CONTEXTS". */
    private static void kindTakesWithin() {
        for (int wrong : new int[] {-1, LEAST, 3, 12, 16, 32, GREATEST}) {
            staysBy("16 CONTEXT " + wrong, Check.NO_SUCH, x -> x.kind(wrong, 0));
            staysBy("17 CONTEXT " + wrong, Check.NO_SUCH, x -> x.takes(wrong, 0, 0));
            staysBy("17 PART " + wrong, Check.NO_SUCH, x -> x.takes(0, wrong, 0));
            staysBy("17 other PART " + wrong, Check.NO_SUCH, x -> x.takes(0, 0, wrong));
            staysBy("24 CONTEXT " + wrong, Check.NO_SUCH, x -> x.within(wrong, 0));
            staysBy("24 other CONTEXT " + wrong, Check.NO_SUCH, x -> x.within(0, wrong));
        }
        for (int what : new int[] {-1, LEAST, 7, 8, GREATEST}) {
            staysBy("16 what " + what, Check.NO_SUCH, x -> x.kind(0, what));
        }
        PhraseLearner x = crowded();
        due("16 the last CONTEXT's COLUMN", 65535, () -> x.kind(11, 0));
        due("16 its pairs", 256, () -> x.kind(11, 1));
        due("16 its RULES", 2 + 144, () -> x.kind(11, 2));
        due("16 its shortest WORD", 1, () -> x.kind(11, 6));
        due("16 one behind", Check.NO_SUCH, () -> x.kind(12, 6));
        due("17 the last of all", true, () -> x.takes(11, 15, 15));
        due("17 behind the last PART", Check.NO_SUCH, () -> x.takes(11, 15, 16));
        due("17 behind the last PART, first", Check.NO_SUCH, () -> x.takes(11, 16, 15));
        due("17 behind the last CONTEXT", Check.NO_SUCH, () -> x.takes(12, 15, 15));
        due("24 the last ones", true, () -> x.within(11, 11));
        due("24 behind", Check.NO_SUCH, () -> x.within(11, 12));
        due("24 behind, first", Check.NO_SUCH, () -> x.within(12, 11));
        PhraseLearner y = Check.taught("S>ab;");
        Check.context(y, "b", "");
        Check.context(y, "a", "");
        due("16 NONE: it isn't MADE", NONE, () -> y.kind(1, 6));
        due("24 one that TAKES nothing is within each", true, () -> y.within(1, 0) && y.within(1, 2));
        due("24 one pair more", false, () -> y.within(0, 1));
        due("24 one PART more", false, () -> y.within(2, 1));
    }

    /** 18, 19: "of one SIGN: NONE", "no such RULE, another what"; "k -2", "no such WORD, SIGN". */
    private static void ruleAndAsked() {
        for (int rule : new int[] {-1, LEAST, 5, 6, GREATEST}) {
            staysBy("18 RULE " + rule, Check.NO_SUCH, x -> x.rule(rule, 0));
        }
        for (int what : new int[] {-1, LEAST, 4, GREATEST}) {
            staysBy("18 what " + what, Check.NO_SUCH, x -> x.rule(0, what));
            staysBy("18 what of one SIGN " + what, Check.NO_SUCH, x -> x.rule(4, what));
        }
        PhraseLearner x = busy();
        due("18 the first RULE", "0 1 2 1", () -> x.rule(0, 0) + " " + x.rule(0, 1) + " " + x.rule(0, 2) + " " + x.rule(0, 3));
        due("18 one of one SIGN", "1 0 -1 1", () -> x.rule(1, 0) + " " + x.rule(1, 1) + " " + x.rule(1, 2) + " " + x.rule(1, 3));
        due("18 the last RULE", "2 0 2 1", () -> x.rule(4, 0) + " " + x.rule(4, 1) + " " + x.rule(4, 2) + " " + x.rule(4, 3));
        for (int i : new int[] {-1, LEAST, 20, 21, GREATEST}) {
            staysBy("19 WORD " + i, Check.NO_SUCH, y -> y.asked(i, NONE));
            staysBy("19 whether TOLD " + i, Check.NO_SUCH, y -> y.asked(i, -2));
        }
        for (int k : new int[] {-3, LEAST, 5, 31, GREATEST}) {
            staysBy("19 k " + k, Check.NO_SUCH, y -> y.asked(19, k));
        }
        due("19 the last WORD", "5 0 1 0", () -> x.asked(19, NONE) + " " + x.asked(19, 0) + " " + x.asked(19, 4) + " "
            + x.asked(19, -2));
        due("19 the first WORD", "1 0 0", () -> x.asked(0, NONE) + " " + x.asked(0, 0) + " " + x.asked(0, -2));
        due("19 one that is TOLD", 1, () -> x.asked(3, -2));
        PhraseLearner full = crowded();
        int last = full.count(5) - 1;
        due("19 the last of a full TABLE", 17, () -> full.asked(last, NONE));
        due("19 one behind", Check.NO_SUCH, () -> full.asked(last + 1, NONE));
    }

    /** 20, 21: "a length (1 to 6)", "NoSuchElementException (behind that)". */
    private static void manyAndTold() {
        for (int length : new int[] {0, -1, LEAST, 7, GREATEST}) {
            staysBy("20 length " + length, Check.ILLEGAL, x -> x.many(length, 0));
            staysBy("20 length ahead of what " + length, Check.ILLEGAL, x -> x.many(length, 3));
            staysBy("21 length " + length, Check.ILLEGAL, x -> x.told(length, true, 0, 0));
            staysBy("21 length ahead of WORD, SIGN " + length, Check.ILLEGAL, x -> x.told(length, false, -1, 9));
        }
        for (int what : new int[] {-1, LEAST, 3, GREATEST}) {
            staysBy("20 what " + what, Check.NO_SUCH, x -> x.many(6, what));
        }
        for (int i : new int[] {-1, LEAST, 2, 3, GREATEST}) {
            staysBy("21 WORD of THE LEARNER " + i, Check.NO_SUCH, x -> x.told(6, false, i, 0));
        }
        staysBy("21 WORD of the GRAMMAR, 1", Check.NO_SUCH, x -> x.told(6, true, 1, 0));
        for (int k : new int[] {-1, -2, LEAST, 6, 32, GREATEST}) {
            staysBy("21 k " + k, Check.NO_SUCH, x -> x.told(6, false, 1, k));
            staysBy("21 k of the GRAMMAR's " + k, Check.NO_SUCH, x -> x.told(6, true, 0, k));
        }
        staysBy("21 none of length 1", Check.NO_SUCH, x -> x.told(1, true, 0, 0));
        PhraseLearner x = busy();
        due("20 length 6", "1 2 1", () -> x.many(6, 0) + " " + x.many(6, 1) + " " + x.many(6, 2));
        due("20 length 1", "0 0 0", () -> x.many(1, 0) + " " + x.many(1, 1) + " " + x.many(1, 2));
        due("21 the first SIGN", 0, () -> x.told(6, false, 1, 0));
        due("21 the last SIGN", 1, () -> x.told(6, false, 1, 5));
        PhraseLearner all = Check.taught("S>a|b|c|d|SS;");
        due("20 length 1 of four", "4 4 4", () -> all.many(1, 0) + " " + all.many(1, 1) + " " + all.many(1, 2));
        due("20 all of length 6", "4096 4096", () -> all.many(6, 0) + " " + all.many(6, 1));
        due("21 the first of all", 0, () -> all.told(6, true, 0, 0) + all.told(6, true, 0, 5));
        due("21 the last of all", 6, () -> all.told(6, false, 4095, 0) + all.told(6, false, 4095, 5));
        due("21 asked at once, of THE LEARNER", 1, () -> busy().told(6, false, 1, 5));
        due("21 asked at once, of the GRAMMAR", 3, () -> Check.taught("S>d|SS;").told(6, true, 0, 5));
        due("21 as in a dictionary", "0 1", () -> all.told(6, true, 1, 4) + " " + all.told(6, true, 1, 5));
        due("21 behind the last of all", Check.NO_SUCH, () -> all.told(6, true, 4096, 0));
    }

    /** 22, 23: "0: it has no RULES"; "as it was then, whatever came since"; "there is none such, nothing was SAID". */
    private static void sayAndSaid() {
        PhraseLearner x = afterLessons(1);
        for (int i : new int[] {0, 1, -1, LEAST, GREATEST}) {
            due("23 nothing was SAID " + i, NONE, () -> x.said(i));
        }
        String text = "A>BC;B>a|BA;C>b|AC;";
        due("22 bytes", 19, () -> x.say());
        due("23 the first", (int) 'A', () -> x.said(0));
        due("23 the last", (int) ';', () -> x.said(18));
        for (int i : new int[] {-1, LEAST, 19, 20, GREATEST}) {
            due("23 there is none such " + i, NONE, () -> x.said(i));
        }
        Check.CallOn[] calls = {y -> y.lesson(6), y -> Check.part(y, "bb"), y -> Check.context(y, "b", ""),
            y -> y.learn(6, 20), y -> y.anew(), y -> Check.teach(y, "S>"), y -> Check.teach(y, "S>d;"),
            y -> Check.tree(y, "d"), y -> Check.trees(y, "d"), y -> Check.word(y, "d")};
        for (int i = 0; i < calls.length; i++) {
            calls[i].by(x);
            due("23 as it was then " + i, text, () -> Check.saidOf(x));
        }
        due("22 a shorter one", 4, () -> x.say());
        due("23 the latest", "A>d;", () -> Check.saidOf(x));
        due("23 nothing of the longer one", NONE, () -> x.said(4));
        Check.teach(x, "S>S;");
        due("22 no RULES", 0, () -> x.say());
        due("23 none of none", NONE, () -> x.said(0));
        due("22 RULES, but none in THE REST", 0, () -> afterLessons(3).say());
        PhraseLearner y = busy();
        String before = Check.stateOf(y);
        y.say();
        due("22 nothing else changes", before, () -> Check.stateOf(y));
    }

    /** 25: "0: THE LEARNER doesn't HAVE it", "NONE: it is no WORD". */
    private static void trees() {
        emptiesTape("25 a WORD", 1, "ab", x -> x.trees(2));
        emptiesTape("25 one that it doesn't HAVE", 0, "ba", x -> x.trees(2));
        emptiesTape("25 of other SIGNS", 0, "cd", x -> x.trees(2));
        emptiesTape("25 none", NONE, "ab", x -> x.trees(0));
        emptiesTape("25 another byte", NONE, "ab", x -> x.trees(3));
        emptiesTape("25 21", NONE, TWENTY + "b", x -> x.trees(21));
        emptiesTape("25 one SIGN", 0, "a", x -> x.trees(1));
        // two ways for each b but one: A > BC with the first a, or with the last b alone
        emptiesTape("25 20", 512, TWENTY, x -> x.trees(20));
    }

    /** 26: "NONE: it is no WORD, or THE LEARNER doesn't HAVE it (what treed() tells stays)". */
    private static void tree() {
        emptiesTape("26 one that it doesn't HAVE", NONE, "ba", x -> x.tree(2));
        emptiesTape("26 of other SIGNS", NONE, "cd", x -> x.tree(2));
        emptiesTape("26 none", NONE, "ab", x -> x.tree(0));
        emptiesTape("26 another byte", NONE, "ab", x -> x.tree(3));
        emptiesTape("26 21", NONE, TWENTY + "b", x -> x.tree(21));
        emptiesTape("26 longer, not had", NONE, "aaabbbb", x -> x.tree(7));
        PhraseLearner x = busy(TWENTY);
        due("26 20 SIGNS", 39, () -> x.tree(20));
        due("26 the tape is empty then", 0, () -> x.count(16));
        due("27 the last of 39", "1", () -> "" + x.treed(38, 2));
        due("27 none behind", Check.NO_SUCH, () -> x.treed(39, 0));
        due("26 a shorter one", 3, () -> Check.tree(x, "ab"));
        due("27 nothing of the longer one", Check.NO_SUCH, () -> x.treed(3, 0));
        PhraseLearner one = Check.taught("S>a;");
        due("26 one SIGN", 1, () -> Check.tree(one, "a"));
    }

    /** 27: "(As it was then; gone with teach(), anew().)", "there is none, another what". */
    private static void treed() {
        for (int i : new int[] {-1, LEAST, 3, 4, 39, GREATEST}) {
            staysBy("27 i " + i, Check.NO_SUCH, x -> x.treed(i, 0));
        }
        for (int what : new int[] {-1, LEAST, 3, GREATEST}) {
            staysBy("27 what " + what, Check.NO_SUCH, x -> x.treed(0, what));
        }
        PhraseLearner x = afterLessons(1);
        due("27 there is none", Check.NO_SUCH, () -> x.treed(0, 0));
        due("27 none with another what", Check.NO_SUCH, () -> x.treed(0, 3));
        Check.tree(x, "aabb");
        String tree = "A04 B01 C13 A12 B11 C21 C31";
        Check.CallOn[] calls = {y -> Check.word(y, "aaabbb"), y -> Check.trees(y, "aaabbb"), y -> Check.tree(y, "ba"),
            y -> x.next(6, NONE), y -> y.lesson(6), y -> Check.part(y, "bb"), y -> Check.context(y, "b", ""),
            y -> y.learn(6, 20), y -> y.say(), y -> Check.teach(y, "S>")};
        for (int i = 0; i < calls.length; i++) {
            calls[i].by(x);
            due("27 as it was then " + i, tree, () -> Check.treeOf(x));
        }
        x.anew();
        due("27 gone with anew()", Check.NO_SUCH, () -> x.treed(0, 0));
        x.lesson(6);
        Check.tree(x, "ab");
        due("27 there again", "A02 B01 C11", () -> Check.treeOf(x));
        Check.teach(x, PAIRS);
        due("27 gone with teach()", Check.NO_SUCH, () -> x.treed(0, 0));
    }

    public static void main(String[] args) {
        newObject();
        feed();
        teach();
        teachAgain();
        fault();
        anew();
        tapeHasNotSoMany();
        word();
        part();
        context();
        lesson();
        learn();
        next();
        latest();
        count();
        signsOfPartsAndContexts();
        kindTakesWithin();
        ruleAndAsked();
        manyAndTold();
        sayAndSaid();
        trees();
        tree();
        treed();
        Check.end("edges of the promises");
    }
}
