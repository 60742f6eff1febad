import java.util.NoSuchElementException;

/** What the tests share: texts for the tape, and answers that are due. */
final class Check {
    static final String NO_SUCH = "throws.NoSuchElementException";
    static final String ILLEGAL = "throws.IllegalArgumentException";

    private static int wrong = 0;
    private static int checks = 0;

    private Check() {
    }

    interface Call {
        Object by();
    }

    interface Maker {
        PhraseLearner make();
    }

    interface CallOn {
        Object by(PhraseLearner x);
    }

    static void due(String name, Object want, Call call) {
        Object got;
        try {
            got = call.by();
        } catch (IllegalArgumentException e) {
            got = ILLEGAL;
        } catch (NoSuchElementException e) {
            got = NO_SUCH;
        }
        checks++;
        if (!want.equals(got)) {
            wrong++;
            System.out.println(name + " answered " + got + ", due is " + want);
        }
    }

    /** The call answers so, and what can be seen then, and what comes of later calls, is as without it. */
    static void leavesAll(String name, Object want, Maker maker, CallOn call) {
        leavesAs(name, want, maker, call, x -> 0);
    }

    /** As leavesAll(), but that the tape is empty then. */
    static void leavesAllButTape(String name, Object want, Maker maker, CallOn call) {
        leavesAs(name, want, maker, call, x -> x.word(0));
    }

    private static void leavesAs(String name, Object want, Maker maker, CallOn call, CallOn instead) {
        PhraseLearner with = maker.make();
        PhraseLearner without = maker.make();
        due(name, want, () -> call.by(with));
        instead.by(without);
        due(name + " leaves", stateOf(without), () -> stateOf(with));
        due(name + " leaves for later", laterOf(without), () -> laterOf(with));
    }

    /** All that calls tell which change nothing; small objects stay below 512 calls so. */
    static String stateOf(PhraseLearner x) {
        StringBuilder all = new StringBuilder("fault ").append(x.fault()).append(" counts");
        for (int what = 0; what <= 16; what++) {
            all.append(' ').append(x.count(what));
        }
        all.append(" parts ").append(partsOf(x)).append(" contexts ").append(contextsOf(x)).append(" kinds");
        int contexts = x.count(4);
        int parts = x.count(3);
        for (int i = 0; i < contexts * 7; i++) {
            all.append(' ').append(x.kind(i / 7, i % 7));
        }
        all.append(" takes ");
        for (int i = 0; i < contexts * parts * parts; i++) {
            all.append(x.takes(i / parts / parts, i / parts % parts, i % parts) ? 1 : 0);
        }
        int asked = x.count(5);
        for (int i = 0; i < asked; i++) {
            all.append(' ').append(x.asked(i, PhraseLearner.NONE)).append(x.asked(i, 0)).append(x.asked(i, -2));
        }
        all.append(" rules ").append(rulesOf(x)).append(" latest ").append(latestOf(x)).append(" said ");
        all.append(saidOf(x)).append(" tree ").append(treeOf(x)).append(" many");
        for (int i = 0; i < 18; i++) {
            all.append(' ').append(x.many(i / 3 + 1, i % 3));
        }
        return all.append(" next ").append(x.next(6, PhraseLearner.NONE)).toString();
    }

    private static String laterOf(PhraseLearner x) {
        StringBuilder all = new StringBuilder();
        if (x.count(16) >= 2) {
            all.append(x.word(2));
        }
        all.append(' ').append(x.learn(6, 2)).append(' ').append(latestOf(x)).append(' ').append(partsOf(x));
        all.append(' ').append(contextsOf(x)).append(' ').append(x.count(5)).append(' ').append(x.say());
        return all.append(' ').append(x.anew()).append(' ').append(x.count(5)).toString();
    }

    /** The text and blanks up to whole twenties. */
    static void feed(PhraseLearner x, String text) {
        StringBuilder padded = new StringBuilder(text);
        while (padded.length() % 20 != 0) {
            padded.append(' ');
        }
        for (int i = 0; i < padded.length(); i += 20) {
            int[] n = new int[5];
            for (int j = 0; j < 20; j++) {
                n[j / 4] = n[j / 4] << 8 | padded.charAt(i + j) & 255;
            }
            x.feed(n[0], n[1], n[2], n[3], n[4]);
        }
    }

    static int teach(PhraseLearner x, String text) {
        feed(x, text);
        return x.teach(text.length());
    }

    static PhraseLearner taught(String text) {
        PhraseLearner x = new PhraseLearner();
        due("teach of " + text, 0, () -> teach(x, text));
        return x;
    }

    static int word(PhraseLearner x, String word) {
        feed(x, word);
        return x.word(word.length());
    }

    static int part(PhraseLearner x, String row) {
        feed(x, row);
        return x.part(row.length());
    }

    static int context(PhraseLearner x, String left, String right) {
        feed(x, left + right);
        return x.context(left.length() + right.length(), left.length());
    }

    static int trees(PhraseLearner x, String word) {
        feed(x, word);
        return x.trees(word.length());
    }

    static int tree(PhraseLearner x, String word) {
        feed(x, word);
        return x.tree(word.length());
    }

    static String partOf(PhraseLearner x, int part) {
        StringBuilder row = new StringBuilder();
        for (int k = 0; k < x.ofPart(part, PhraseLearner.NONE); k++) {
            row.append((char) ('a' + x.ofPart(part, k)));
        }
        return row.toString();
    }

    static String partsOf(PhraseLearner x) {
        StringBuilder all = new StringBuilder();
        for (int i = 0; i < x.count(3); i++) {
            all.append(i == 0 ? "" : " ").append(partOf(x, i));
        }
        return all.toString();
    }

    static String contextsOf(PhraseLearner x) {
        StringBuilder all = new StringBuilder();
        for (int i = 0; i < x.count(4); i++) {
            all.append(i == 0 ? "" : " ");
            for (int k = 0; k < x.ofContext(i, false, PhraseLearner.NONE); k++) {
                all.append((char) ('a' + x.ofContext(i, false, k)));
            }
            all.append('.');
            for (int k = 0; k < x.ofContext(i, true, PhraseLearner.NONE); k++) {
                all.append((char) ('a' + x.ofContext(i, true, k)));
            }
        }
        return all.toString();
    }

    /** With + behind a WORD that is TOLD. */
    static String askedOf(PhraseLearner x) {
        return askedFrom(x, 0, x.count(5)).trim();
    }

    /** Of objects that are made alike, as one is promised no more than 512 calls. */
    static String askedOf(Maker maker) {
        StringBuilder all = new StringBuilder();
        int asked = maker.make().count(5);
        for (int i = 0; i < asked; i += 25) {
            all.append(askedFrom(maker.make(), i, Math.min(asked, i + 25)));
        }
        return all.toString().trim();
    }

    private static String askedFrom(PhraseLearner x, int from, int to) {
        StringBuilder all = new StringBuilder();
        for (int i = from; i < to; i++) {
            all.append(' ');
            int signs = x.asked(i, PhraseLearner.NONE);
            for (int k = 0; k < signs; k++) {
                all.append((char) ('a' + x.asked(i, k)));
            }
            all.append(x.asked(i, -2) == 1 ? "+" : "");
        }
        return all.toString();
    }

    /** With ! behind a RULE that isn't in THE REST. */
    static String rulesOf(PhraseLearner x) {
        StringBuilder all = new StringBuilder();
        int rules = x.count(7) + x.count(8);
        for (int i = 0; i < rules; i++) {
            all.append(i == 0 ? "" : " ").append((char) ('A' + x.rule(i, 0))).append('>');
            if (x.rule(i, 2) == PhraseLearner.NONE) {
                all.append((char) ('a' + x.rule(i, 1)));
            } else {
                all.append((char) ('A' + x.rule(i, 1))).append((char) ('A' + x.rule(i, 2)));
            }
            all.append(x.rule(i, 3) == 1 ? "" : "!");
        }
        return all.toString();
    }

    static String saidOf(PhraseLearner x) {
        StringBuilder all = new StringBuilder();
        for (int i = 0; i < 6000; i++) {
            int value = x.said(i);
            if (value == PhraseLearner.NONE) {
                break;
            }
            all.append((char) value);
        }
        return all.toString();
    }

    static String wordsOf(PhraseLearner x, int length, boolean teacher) {
        StringBuilder all = new StringBuilder();
        for (int i = 0; i < x.many(length, teacher ? 0 : 1); i++) {
            all.append(i == 0 ? "" : " ");
            for (int k = 0; k < length; k++) {
                all.append((char) ('a' + x.told(length, teacher, i, k)));
            }
        }
        return all.toString();
    }

    /** CONTEXT, where it begins and how many SIGNS it has, of each. */
    static String treeOf(PhraseLearner x, int nodes) {
        StringBuilder all = new StringBuilder();
        for (int i = 0; i < nodes; i++) {
            all.append(i == 0 ? "" : " ").append((char) ('A' + x.treed(i, 0))).append(x.treed(i, 1)).append(x.treed(i, 2));
        }
        return all.toString();
    }

    /** The whole TREE that tree() told latest. */
    static String treeOf(PhraseLearner x) {
        for (int nodes = 0; nodes < 40; nodes++) {
            try {
                x.treed(nodes, 0);
            } catch (NoSuchElementException e) {
                return treeOf(x, nodes);
            }
        }
        return "more than 39";
    }

    static String latestOf(PhraseLearner x) {
        StringBuilder all = new StringBuilder();
        for (int what = 0; what <= 6; what++) {
            all.append(what == 0 ? "" : " ").append(x.latest(what));
        }
        for (int k = 0; k < x.latest(6); k++) {
            all.append(k == 0 ? " " : "").append((char) ('a' + x.latest(10 + k)));
        }
        return all.toString();
    }

    static void end(String name) {
        System.out.println(name + ": " + checks + " answers, " + wrong + " not as due");
        if (wrong != 0) {
            System.exit(1);
        }
    }
}
