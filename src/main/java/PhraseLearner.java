import java.util.Arrays;
import java.util.NoSuchElementException;

/**
 * A learner of phrase grammars, as ../shared/DOC.md tells it; words in capitals are the document's.
 *
 * A row of SIGNS is one long: a leading 1, then two bits for each SIGN. Rows of one length are so in
 * the order of a dictionary, and two rows are the same if the longs are.
 */
public final class PhraseLearner {
    public static final int NONE = -1;

    private static final int MOST_BYTES = 400;
    private static final int BYTES_OF_A_FEED = 20;
    private static final int SIGN_KINDS = 4;
    private static final int ALL_SIGNS = 15;
    private static final int WORD_SIGNS = 20;
    private static final int PART_SIGNS = 6;
    private static final int CONTEXT_SIGNS = 5;
    private static final int LESSON_SIGNS = 6;
    private static final int MOST_PARTS = 16;
    private static final int MOST_CONTEXTS = 12;
    private static final int MOST_LESSONS = 20;
    private static final long MOST_TREES = 1000000000L;

    private static final long EMPTY = 1L;
    private static final long NO_ROW = 0L;
    private static final int LACKED = 1;
    private static final int WRONG = 2;
    private static final int WHETHER_TOLD = -2;
    private static final int SIGNS_OF_LATEST = 10;

    private Grammar grammar = new Grammar();
    /** A text is read into it, so that a FAULT leaves the GRAMMAR that there is alone. */
    private Grammar draft = new Grammar();
    private int faultPlace = NONE;
    private final Tape tape = new Tape();
    private final TeacherChart teacher = new TeacherChart(grammar);
    private final Asked askedWords = new Asked();
    private final Table table = new Table();
    private final Rules rules = new Rules();
    private final Kinds kinds = new Kinds();
    private final LearnerChart learner = new LearnerChart(rules);
    private final ShortWords shortWords = new ShortWords(rules, grammar);
    private final Lessons lessons = new Lessons(teacher, table, learner, shortWords);
    private final Speech speech = new Speech();

    public PhraseLearner() {
        startLearner();
    }

    public int feed(int a, int b, int c, int d, int e) {
        if (tape.size() > MOST_BYTES - BYTES_OF_A_FEED) {
            return NONE;
        }
        tape.put(a);
        tape.put(b);
        tape.put(c);
        tape.put(d);
        tape.put(e);
        return tape.size();
    }

    public int teach(int n) throws IllegalArgumentException {
        demandBytes(n);
        int faultNumber = draft.read(tape, n);
        faultPlace = draft.place();
        tape.clear();
        if (faultNumber != 0) {
            return faultNumber;
        }
        Grammar former = grammar;
        grammar = draft;
        draft = former;
        teacher.begin(grammar);
        shortWords.begin(grammar);
        startLearner();
        return 0;
    }

    public int fault() {
        return faultPlace;
    }

    public int anew() {
        int before = askedWords.size();
        startLearner();
        return before;
    }

    public int word(int n) throws IllegalArgumentException {
        long row = takeRow(n, ALL_SIGNS, WORD_SIGNS);
        if (row <= EMPTY) {
            return NONE;
        }
        return (teacher.tells(row) ? 1 : 0) | (learner.has(row) ? 2 : 0);
    }

    public int part(int n) throws IllegalArgumentException {
        long row = takeRow(n, grammar.signs(), PART_SIGNS);
        if (row <= EMPTY || !table.addPart(row)) {
            return NONE;
        }
        askTable();
        return table.parts() - 1;
    }

    public int context(int n, int left) throws IllegalArgumentException {
        long row = takeRow(n, grammar.signs(), CONTEXT_SIGNS);
        if (row == NO_ROW || left < 0 || left > n) {
            return NONE;
        }
        if (!table.addContext(cut(row, 0, left), cut(row, left, n))) {
            return NONE;
        }
        askTable();
        return table.contexts() - 1;
    }

    public int lesson(int length) throws IllegalArgumentException {
        demandLength(length);
        return holdLesson(length);
    }

    public int learn(int length, int most) throws IllegalArgumentException {
        demandLength(length);
        if (most < 1 || most > MOST_LESSONS) {
            throw new IllegalArgumentException("not 1 to 20 LESSONS");
        }
        int held = 0;
        for (int i = 0; i < most; i++) {
            int what = holdLesson(length);
            if (what != LACKED && what != WRONG) {
                break;
            }
            held++;
        }
        return held;
    }

    public int next(int length, int k) throws IllegalArgumentException, NoSuchElementException {
        demandLength(length);
        lessons.find(length);
        return signOrSize(lessons.foundRow(), k);
    }

    public int latest(int what) throws NoSuchElementException {
        if (what >= SIGNS_OF_LATEST) {
            return signOf(lessons.row(), what - SIGNS_OF_LATEST);
        }
        switch (what) {
            case 0: return lessons.what();
            case 1: return lessons.partsCame();
            case 2: return lessons.contextsCame();
            case 3: return lessons.refuted(0);
            case 4: return lessons.refuted(1);
            case 5: return lessons.refuted(2);
            case 6: return lessons.what() == NONE ? NONE : lengthOf(lessons.row());
            default: throw new NoSuchElementException("no such what");
        }
    }

    public int count(int what) throws NoSuchElementException {
        switch (what) {
            case 0: return grammar.names();
            case 1: return grammar.bodies();
            case 2: return grammar.signCount();
            case 3: return table.parts();
            case 4: return table.contexts();
            case 5: return askedWords.size();
            case 6: return askedWords.howManyTold();
            case 7: return rules.ofOneSign();
            case 8: return rules.ofTwo();
            case 9: return Integer.bitCount(kinds.made());
            case 10: return Integer.bitCount(kinds.reached());
            case 11: return Integer.bitCount(kinds.made() & kinds.reached());
            case 12: return Integer.bitCount(kinds.own());
            case 13: return rules.howManyAmong(kinds.lasting());
            case 14: return lessons.lacked();
            case 15: return lessons.wrong();
            case 16: return tape.size();
            default: throw new NoSuchElementException("no such what");
        }
    }

    public int ofPart(int part, int k) throws NoSuchElementException {
        demandPart(part);
        return signOrSize(table.partRow(part), k);
    }

    public int ofContext(int context, boolean right, int k) throws NoSuchElementException {
        demandContext(context);
        return signOrSize(right ? table.right(context) : table.left(context), k);
    }

    public int kind(int context, int what) throws NoSuchElementException {
        demandContext(context);
        switch (what) {
            case 0: return table.column(context);
            case 1: return table.howManyPairs(context);
            case 2: return rules.howManyOf(context);
            case 3: return kinds.made() >> context & 1;
            case 4: return kinds.reached() >> context & 1;
            case 5: return kinds.like(context);
            case 6: return kinds.shortest(context);
            default: throw new NoSuchElementException("no such what");
        }
    }

    public boolean takes(int context, int part, int other) throws NoSuchElementException {
        demandContext(context);
        demandPart(part);
        demandPart(other);
        return (table.pairs(context, part) >> other & 1) != 0;
    }

    public int rule(int rule, int what) throws NoSuchElementException {
        if (rule < 0 || rule >= rules.ofOneSign() + rules.ofTwo()) {
            throw new NoSuchElementException("no such RULE");
        }
        int x = rules.ownerOf(rule);
        int right = rules.rightOf(x, rule);
        int y = right >> 4;
        int z = (right & 15) == Rules.NO_SECOND ? NONE : right & 15;
        switch (what) {
            case 0: return x;
            case 1: return y;
            case 2: return z;
            case 3: return kinds.lasts(x) && (z == NONE || kinds.lasts(y) && kinds.lasts(z)) ? 1 : 0;
            default: throw new NoSuchElementException("no such what");
        }
    }

    public int asked(int i, int k) throws NoSuchElementException {
        if (i < 0 || i >= askedWords.size()) {
            throw new NoSuchElementException("no such WORD");
        }
        if (k == WHETHER_TOLD) {
            return askedWords.isTold(i) ? 1 : 0;
        }
        return signOrSize(askedWords.row(i), k);
    }

    public int many(int length, int what) throws IllegalArgumentException, NoSuchElementException {
        demandLength(length);
        if (what < 0 || what > 2) {
            throw new NoSuchElementException("no such what");
        }
        shortWords.reach(length);
        int found = 0;
        for (int i = 0; i < shortWords.howMany(length); i++) {
            boolean byTeacher = what == 1 || shortWords.isTold(length, i);
            boolean byLearner = what == 0 || shortWords.isHad(length, i);
            found += byTeacher && byLearner ? 1 : 0;
        }
        return found;
    }

    public int told(int length, boolean teacher, int i, int k) throws IllegalArgumentException, NoSuchElementException {
        demandLength(length);
        shortWords.reach(length);
        int before = 0;
        for (int number = 0; number < shortWords.howMany(length); number++) {
            boolean here = teacher ? shortWords.isTold(length, number) : shortWords.isHad(length, number);
            if (here && before == i) {
                return signOf(shortWords.row(length, number), k);
            }
            before += here ? 1 : 0;
        }
        throw new NoSuchElementException("no such WORD");
    }

    public int say() {
        speech.write(rules, kinds.lasting());
        return speech.size();
    }

    public int said(int i) {
        return speech.at(i);
    }

    public boolean within(int context, int other) throws NoSuchElementException {
        demandContext(context);
        demandContext(other);
        return table.isWithin(context, other);
    }

    public int trees(int n) throws IllegalArgumentException {
        long row = takeRow(n, ALL_SIGNS, WORD_SIGNS);
        return row <= EMPTY ? NONE : learner.countTrees(row);
    }

    public int tree(int n) throws IllegalArgumentException {
        long row = takeRow(n, ALL_SIGNS, WORD_SIGNS);
        return row <= EMPTY || !learner.has(row) ? NONE : learner.growTree(lengthOf(row));
    }

    public int treed(int i, int what) throws NoSuchElementException {
        if (i < 0 || i >= learner.nodes()) {
            throw new NoSuchElementException("there is none");
        }
        switch (what) {
            case 0: return learner.nodeContext(i);
            case 1: return learner.nodeStart(i);
            case 2: return learner.nodeSigns(i);
            default: throw new NoSuchElementException("no such what");
        }
    }

    private void startLearner() {
        table.begin();
        for (int i = 0; i < grammar.signCount(); i++) {
            table.addPart(EMPTY << 2 | grammar.sign(i));
        }
        askedWords.clear();
        lessons.begin();
        learner.dropTree();
        askTable();
    }

    private void askTable() {
        table.ask(teacher, askedWords);
        rules.draw(table, grammar);
        kinds.settle(table, rules);
        shortWords.forgetLearner();
    }

    private int holdLesson(int length) {
        int what = lessons.find(length);
        if (what == LACKED || what == WRONG) {
            lessons.bring();
            askTable();
        }
        return what;
    }

    /** NO_ROW, if the bytes are no row of these SIGNS, or there are more than most. */
    private long takeRow(int n, int signs, int most) {
        demandBytes(n);
        long row = tape.row(n, signs, most);
        tape.clear();
        return row;
    }

    private void demandBytes(int n) {
        if (!tape.holds(n)) {
            throw new IllegalArgumentException("the tape has not so many");
        }
    }

    private void demandPart(int part) {
        if (part < 0 || part >= table.parts()) {
            throw new NoSuchElementException("no such PART");
        }
    }

    private void demandContext(int context) {
        if (context < 0 || context >= table.contexts()) {
            throw new NoSuchElementException("no such CONTEXT");
        }
    }

    private static void demandLength(int length) {
        if (length < 1 || length > LESSON_SIGNS) {
            throw new IllegalArgumentException("not 1 to 6");
        }
    }

    private static int signOrSize(long row, int k) {
        return k == NONE ? lengthOf(row) : signOf(row, k);
    }

    private static int signOf(long row, int k) {
        if (k < 0 || k >= lengthOf(row)) {
            throw new NoSuchElementException("no such SIGN");
        }
        return signAt(row, k);
    }

    private static int lengthOf(long row) {
        return 63 - Long.numberOfLeadingZeros(row) >> 1;
    }

    private static int signAt(long row, int k) {
        return (int) (row >> 2 * (lengthOf(row) - 1 - k)) & 3;
    }

    private static long joined(long first, long second) {
        int bits = 2 * lengthOf(second);
        return first << bits | second ^ 1L << bits;
    }

    private static long cut(long row, int from, int to) {
        int bits = 2 * (to - from);
        long upToEnd = row >> 2 * (lengthOf(row) - to);
        return upToEnd & (1L << bits) - 1 | 1L << bits;
    }

    private static final class Tape {
        private final int[] bytes = new int[MOST_BYTES];
        private int size = 0;

        int size() {
            return size;
        }

        void clear() {
            size = 0;
        }

        boolean holds(int n) {
            return n >= 0 && n <= size;
        }

        int at(int i) {
            return i >= 0 && i < size ? bytes[i] : NONE;
        }

        void put(int fourBytes) {
            for (int shift = 24; shift >= 0; shift -= 8) {
                if (size < MOST_BYTES) {
                    bytes[size] = fourBytes >> shift & 255;
                    size++;
                }
            }
        }

        long row(int n, int signs, int most) {
            if (n > most) {
                return NO_ROW;
            }
            long row = EMPTY;
            for (int i = 0; i < n; i++) {
                int sign = at(i) - 'a';
                if (sign < 0 || sign >= SIGN_KINDS || (signs >> sign & 1) == 0) {
                    return NO_ROW;
                }
                row = row << 2 | sign;
            }
            return row;
        }
    }

    /**
     * NAMES, BODIES, and what follows from them for the teacher's charts.
     *
     * An ITEM is a BODY's beginning of 1 to 4 of its symbols: bit 4 * BODY + (how many - 1) of a long.
     * BODIES of one symbol have no ITEMS: upNames and upSigns go up through them at once.
     */
    private static final class Grammar {
        private static final int MOST_NAMES = 6;
        private static final int NAME_SETS = 64;
        private static final int MOST_BODIES = 16;
        private static final int BODY_SYMBOLS = 4;
        private static final int LETTERS = 26;
        /** A symbol is a NAME's number or, from here on, a SIGN. */
        private static final int FIRST_SIGN = MOST_NAMES;
        private static final int TOO_MANY = -2;

        private static final int AT_LINE = 0;
        private static final int AT_ARROW = 1;
        private static final int AT_BODY = 2;
        private static final int IN_BODY = 3;

        private final int[] nameOfLetter = new int[LETTERS];
        private final int[] owners = new int[MOST_BODIES];
        private final int[] sizes = new int[MOST_BODIES];
        private final int[] symbols = new int[MOST_BODIES * BODY_SYMBOLS];
        private final int[] signList = new int[SIGN_KINDS];
        private int names = 0;
        private int bodies = 0;
        private int signs = 0;
        private int signCount = 0;
        private int place = NONE;

        private long wholeItems = 0;
        private final int[] upNames = new int[NAME_SETS];
        private final int[] upSigns = new int[SIGN_KINDS];
        private final long[] startByNames = new long[NAME_SETS];
        private final long[] startBySign = new long[SIGN_KINDS];
        private final long[] waitForNames = new long[NAME_SETS];
        private final long[] waitForSign = new long[SIGN_KINDS];

        int names() {
            return names;
        }

        int bodies() {
            return bodies;
        }

        int signs() {
            return signs;
        }

        int signCount() {
            return signCount;
        }

        int sign(int i) {
            return signList[i];
        }

        int place() {
            return place;
        }

        /** The FAULT's number, or 0. */
        int read(Tape tape, int n) {
            begin();
            int state = AT_LINE;
            int owner = NONE;
            for (int i = 0; i < n; i++) {
                int token = tape.at(i);
                if (token == ' ' || token == '\n') {
                    continue;
                }
                place = i;
                int after = stateAfter(state, token);
                if (after == NONE) {
                    return 1;
                }
                int symbol = symbolOf(token);
                if (symbol == TOO_MANY) {
                    return 2;
                }
                if (after == AT_ARROW) {
                    owner = symbol;
                }
                if (after == IN_BODY && !append(state == AT_BODY, owner, symbol)) {
                    return 3;
                }
                state = after;
            }
            place = n;
            if (state != AT_LINE || bodies == 0) {
                return 1;
            }
            place = NONE;
            prepare();
            return 0;
        }

        private void begin() {
            Arrays.fill(nameOfLetter, NONE);
            names = 0;
            bodies = 0;
            signs = 0;
        }

        private static boolean isGreat(int token) {
            return token >= 'A' && token <= 'Z';
        }

        private static boolean isSign(int token) {
            return token >= 'a' && token < 'a' + SIGN_KINDS;
        }

        /** NONE, if the TOKEN can't stand there. */
        private static int stateAfter(int state, int token) {
            boolean bodyGoesOn = state == AT_BODY || state == IN_BODY;
            if (isGreat(token) && state == AT_LINE) {
                return AT_ARROW;
            }
            if ((isGreat(token) || isSign(token)) && bodyGoesOn) {
                return IN_BODY;
            }
            if (token == '>' && state == AT_ARROW || token == '|' && state == IN_BODY) {
                return AT_BODY;
            }
            return token == ';' && state == IN_BODY ? AT_LINE : NONE;
        }

        private int symbolOf(int token) {
            if (isSign(token)) {
                signs |= 1 << token - 'a';
                return FIRST_SIGN + token - 'a';
            }
            if (!isGreat(token)) {
                return NONE;
            }
            int letter = token - 'A';
            if (nameOfLetter[letter] == NONE) {
                if (names == MOST_NAMES) {
                    return TOO_MANY;
                }
                nameOfLetter[letter] = names;
                names++;
            }
            return nameOfLetter[letter];
        }

        private boolean append(boolean first, int owner, int symbol) {
            if (first) {
                if (bodies == MOST_BODIES) {
                    return false;
                }
                owners[bodies] = owner;
                sizes[bodies] = 0;
                bodies++;
            }
            int body = bodies - 1;
            if (body < 0 || sizes[body] == BODY_SYMBOLS) {
                return false;
            }
            symbols[body * BODY_SYMBOLS + sizes[body]] = symbol;
            sizes[body]++;
            return true;
        }

        private void prepare() {
            signCount = 0;
            for (int sign = 0; sign < SIGN_KINDS; sign++) {
                if ((signs >> sign & 1) != 0) {
                    signList[signCount] = sign;
                    signCount++;
                }
                upSigns[sign] = goUp(ownersOfOne(FIRST_SIGN + sign));
                startBySign[sign] = startsWith(FIRST_SIGN + sign);
                waitForSign[sign] = waitsFor(FIRST_SIGN + sign);
            }
            wholeItems = 0;
            for (int body = 0; body < bodies; body++) {
                if (sizes[body] > 1) {
                    wholeItems |= 1L << body * BODY_SYMBOLS + sizes[body] - 1;
                }
            }
            prepareNameSets();
        }

        private void prepareNameSets() {
            for (int set = 1; set < NAME_SETS; set++) {
                int lowest = set & -set;
                int others = set ^ lowest;
                if (others == 0) {
                    int name = Integer.numberOfTrailingZeros(set);
                    upNames[set] = goUp(set);
                    startByNames[set] = startsWith(name);
                    waitForNames[set] = waitsFor(name);
                } else {
                    upNames[set] = upNames[lowest] | upNames[others];
                    startByNames[set] = startByNames[lowest] | startByNames[others];
                    waitForNames[set] = waitForNames[lowest] | waitForNames[others];
                }
            }
        }

        private int ownersOfOne(int symbol) {
            int found = 0;
            for (int body = 0; body < bodies; body++) {
                if (sizes[body] == 1 && symbols[body * BODY_SYMBOLS] == symbol) {
                    found |= 1 << owners[body];
                }
            }
            return found;
        }

        private int goUp(int set) {
            int reached = set;
            for (int round = 0; round < MOST_NAMES; round++) {
                for (int name = 0; name < names; name++) {
                    if ((reached >> name & 1) != 0) {
                        reached |= ownersOfOne(name);
                    }
                }
            }
            return reached;
        }

        private long startsWith(int symbol) {
            long found = 0;
            for (int body = 0; body < bodies; body++) {
                if (sizes[body] > 1 && symbols[body * BODY_SYMBOLS] == symbol) {
                    found |= 1L << body * BODY_SYMBOLS;
                }
            }
            return found;
        }

        private long waitsFor(int symbol) {
            long found = 0;
            for (int body = 0; body < bodies; body++) {
                for (int had = 1; had < sizes[body]; had++) {
                    if (symbols[body * BODY_SYMBOLS + had] == symbol) {
                        found |= 1L << body * BODY_SYMBOLS + had - 1;
                    }
                }
            }
            return found;
        }

        /** All NAMES of a row of which these ITEMS, of two symbols or more, are known. */
        int namesByItems(long items) {
            long whole = items & wholeItems;
            if (whole == 0) {
                return 0;
            }
            int found = 0;
            for (int body = 0; body < bodies; body++) {
                if ((whole >> body * BODY_SYMBOLS & 15) != 0) {
                    found |= 1 << owners[body];
                }
            }
            return upNames[found];
        }

        int namesBySign(int sign) {
            return upSigns[sign];
        }

        long itemsByNames(int set) {
            return startByNames[set];
        }

        long itemsBySign(int sign) {
            return startBySign[sign] | startByNames[upSigns[sign]];
        }

        long waitingForNames(int set) {
            return waitForNames[set];
        }

        long waitingForSign(int sign) {
            return waitForSign[sign] | waitForNames[upSigns[sign]];
        }
    }

    /** Whether the GRAMMAR TELLS a WORD. Columns of what it shares with the WORD before are kept. */
    private static final class TeacherChart {
        private final long[] items = new long[WORD_SIGNS * WORD_SIGNS];
        /** By where a row begins that ends at the column being filled. */
        private final long[] waiting = new long[WORD_SIGNS];
        private final int[] namesFromStart = new int[WORD_SIGNS + 1];
        private Grammar grammar;
        private long held = EMPTY;

        TeacherChart(Grammar grammar) {
            this.grammar = grammar;
        }

        void begin(Grammar newGrammar) {
            grammar = newGrammar;
            held = EMPTY;
        }

        boolean tells(long row) {
            int length = lengthOf(row);
            if (length < 1 || length > WORD_SIGNS) {
                return false;
            }
            int heldLength = lengthOf(held);
            int least = Math.min(length, heldLength);
            long difference = held >> 2 * (heldLength - least) ^ row >> 2 * (length - least);
            int shared = difference == 0 ? least : least - 1 - lengthOf(difference);
            for (int end = shared + 1; end <= length; end++) {
                fillColumn(end, (int) (row >> 2 * (length - end)) & 3);
            }
            held = row;
            return (namesFromStart[length] & 1) != 0;
        }

        private void fillColumn(int end, int sign) {
            int names = grammar.namesBySign(sign);
            items[(end - 1) * WORD_SIGNS + end - 1] = grammar.itemsBySign(sign);
            waiting[end - 1] = grammar.waitingForSign(sign);
            for (int start = end - 2; start >= 0; start--) {
                int line = start * WORD_SIGNS;
                long met = 0;
                for (int middle = start + 1; middle < end; middle++) {
                    met |= items[line + middle - 1] & waiting[middle];
                }
                met <<= 1;
                names = grammar.namesByItems(met);
                items[line + end - 1] = met | grammar.itemsByNames(names);
                waiting[start] = grammar.waitingForNames(names);
            }
            namesFromStart[end] = names;
        }
    }

    /** The WORDS that were ASKED, in their order, and a table of slots to find one. */
    private static final class Asked {
        private static final int MOST = MOST_CONTEXTS * (MOST_PARTS + MOST_PARTS * MOST_PARTS);
        private static final int SLOTS = 4096;

        /** A WORD's row and, as its last bit, whether it is TOLD. */
        private final long[] answers = new long[MOST];
        /** A WORD's number and one, or 0. */
        private final int[] slots = new int[SLOTS];
        private int size = 0;
        private int toldCount = 0;

        int size() {
            return size;
        }

        int howManyTold() {
            return toldCount;
        }

        long row(int i) {
            return answers[i] >> 1;
        }

        boolean isTold(int i) {
            return (answers[i] & 1) != 0;
        }

        void clear() {
            Arrays.fill(slots, 0);
            size = 0;
            toldCount = 0;
        }

        /** Asks only if it wasn't ASKED. */
        boolean ask(long row, TeacherChart teacher) {
            int slot = slotOf(row);
            if (slots[slot] != 0) {
                return isTold(slots[slot] - 1);
            }
            boolean isTold = teacher.tells(row);
            if (size < MOST) {
                answers[size] = row << 1 | (isTold ? 1 : 0);
                size++;
                slots[slot] = size;
                toldCount += isTold ? 1 : 0;
            }
            return isTold;
        }

        /** Where the WORD is, or else where it may come; there are more slots than WORDS. */
        private int slotOf(long row) {
            int slot = (int) (row * 0x9E3779B97F4A7C15L >>> 52);
            for (int i = 0; i < SLOTS; i++) {
                int number = slots[slot] - 1;
                if (number < 0 || row(number) == row) {
                    return slot;
                }
                slot = slot + 1 & SLOTS - 1;
            }
            return slot;
        }
    }

    /** PARTS, CONTEXTS, and which of them go together. */
    private static final class Table {
        private final long[] partRows = new long[MOST_PARTS];
        private final long[] lefts = new long[MOST_CONTEXTS];
        private final long[] rights = new long[MOST_CONTEXTS];
        private final int[] columns = new int[MOST_CONTEXTS];
        /** By CONTEXT and first PART: the second PARTS, as bits. */
        private final int[] pairSets = new int[MOST_CONTEXTS * MOST_PARTS];
        private int parts = 0;
        private int contexts = 0;
        private int partsBefore = 0;
        private int contextsBefore = 0;

        int parts() {
            return parts;
        }

        int contexts() {
            return contexts;
        }

        long partRow(int part) {
            return partRows[part];
        }

        long left(int context) {
            return lefts[context];
        }

        long right(int context) {
            return rights[context];
        }

        int column(int context) {
            return columns[context];
        }

        int pairs(int context, int part) {
            return pairSets[context * MOST_PARTS + part];
        }

        void begin() {
            Arrays.fill(columns, 0);
            Arrays.fill(pairSets, 0);
            parts = 0;
            contexts = 0;
            partsBefore = 0;
            contextsBefore = 0;
            addContext(EMPTY, EMPTY);
        }

        boolean hasPartRoom() {
            return parts < MOST_PARTS;
        }

        boolean hasContextRoom() {
            return contexts < MOST_CONTEXTS;
        }

        boolean isPart(long row) {
            for (int i = 0; i < parts; i++) {
                if (partRows[i] == row) {
                    return true;
                }
            }
            return false;
        }

        boolean isContext(long left, long right) {
            for (int i = 0; i < contexts; i++) {
                if (lefts[i] == left && rights[i] == right) {
                    return true;
                }
            }
            return false;
        }

        boolean addPart(long row) {
            if (!hasPartRoom() || isPart(row)) {
                return false;
            }
            partRows[parts] = row;
            parts++;
            return true;
        }

        boolean addContext(long left, long right) {
            if (!hasContextRoom() || isContext(left, right)) {
                return false;
            }
            lefts[contexts] = left;
            rights[contexts] = right;
            contexts++;
            return true;
        }

        long inContext(int context, long row) {
            return joined(joined(lefts[context], row), rights[context]);
        }

        /** What was there before was ASKED before, so that only what is new is looked at. */
        void ask(TeacherChart teacher, Asked askedWords) {
            for (int x = 0; x < contexts; x++) {
                int old = x < contextsBefore ? partsBefore : 0;
                for (int part = old; part < parts; part++) {
                    if (askedWords.ask(inContext(x, partRows[part]), teacher)) {
                        columns[x] |= 1 << part;
                    }
                }
                for (int part = 0; part < parts; part++) {
                    for (int other = part < old ? old : 0; other < parts; other++) {
                        if (askedWords.ask(inContext(x, joined(partRows[part], partRows[other])), teacher)) {
                            pairSets[x * MOST_PARTS + part] |= 1 << other;
                        }
                    }
                }
            }
            partsBefore = parts;
            contextsBefore = contexts;
        }

        int howManyPairs(int context) {
            int found = 0;
            for (int part = 0; part < parts; part++) {
                found += Integer.bitCount(pairs(context, part));
            }
            return found;
        }

        boolean isWithin(int context, int other) {
            boolean within = (columns[context] & ~columns[other]) == 0;
            for (int part = 0; part < parts; part++) {
                within = within && (pairs(context, part) & ~pairs(other, part)) == 0;
            }
            return within;
        }
    }

    /** The RULES that THE TABLE allows. */
    private static final class Rules {
        static final int NO_SECOND = 15;
        private static final int HALF = 6;
        private static final int HALF_SETS = 64;

        /** By SIGN: the CONTEXTS that have it, as bits. */
        private final int[] bySign = new int[SIGN_KINDS];
        /** By x and y: all z of x > y z, as bits. */
        private final int[] seconds = new int[MOST_CONTEXTS * MOST_CONTEXTS];
        /** By y and a set of six z, the lower ones or the upper ones: all x of x > y z, as bits. */
        private final int[] makers = new int[MOST_CONTEXTS * 2 * HALF_SETS];
        private final int[] firstNumber = new int[MOST_CONTEXTS + 1];
        private int contexts = 0;
        private int ofOneSign = 0;

        int ofOneSign() {
            return ofOneSign;
        }

        int ofTwo() {
            return firstNumber[contexts] - ofOneSign;
        }

        int contexts() {
            return contexts;
        }

        int howManyOf(int x) {
            return firstNumber[x + 1] - firstNumber[x];
        }

        int bySign(int sign) {
            return bySign[sign];
        }

        int seconds(int x, int y) {
            return seconds[x * MOST_CONTEXTS + y];
        }

        void draw(Table table, Grammar grammar) {
            contexts = table.contexts();
            Arrays.fill(bySign, 0);
            for (int i = 0; i < grammar.signCount(); i++) {
                for (int x = 0; x < contexts; x++) {
                    bySign[grammar.sign(i)] |= (table.column(x) >> i & 1) << x;
                }
            }
            for (int x = 0; x < contexts; x++) {
                for (int y = 0; y < contexts; y++) {
                    seconds[x * MOST_CONTEXTS + y] = allowedSeconds(table, x, y);
                }
            }
            for (int y = 0; y < contexts; y++) {
                fillMakers(y, 0);
                fillMakers(y, 1);
            }
            numberThem();
        }

        private int allowedSeconds(Table table, int x, int y) {
            int column = table.column(y);
            if (column == 0) {
                return 0;
            }
            int common = -1;
            for (int part = 0; part < table.parts(); part++) {
                if ((column >> part & 1) != 0) {
                    common &= table.pairs(x, part);
                }
            }
            int found = 0;
            for (int z = 0; z < contexts; z++) {
                if (table.column(z) != 0 && (table.column(z) & ~common) == 0) {
                    found |= 1 << z;
                }
            }
            return found;
        }

        private void fillMakers(int y, int half) {
            int base = (y * 2 + half) * HALF_SETS;
            for (int set = 1; set < HALF_SETS; set++) {
                int lowest = set & -set;
                int others = set ^ lowest;
                makers[base + set] = others == 0
                        ? makersOfPair(y, half * HALF + Integer.numberOfTrailingZeros(set))
                        : makers[base + lowest] | makers[base + others];
            }
        }

        private int makersOfPair(int y, int z) {
            int found = 0;
            for (int x = 0; x < contexts; x++) {
                found |= (seconds(x, y) >> z & 1) << x;
            }
            return found;
        }

        private void numberThem() {
            ofOneSign = 0;
            int number = 0;
            for (int x = 0; x < contexts; x++) {
                firstNumber[x] = number;
                int signs = signsOf(x);
                ofOneSign += Integer.bitCount(signs);
                number += Integer.bitCount(signs);
                for (int y = 0; y < contexts; y++) {
                    number += Integer.bitCount(seconds(x, y));
                }
            }
            firstNumber[contexts] = number;
        }

        int signsOf(int x) {
            int found = 0;
            for (int sign = 0; sign < SIGN_KINDS; sign++) {
                found |= (bySign[sign] >> x & 1) << sign;
            }
            return found;
        }

        /** All x with a RULE x > y z, y one of ys, z one of zs. */
        int makersOf(int ys, int zs) {
            int found = 0;
            int lower = zs & HALF_SETS - 1;
            int upper = (zs >> HALF & HALF_SETS - 1) + HALF_SETS;
            for (int y = 0; y < contexts; y++) {
                if ((ys >> y & 1) != 0) {
                    int base = y * 2 * HALF_SETS;
                    found |= makers[base + lower] | makers[base + upper];
                }
            }
            return found;
        }

        int ownerOf(int number) {
            int x = 0;
            for (int i = 1; i < contexts; i++) {
                if (firstNumber[i] <= number) {
                    x = i;
                }
            }
            return x;
        }

        /** 16 * y + z of a RULE of x; of one SIGN this and NO_SECOND. */
        int rightOf(int x, int number) {
            int before = number - firstNumber[x];
            int signs = signsOf(x);
            if (before < Integer.bitCount(signs)) {
                return bitAfter(signs, before) << 4 | NO_SECOND;
            }
            before -= Integer.bitCount(signs);
            for (int y = 0; y < contexts; y++) {
                int zs = seconds(x, y);
                if (before < Integer.bitCount(zs)) {
                    return y << 4 | bitAfter(zs, before);
                }
                before -= Integer.bitCount(zs);
            }
            return NO_SECOND;
        }

        /** The one of a set, of SIGNS or CONTEXTS, ahead of which so many others are. */
        private static int bitAfter(int set, int before) {
            int passed = 0;
            for (int bit = 0; bit < MOST_CONTEXTS; bit++) {
                if ((set >> bit & 1) != 0) {
                    if (passed == before) {
                        return bit;
                    }
                    passed++;
                }
            }
            return 0;
        }

        /** RULES with none but these CONTEXTS in them. */
        int howManyAmong(int set) {
            int found = 0;
            for (int x = 0; x < contexts; x++) {
                if ((set >> x & 1) != 0) {
                    found += Integer.bitCount(signsOf(x)) + howManyOfTwo(x, set);
                }
            }
            return found;
        }

        private int howManyOfTwo(int x, int set) {
            int found = 0;
            for (int y = 0; y < contexts; y++) {
                if ((set >> y & 1) != 0) {
                    found += Integer.bitCount(seconds(x, y) & set);
                }
            }
            return found;
        }
    }

    /** Which CONTEXTS are MADE, REACHED, ALIKE; sets of them are bits. */
    private static final class Kinds {
        private final int[] shortest = new int[MOST_CONTEXTS];
        private final int[] likes = new int[MOST_CONTEXTS];
        /** By length: CONTEXTS whose shortest WORD has it. */
        private final int[] madeFirst = new int[WORD_SIGNS + 1];
        private int made = 0;
        private int reached = 0;
        private int own = 0;

        int made() {
            return made;
        }

        int reached() {
            return reached;
        }

        int own() {
            return own;
        }

        int shortest(int context) {
            return shortest[context];
        }

        int like(int context) {
            return likes[context];
        }

        /** USEFUL ones that are their own LIKES. */
        int lasting() {
            return made & reached & own;
        }

        boolean lasts(int context) {
            return (lasting() >> context & 1) != 0;
        }

        void settle(Table table, Rules rules) {
            findMade(rules);
            findReached(rules);
            findLikes(table);
        }

        private void findMade(Rules rules) {
            Arrays.fill(shortest, NONE);
            made = 0;
            for (int length = 1; length <= WORD_SIGNS; length++) {
                int found = length == 1 ? madeOfSigns(rules) : madeOfTwo(rules, length);
                madeFirst[length] = found & ~made;
                made |= found;
                for (int x = 0; x < rules.contexts(); x++) {
                    if ((madeFirst[length] >> x & 1) != 0) {
                        shortest[x] = length;
                    }
                }
            }
        }

        private static int madeOfSigns(Rules rules) {
            int found = 0;
            for (int sign = 0; sign < SIGN_KINDS; sign++) {
                found |= rules.bySign(sign);
            }
            return found;
        }

        private int madeOfTwo(Rules rules, int length) {
            int found = 0;
            for (int first = 1; first < length; first++) {
                int ys = madeFirst[first];
                int zs = madeFirst[length - first];
                if (ys != 0 && zs != 0) {
                    found |= rules.makersOf(ys, zs);
                }
            }
            return found;
        }

        private void findReached(Rules rules) {
            reached = 1;
            int gone = 0;
            for (int turn = 0; turn < rules.contexts(); turn++) {
                int x = Integer.numberOfTrailingZeros(reached & ~gone);
                if (x >= rules.contexts()) {
                    break;
                }
                gone |= 1 << x;
                for (int y = 0; y < rules.contexts(); y++) {
                    int zs = rules.seconds(x, y) & made;
                    if ((made >> y & 1) != 0 && zs != 0) {
                        reached |= 1 << y | zs;
                    }
                }
            }
        }

        private void findLikes(Table table) {
            own = 0;
            for (int x = 0; x < table.contexts(); x++) {
                likes[x] = x;
                for (int other = x - 1; other >= 0; other--) {
                    if (table.isWithin(x, other) && table.isWithin(other, x)) {
                        likes[x] = other;
                    }
                }
                if (likes[x] == x) {
                    own |= 1 << x;
                }
            }
        }
    }

    /** From which CONTEXTS THE LEARNER HAS each row of a WORD; its TREES. */
    private static final class LearnerChart {
        private static final int MOST_NODES = 2 * WORD_SIGNS - 1;

        private final Rules rules;
        /** By where a row begins and ends: CONTEXTS, as bits. */
        private final int[] sets = new int[WORD_SIGNS * WORD_SIGNS];
        private long[] ways = new long[0];
        /** A node is 1024 * CONTEXT + 32 * where it begins + where it ends. */
        private final int[] tree = new int[MOST_NODES];
        private final int[] open = new int[MOST_NODES];
        private int nodes = 0;

        LearnerChart(Rules rules) {
            this.rules = rules;
        }

        int nodes() {
            return nodes;
        }

        int nodeContext(int i) {
            return tree[i] >> 10;
        }

        int nodeStart(int i) {
            return tree[i] >> 5 & 31;
        }

        int nodeSigns(int i) {
            return (tree[i] & 31) - nodeStart(i);
        }

        void dropTree() {
            nodes = 0;
        }

        private static int cell(int start, int end) {
            return start * WORD_SIGNS + end - 1;
        }

        /** The chart is that of this WORD then. */
        boolean has(long row) {
            int length = lengthOf(row);
            if (length < 1 || length > WORD_SIGNS) {
                return false;
            }
            for (int end = 1; end <= length; end++) {
                sets[cell(end - 1, end)] = rules.bySign(signAt(row, end - 1));
                for (int start = end - 2; start >= 0; start--) {
                    sets[cell(start, end)] = makersOfRow(start, end);
                }
            }
            return (sets[cell(0, length)] & 1) != 0;
        }

        private int makersOfRow(int start, int end) {
            int found = 0;
            for (int middle = start + 1; middle < end; middle++) {
                int ys = sets[cell(start, middle)];
                int zs = sets[cell(middle, end)];
                if (ys != 0 && zs != 0) {
                    found |= rules.makersOf(ys, zs);
                }
            }
            return found;
        }

        /** 256 * where the second one begins + 16 * y + z; NONE, if there is no such RULE. */
        int split(int x, int start, int end) {
            for (int middle = start + 1; middle < end; middle++) {
                int ys = sets[cell(start, middle)];
                int zs = sets[cell(middle, end)];
                for (int y = 0; y < rules.contexts(); y++) {
                    int seconds = (ys >> y & 1) != 0 ? rules.seconds(x, y) & zs : 0;
                    if (seconds != 0) {
                        return middle << 8 | y << 4 | Integer.numberOfTrailingZeros(seconds);
                    }
                }
            }
            return NONE;
        }

        /** Of a WORD of which the chart is, and which THE LEARNER HAS. */
        int growTree(int length) {
            nodes = 0;
            open[0] = length;
            int waiting = 1;
            for (int i = 0; i < MOST_NODES && waiting > 0; i++) {
                waiting--;
                int node = open[waiting];
                tree[i] = node;
                nodes++;
                int start = node >> 5 & 31;
                int end = node & 31;
                int split = split(node >> 10, start, end);
                if (split != NONE && waiting + 2 <= MOST_NODES) {
                    int middle = split >> 8;
                    open[waiting] = (split & 15) << 10 | middle << 5 | end;
                    open[waiting + 1] = (split >> 4 & 15) << 10 | start << 5 | middle;
                    waiting += 2;
                }
            }
            return nodes;
        }

        int countTrees(long row) {
            if (!has(row)) {
                return 0;
            }
            if (ways.length == 0) {
                ways = new long[WORD_SIGNS * WORD_SIGNS * MOST_CONTEXTS];
            }
            int length = lengthOf(row);
            for (int end = 1; end <= length; end++) {
                for (int start = end - 1; start >= 0; start--) {
                    countWays(start, end);
                }
            }
            return (int) ways[cell(0, length) * MOST_CONTEXTS];
        }

        private void countWays(int start, int end) {
            int base = cell(start, end) * MOST_CONTEXTS;
            int set = sets[cell(start, end)];
            for (int x = 0; x < rules.contexts(); x++) {
                if ((set >> x & 1) != 0) {
                    ways[base + x] = end - start == 1 ? 1 : waysOf(x, start, end);
                }
            }
        }

        private long waysOf(int x, int start, int end) {
            long found = 0;
            for (int middle = start + 1; middle < end; middle++) {
                int ys = sets[cell(start, middle)];
                int zs = sets[cell(middle, end)];
                for (int y = 0; y < rules.contexts(); y++) {
                    int seconds = (ys >> y & 1) != 0 ? rules.seconds(x, y) & zs : 0;
                    if (seconds != 0) {
                        long first = ways[cell(start, middle) * MOST_CONTEXTS + y];
                        found += first * waysOfAny(seconds, middle, end);
                    }
                    if (found >= MOST_TREES) {
                        return MOST_TREES;
                    }
                }
            }
            return found;
        }

        private long waysOfAny(int set, int start, int end) {
            int base = cell(start, end) * MOST_CONTEXTS;
            long found = 0;
            for (int x = 0; x < rules.contexts(); x++) {
                if ((set >> x & 1) != 0) {
                    found = Math.min(MOST_TREES, found + ways[base + x]);
                }
            }
            return found;
        }
    }

    /**
     * All WORDS of up to 6 SIGNS OF THE GRAMMAR, of each length numbered as in a dictionary; what is
     * known of a WORD comes from what is known of its beginnings and ends.
     */
    private static final class ShortWords {
        private final Rules rules;
        private Grammar grammar;
        /** By length: how many, and where they begin in the rows below. */
        private final int[] amounts = new int[LESSON_SIGNS + 1];
        private final int[] firsts = new int[LESSON_SIGNS + 2];
        private long[] items = new long[0];
        private long[] waiting = new long[0];
        private byte[] toldOnes = new byte[0];
        private int[] sets = new int[0];
        private int toldUpTo = 0;
        private int hadUpTo = 0;

        ShortWords(Rules rules, Grammar grammar) {
            this.rules = rules;
            this.grammar = grammar;
        }

        void begin(Grammar newGrammar) {
            grammar = newGrammar;
            toldUpTo = 0;
            hadUpTo = 0;
            amounts[0] = 1;
            firsts[1] = 0;
            for (int length = 1; length <= LESSON_SIGNS; length++) {
                amounts[length] = amounts[length - 1] * grammar.signCount();
                firsts[length + 1] = firsts[length] + amounts[length];
            }
            makeRows(firsts[LESSON_SIGNS + 1]);
        }

        private void makeRows(int all) {
            if (all > sets.length) {
                items = new long[all];
                waiting = new long[all];
                toldOnes = new byte[all];
                sets = new int[all];
            }
        }

        void forgetLearner() {
            hadUpTo = 0;
        }

        int howMany(int length) {
            return amounts[length];
        }

        boolean isTold(int length, int number) {
            return toldOnes[firsts[length] + number] != 0;
        }

        boolean isHad(int length, int number) {
            return (sets[firsts[length] + number] & 1) != 0;
        }

        long row(int length, int number) {
            int kinds = grammar.signCount();
            long row = EMPTY << 2 * length;
            int rest = number;
            for (int k = 0; k < length && kinds > 0; k++) {
                row |= (long) grammar.sign(rest % kinds) << 2 * k;
                rest /= kinds;
            }
            return row;
        }

        void reach(int length) {
            for (int size = toldUpTo + 1; size <= length; size++) {
                tellAll(size);
                toldUpTo = size;
            }
            for (int size = hadUpTo + 1; size <= length; size++) {
                haveAll(size);
                hadUpTo = size;
            }
        }

        private void tellAll(int length) {
            int from = firsts[length];
            for (int i = from; i < firsts[length + 1]; i++) {
                items[i] = 0;
            }
            for (int first = 1; first < length; first++) {
                meetItems(first, length - first);
            }
            for (int i = from; i < firsts[length + 1]; i++) {
                if (length == 1) {
                    int sign = grammar.sign(i - from);
                    toldOnes[i] = (byte) (grammar.namesBySign(sign) & 1);
                    items[i] = grammar.itemsBySign(sign);
                    waiting[i] = grammar.waitingForSign(sign);
                } else {
                    long met = items[i] << 1;
                    int names = grammar.namesByItems(met);
                    toldOnes[i] = (byte) (names & 1);
                    items[i] = met | grammar.itemsByNames(names);
                    waiting[i] = grammar.waitingForNames(names);
                }
            }
        }

        private void meetItems(int first, int second) {
            int to = firsts[first + second];
            for (int i = firsts[first]; i < firsts[first + 1]; i++) {
                long begun = items[i];
                for (int j = firsts[second]; j < firsts[second + 1]; j++) {
                    items[to] |= begun & waiting[j];
                    to++;
                }
            }
        }

        private void haveAll(int length) {
            int from = firsts[length];
            for (int i = from; i < firsts[length + 1]; i++) {
                sets[i] = length == 1 ? rules.bySign(grammar.sign(i - from)) : 0;
            }
            for (int first = 1; first < length; first++) {
                joinSets(first, length - first);
            }
        }

        private void joinSets(int first, int second) {
            int to = firsts[first + second];
            for (int i = firsts[first]; i < firsts[first + 1]; i++) {
                int ys = sets[i];
                for (int j = firsts[second]; j < firsts[second + 1]; j++) {
                    if (ys != 0 && sets[j] != 0) {
                        sets[to] |= rules.makersOf(ys, sets[j]);
                    }
                    to++;
                }
            }
        }
    }

    /** What the next LESSON is about, what it brings, and what the latest one brought. */
    private static final class Lessons {
        private final TeacherChart teacher;
        private final Table table;
        private final LearnerChart learner;
        private final ShortWords shortWords;
        private long foundRow = EMPTY;
        private int found = 0;
        private long row = EMPTY;
        private int what = NONE;
        private int partsCame = NONE;
        private int contextsCame = NONE;
        private final int[] refuted = new int[3];
        private int lacked = 0;
        private int wrong = 0;

        Lessons(TeacherChart teacher, Table table, LearnerChart learner, ShortWords shortWords) {
            this.teacher = teacher;
            this.table = table;
            this.learner = learner;
            this.shortWords = shortWords;
        }

        long foundRow() {
            return foundRow;
        }

        long row() {
            return row;
        }

        int what() {
            return what;
        }

        int partsCame() {
            return partsCame;
        }

        int contextsCame() {
            return contextsCame;
        }

        int refuted(int i) {
            return refuted[i];
        }

        int lacked() {
            return lacked;
        }

        int wrong() {
            return wrong;
        }

        void begin() {
            row = EMPTY;
            what = NONE;
            partsCame = NONE;
            contextsCame = NONE;
            Arrays.fill(refuted, NONE);
            lacked = 0;
            wrong = 0;
        }

        /** LACKED, WRONG, 0 if all is known, NONE if it is FULL; then the row that is found is empty. */
        int find(int length) {
            boolean allKnown = true;
            for (int size = 1; size <= length; size++) {
                shortWords.reach(size);
                for (int i = 0; i < shortWords.howMany(size); i++) {
                    boolean isTold = shortWords.isTold(size, i);
                    if (isTold == shortWords.isHad(size, i)) {
                        continue;
                    }
                    allKnown = false;
                    foundRow = shortWords.row(size, i);
                    // a RULE that is refuted has at least one of its two not among PARTS
                    if (isTold ? bringsSomething(foundRow) : table.hasPartRoom()) {
                        found = isTold ? LACKED : WRONG;
                        return found;
                    }
                }
            }
            foundRow = EMPTY;
            found = allKnown ? 0 : NONE;
            return found;
        }

        private boolean bringsSomething(long lackedRow) {
            int length = lengthOf(lackedRow);
            for (int size = 1; size <= length; size++) {
                for (int start = 0; start + size <= length; start++) {
                    int end = start + size;
                    if (table.hasPartRoom() && !table.isPart(cut(lackedRow, start, end))) {
                        return true;
                    }
                    if (table.hasContextRoom()
                            && !table.isContext(cut(lackedRow, 0, start), cut(lackedRow, end, length))) {
                        return true;
                    }
                }
            }
            return false;
        }

        /** Of the LESSON that was found last, if it is about a WORD. */
        void bring() {
            int partsBefore = table.parts();
            int contextsBefore = table.contexts();
            row = foundRow;
            what = found;
            Arrays.fill(refuted, NONE);
            if (found == LACKED) {
                bringRows();
                bringContexts();
                lacked++;
            } else {
                refute();
                wrong++;
            }
            partsCame = table.parts() - partsBefore;
            contextsCame = table.contexts() - contextsBefore;
        }

        private void bringRows() {
            int length = lengthOf(row);
            for (int size = 1; size <= length; size++) {
                for (int start = 0; start + size <= length; start++) {
                    table.addPart(cut(row, start, start + size));
                }
            }
        }

        private void bringContexts() {
            int length = lengthOf(row);
            for (int both = 0; both < length; both++) {
                for (int left = 0; left <= both; left++) {
                    table.addContext(cut(row, 0, left), cut(row, length - both + left, length));
                }
            }
        }

        private void refute() {
            if (!learner.has(row)) {
                return;
            }
            int x = 0;
            int start = 0;
            int end = lengthOf(row);
            for (int depth = 0; depth < LESSON_SIGNS; depth++) {
                int split = learner.split(x, start, end);
                if (split == NONE) {
                    return;
                }
                int middle = split >> 8;
                int y = split >> 4 & 15;
                int z = split & 15;
                if (!teacher.tells(table.inContext(y, cut(row, start, middle)))) {
                    x = y;
                    end = middle;
                } else if (!teacher.tells(table.inContext(z, cut(row, middle, end)))) {
                    x = z;
                    start = middle;
                } else {
                    refuted[0] = x;
                    refuted[1] = y;
                    refuted[2] = z;
                    table.addPart(cut(row, start, middle));
                    table.addPart(cut(row, middle, end));
                    return;
                }
            }
        }
    }

    /** What was SAID; its room is made when first something is. */
    private static final class Speech {
        private static final int MOST_OF_ONE = 3 + 2 * SIGN_KINDS + 3 * MOST_CONTEXTS * MOST_CONTEXTS;

        private byte[] bytes = new byte[0];
        private int size = 0;

        int size() {
            return size;
        }

        int at(int i) {
            return i >= 0 && i < size ? bytes[i] : NONE;
        }

        void write(Rules rules, int lasting) {
            if (bytes.length == 0) {
                bytes = new byte[MOST_CONTEXTS * MOST_OF_ONE];
            }
            size = 0;
            for (int x = 0; x < rules.contexts(); x++) {
                if ((lasting >> x & 1) != 0) {
                    writeRulesOf(rules, x, lasting);
                }
            }
        }

        private void writeRulesOf(Rules rules, int x, int lasting) {
            int before = size;
            int signs = rules.signsOf(x);
            for (int sign = 0; sign < SIGN_KINDS; sign++) {
                if ((signs >> sign & 1) != 0) {
                    lead(before, x);
                    put('a' + sign);
                }
            }
            for (int y = 0; y < rules.contexts(); y++) {
                int zs = (lasting >> y & 1) != 0 ? rules.seconds(x, y) & lasting : 0;
                for (int z = 0; z < rules.contexts(); z++) {
                    if ((zs >> z & 1) != 0) {
                        lead(before, x);
                        put('A' + y);
                        put('A' + z);
                    }
                }
            }
            if (size > before) {
                put(';');
            }
        }

        /** A CONTEXT without RULES in THE REST isn't SAID, so that its letter comes with its first RULE. */
        private void lead(int before, int x) {
            if (size == before) {
                put('A' + x);
                put('>');
            } else {
                put('|');
            }
        }

        private void put(int value) {
            if (size < bytes.length) {
                bytes[size] = (byte) value;
                size++;
            }
        }
    }
}
