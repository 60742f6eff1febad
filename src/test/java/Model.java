import java.util.ArrayList;
import java.util.HashMap;
import java.util.HashSet;
import java.util.LinkedHashMap;
import java.util.List;
import java.util.Map;
import java.util.NoSuchElementException;
import java.util.Set;

/** The document once more, word for word and without care for speed: texts, lists and sets. */
final class Model {
    static final int NONE = -1;

    private String tape = "";
    private int faultPlace = NONE;

    private List<Character> names = new ArrayList<>();
    private List<Character> owners = new ArrayList<>();
    private List<String> bodies = new ArrayList<>();
    private String signs = "";

    private final List<String> parts = new ArrayList<>();
    private final List<String[]> contexts = new ArrayList<>();
    private final LinkedHashMap<String, Boolean> askedWords = new LinkedHashMap<>();
    private final List<int[]> rules = new ArrayList<>();
    private final Map<String, Boolean> toldMemo = new HashMap<>();
    private final Map<String, Boolean> hadMemo = new HashMap<>();

    private int lacked = 0;
    private int wrong = 0;
    private int latestWhat = NONE;
    private int latestParts = NONE;
    private int latestContexts = NONE;
    private int[] latestRule = {NONE, NONE, NONE};
    private String latestWord = "";

    private String speech = "";
    private List<int[]> nodes = new ArrayList<>();

    private String nextWord;
    private int nextWhat;

    Model() {
        start();
    }

    // ---- the tape

    int feed(int a, int b, int c, int d, int e) {
        if (tape.length() + 20 > 400) {
            return NONE;
        }
        StringBuilder more = new StringBuilder(tape);
        for (int number : new int[] {a, b, c, d, e}) {
            more.append((char) (number >>> 24)).append((char) (number >>> 16 & 255));
            more.append((char) (number >>> 8 & 255)).append((char) (number & 255));
        }
        tape = more.toString();
        return tape.length();
    }

    private String take(int n) {
        if (n < 0 || n > tape.length()) {
            throw new IllegalArgumentException();
        }
        String taken = tape.substring(0, n);
        tape = "";
        return taken;
    }

    private static boolean allOf(String text, String allowed) {
        for (char c : text.toCharArray()) {
            if (allowed.indexOf(c) < 0) {
                return false;
            }
        }
        return true;
    }

    private static boolean isWord(String text) {
        return allOf(text, "abcd") && text.length() >= 1 && text.length() <= 20;
    }

    // ---- the grammar

    int teach(int n) {
        String text = take(n);
        List<Character> newNames = new ArrayList<>();
        List<Character> newOwners = new ArrayList<>();
        List<String> newBodies = new ArrayList<>();
        String expects = "line";
        char owner = ' ';
        for (int i = 0; i <= n; i++) {
            boolean end = i == n;
            char c = end ? 0 : text.charAt(i);
            if (!end && (c == 32 || c == 10)) {
                continue;
            }
            boolean great = !end && c >= 'A' && c <= 'Z';
            boolean sign = !end && c >= 'a' && c <= 'd';
            boolean can;
            switch (expects) {
                case "line": can = great || end && !newBodies.isEmpty(); break;
                case "arrow": can = !end && c == '>'; break;
                case "body": can = great || sign; break;
                default: can = great || sign || !end && (c == '|' || c == ';');
            }
            int number = 0;
            if (!can) {
                number = 1;
            } else if (great && !newNames.contains(c) && newNames.size() == 6) {
                number = 2;
            } else if (expects.equals("body") && newBodies.size() == 16) {
                number = 3;
            } else if (expects.equals("more") && (great || sign)
                    && newBodies.get(newBodies.size() - 1).length() == 4) {
                number = 3;
            }
            if (number != 0) {
                faultPlace = i;
                return number;
            }
            if (end) {
                break;
            }
            if (great && !newNames.contains(c)) {
                newNames.add(c);
            }
            if (expects.equals("line")) {
                owner = c;
                expects = "arrow";
            } else if (c == '>' || c == '|') {
                expects = "body";
            } else if (c == ';') {
                expects = "line";
            } else if (expects.equals("body")) {
                newOwners.add(owner);
                newBodies.add("" + c);
                expects = "more";
            } else {
                newBodies.set(newBodies.size() - 1, newBodies.get(newBodies.size() - 1) + c);
            }
        }
        faultPlace = NONE;
        names = newNames;
        owners = newOwners;
        bodies = newBodies;
        signs = "";
        for (char c : "abcd".toCharArray()) {
            if (text.indexOf(c) >= 0) {
                signs += c;
            }
        }
        toldMemo.clear();
        start();
        return 0;
    }

    int fault() {
        return faultPlace;
    }

    private boolean tells(String word) {
        Boolean known = toldMemo.get(word);
        if (known == null) {
            known = !names.isEmpty() && derivations(word).contains(names.get(0) + word);
            toldMemo.put(word, known);
        }
        return known;
    }

    /** All of NAME and row, for rows of the word, such that the NAME is the row. */
    private Set<String> derivations(String word) {
        Set<String> known = new HashSet<>();
        for (int length = 1; length <= word.length(); length++) {
            Set<String> rows = new HashSet<>();
            for (int i = 0; i + length <= word.length(); i++) {
                rows.add(word.substring(i, i + length));
            }
            for (String row : rows) {
                boolean more = true;
                while (more) {
                    more = false;
                    for (int b = 0; b < bodies.size(); b++) {
                        if (!known.contains(owners.get(b) + row) && fits(bodies.get(b), row, known)) {
                            known.add(owners.get(b) + row);
                            more = true;
                        }
                    }
                }
            }
        }
        return known;
    }

    private static boolean fits(String body, String row, Set<String> known) {
        if (body.isEmpty() || row.isEmpty()) {
            return body.isEmpty() && row.isEmpty();
        }
        char first = body.charAt(0);
        if (first >= 'a') {
            return row.charAt(0) == first && fits(body.substring(1), row.substring(1), known);
        }
        for (int length = 1; length <= row.length() - (body.length() - 1); length++) {
            if (known.contains(first + row.substring(0, length))
                    && fits(body.substring(1), row.substring(length), known)) {
                return true;
            }
        }
        return false;
    }

    // ---- the learner and its table

    private void start() {
        parts.clear();
        contexts.clear();
        askedWords.clear();
        for (char c : signs.toCharArray()) {
            parts.add("" + c);
        }
        contexts.add(new String[] {"", ""});
        lacked = 0;
        wrong = 0;
        latestWhat = NONE;
        latestParts = NONE;
        latestContexts = NONE;
        latestRule = new int[] {NONE, NONE, NONE};
        latestWord = "";
        nodes = new ArrayList<>();
        askTable();
    }

    int anew() {
        int before = askedWords.size();
        start();
        return before;
    }

    private boolean takesRow(int x, String row) {
        return tells(contexts.get(x)[0] + row + contexts.get(x)[1]);
    }

    private void ask(int x, String row) {
        String word = contexts.get(x)[0] + row + contexts.get(x)[1];
        if (!askedWords.containsKey(word)) {
            askedWords.put(word, tells(word));
        }
    }

    private void askTable() {
        for (int x = 0; x < contexts.size(); x++) {
            for (String part : parts) {
                ask(x, part);
            }
            for (String part : parts) {
                for (String other : parts) {
                    ask(x, part + other);
                }
            }
        }
        rules.clear();
        hadMemo.clear();
        for (int x = 0; x < contexts.size(); x++) {
            for (char s : signs.toCharArray()) {
                if (takesRow(x, "" + s)) {
                    rules.add(new int[] {x, s - 'a', NONE});
                }
            }
            for (int y = 0; y < contexts.size(); y++) {
                for (int z = 0; z < contexts.size(); z++) {
                    if (allowed(x, y, z)) {
                        rules.add(new int[] {x, y, z});
                    }
                }
            }
        }
    }

    private List<String> column(int x) {
        List<String> found = new ArrayList<>();
        for (String part : parts) {
            if (takesRow(x, part)) {
                found.add(part);
            }
        }
        return found;
    }

    private boolean allowed(int x, int y, int z) {
        List<String> firsts = column(y);
        List<String> seconds = column(z);
        if (firsts.isEmpty() || seconds.isEmpty()) {
            return false;
        }
        for (String first : firsts) {
            for (String second : seconds) {
                if (!takesRow(x, first + second)) {
                    return false;
                }
            }
        }
        return true;
    }

    private boolean hasFrom(int x, String word) {
        String key = x + word;
        Boolean known = hadMemo.get(key);
        if (known == null) {
            known = false;
            for (int[] r : rules) {
                if (r[0] != x) {
                    continue;
                }
                if (r[2] == NONE) {
                    known |= word.equals("" + (char) ('a' + r[1]));
                    continue;
                }
                for (int m = 1; m < word.length() && !known; m++) {
                    known = hasFrom(r[1], word.substring(0, m)) && hasFrom(r[2], word.substring(m));
                }
            }
            hadMemo.put(key, known);
        }
        return known;
    }

    int word(int n) {
        String text = take(n);
        if (!isWord(text)) {
            return NONE;
        }
        return (tells(text) ? 1 : 0) + (hasFrom(0, text) ? 2 : 0);
    }

    int part(int n) {
        String text = take(n);
        if (!isWord(text) || !allOf(text, signs) || text.length() > 6 || parts.contains(text) || parts.size() == 16) {
            return NONE;
        }
        parts.add(text);
        askTable();
        return parts.size() - 1;
    }

    private boolean isContext(String left, String right) {
        for (String[] c : contexts) {
            if (c[0].equals(left) && c[1].equals(right)) {
                return true;
            }
        }
        return false;
    }

    int context(int n, int left) {
        String text = take(n);
        if (left < 0 || left > n || !allOf(text, signs) || n > 5) {
            return NONE;
        }
        String l = text.substring(0, left);
        String r = text.substring(left);
        if (isContext(l, r) || contexts.size() == 12) {
            return NONE;
        }
        contexts.add(new String[] {l, r});
        askTable();
        return contexts.size() - 1;
    }

    // ---- lessons

    private List<String> words(int length) {
        List<String> found = new ArrayList<>();
        found.add("");
        for (int i = 0; i < length; i++) {
            List<String> longer = new ArrayList<>();
            for (String w : found) {
                for (char s : signs.toCharArray()) {
                    longer.add(w + s);
                }
            }
            found = longer;
        }
        return found;
    }

    private static void demandLength(int length) {
        if (length < 1 || length > 6) {
            throw new IllegalArgumentException();
        }
    }

    private List<String> comingParts(String word) {
        List<String> coming = new ArrayList<>();
        for (int length = 1; length <= word.length(); length++) {
            for (int i = 0; i + length <= word.length(); i++) {
                String row = word.substring(i, i + length);
                if (!parts.contains(row) && !coming.contains(row) && parts.size() + coming.size() < 16) {
                    coming.add(row);
                }
            }
        }
        return coming;
    }

    private List<String[]> comingContexts(String word) {
        List<String[]> coming = new ArrayList<>();
        for (int both = 0; both < word.length(); both++) {
            for (int left = 0; left <= both; left++) {
                String l = word.substring(0, left);
                String r = word.substring(word.length() - (both - left));
                if (!isContext(l, r) && contexts.size() + coming.size() < 12) {
                    coming.add(new String[] {l, r});
                }
            }
        }
        return coming;
    }

    /** {x, y, z, length of the first, where it begins, where the second ends}. */
    private int[] refutedRule(int x, String word, int start, int end) {
        String row = word.substring(start, end);
        int[] s = splitOf(x, row);
        String first = row.substring(0, s[0]);
        String second = row.substring(s[0]);
        if (!takesRow(s[1], first)) {
            return refutedRule(s[1], word, start, start + s[0]);
        }
        if (!takesRow(s[2], second)) {
            return refutedRule(s[2], word, start + s[0], end);
        }
        return new int[] {x, s[1], s[2], s[0], start, end};
    }

    private int[] splitOf(int x, String row) {
        for (int m = 1; m < row.length(); m++) {
            for (int[] r : rules) {
                if (r[0] == x && r[2] != NONE && hasFrom(r[1], row.substring(0, m)) && hasFrom(r[2], row.substring(m))) {
                    return new int[] {m, r[1], r[2]};
                }
            }
        }
        throw new AssertionError("no split");
    }

    private List<String> refutingParts(int[] r, String word) {
        List<String> coming = new ArrayList<>();
        String first = word.substring(r[4], r[4] + r[3]);
        String second = word.substring(r[4] + r[3], r[5]);
        for (String row : new String[] {first, second}) {
            if (!parts.contains(row) && !coming.contains(row) && parts.size() + coming.size() < 16) {
                coming.add(row);
            }
        }
        return coming;
    }

    private void find(int length) {
        nextWhat = 0;
        nextWord = "";
        for (int l = 1; l <= length; l++) {
            for (String w : words(l)) {
                boolean t = tells(w);
                if (t == hasFrom(0, w)) {
                    continue;
                }
                nextWhat = NONE;
                boolean brings = t ? !comingParts(w).isEmpty() || !comingContexts(w).isEmpty()
                        : !refutingParts(refutedRule(0, w, 0, w.length()), w).isEmpty();
                if (brings) {
                    nextWhat = t ? 1 : 2;
                    nextWord = w;
                    return;
                }
            }
        }
    }

    int lesson(int length) {
        demandLength(length);
        find(length);
        if (nextWhat < 1) {
            return nextWhat;
        }
        latestWhat = nextWhat;
        latestWord = nextWord;
        latestRule = new int[] {NONE, NONE, NONE};
        if (nextWhat == 1) {
            List<String> p = comingParts(nextWord);
            List<String[]> c = comingContexts(nextWord);
            parts.addAll(p);
            contexts.addAll(c);
            latestParts = p.size();
            latestContexts = c.size();
            lacked++;
        } else {
            int[] r = refutedRule(0, nextWord, 0, nextWord.length());
            List<String> p = refutingParts(r, nextWord);
            parts.addAll(p);
            latestParts = p.size();
            latestContexts = 0;
            latestRule = new int[] {r[0], r[1], r[2]};
            wrong++;
        }
        askTable();
        return latestWhat;
    }

    int learn(int length, int most) {
        demandLength(length);
        if (most < 1 || most > 20) {
            throw new IllegalArgumentException();
        }
        int held = 0;
        while (held < most && lesson(length) > 0) {
            held++;
        }
        return held;
    }

    private static int sign(String word, int k) {
        if (k < 0 || k >= word.length()) {
            throw new NoSuchElementException();
        }
        return word.charAt(k) - 'a';
    }

    private static int signOrSize(String word, int k) {
        return k == NONE ? word.length() : sign(word, k);
    }

    int next(int length, int k) {
        demandLength(length);
        find(length);
        return signOrSize(nextWord, k);
    }

    int latest(int what) {
        if (what < 0 || what > 6 && what < 10) {
            throw new NoSuchElementException();
        }
        if (what >= 10) {
            return sign(latestWord, what - 10);
        }
        if (latestWhat == NONE) {
            return NONE;
        }
        return new int[] {latestWhat, latestParts, latestContexts, latestRule[0], latestRule[1], latestRule[2],
            latestWord.length()}[what];
    }

    // ---- what is asked about

    private int shortest(int x) {
        int far = 1000000;
        int[] least = new int[contexts.size()];
        java.util.Arrays.fill(least, far);
        for (int round = 0; round <= contexts.size(); round++) {
            for (int[] r : rules) {
                int size = r[2] == NONE ? 1 : least[r[1]] + least[r[2]];
                least[r[0]] = Math.min(least[r[0]], size);
            }
        }
        return least[x] <= 20 ? least[x] : NONE;
    }

    private boolean isMade(int x) {
        return shortest(x) != NONE;
    }

    private Set<Integer> reachedOnes() {
        Set<Integer> made = new HashSet<>();
        for (int x = 0; x < contexts.size(); x++) {
            if (isMade(x)) {
                made.add(x);
            }
        }
        Set<Integer> found = new HashSet<>();
        found.add(0);
        for (int round = 0; round < contexts.size(); round++) {
            for (int[] r : rules) {
                if (found.contains(r[0]) && r[2] != NONE && made.contains(r[1]) && made.contains(r[2])) {
                    found.add(r[1]);
                    found.add(r[2]);
                }
            }
        }
        return found;
    }

    private int like(int x) {
        for (int o = 0; o < x; o++) {
            if (within(o, x) && within(x, o)) {
                return o;
            }
        }
        return x;
    }

    private List<int[]> rest() {
        Set<Integer> good = new HashSet<>();
        Set<Integer> reached = reachedOnes();
        for (int x = 0; x < contexts.size(); x++) {
            if (isMade(x) && reached.contains(x) && like(x) == x) {
                good.add(x);
            }
        }
        List<int[]> found = new ArrayList<>();
        for (int[] r : rules) {
            if (good.contains(r[0]) && (r[2] == NONE || good.contains(r[1]) && good.contains(r[2]))) {
                found.add(r);
            }
        }
        return found;
    }

    int count(int what) {
        int made = 0;
        int useful = 0;
        int own = 0;
        int one = 0;
        int told = 0;
        Set<Integer> reached = reachedOnes();
        for (int x = 0; x < contexts.size(); x++) {
            made += isMade(x) ? 1 : 0;
            useful += isMade(x) && reached.contains(x) ? 1 : 0;
            own += like(x) == x ? 1 : 0;
        }
        for (int[] r : rules) {
            one += r[2] == NONE ? 1 : 0;
        }
        for (boolean t : askedWords.values()) {
            told += t ? 1 : 0;
        }
        int[] all = {names.size(), bodies.size(), signs.length(), parts.size(), contexts.size(), askedWords.size(),
            told, one, rules.size() - one, made, reached.size(), useful, own, rest().size(), lacked, wrong,
            tape.length()};
        if (what < 0 || what >= all.length) {
            throw new NoSuchElementException();
        }
        return all[what];
    }

    private void demandContext(int x) {
        if (x < 0 || x >= contexts.size()) {
            throw new NoSuchElementException();
        }
    }

    private void demandPart(int p) {
        if (p < 0 || p >= parts.size()) {
            throw new NoSuchElementException();
        }
    }

    int ofPart(int part, int k) {
        demandPart(part);
        return signOrSize(parts.get(part), k);
    }

    int ofContext(int context, boolean right, int k) {
        demandContext(context);
        return signOrSize(contexts.get(context)[right ? 1 : 0], k);
    }

    int kind(int context, int what) {
        demandContext(context);
        int bits = 0;
        int pairs = 0;
        for (int p = 0; p < parts.size(); p++) {
            bits += takesRow(context, parts.get(p)) ? 1 << p : 0;
            for (int q = 0; q < parts.size(); q++) {
                pairs += takes(context, p, q) ? 1 : 0;
            }
        }
        int of = 0;
        for (int[] r : rules) {
            of += r[0] == context ? 1 : 0;
        }
        int[] all = {bits, pairs, of, isMade(context) ? 1 : 0, reachedOnes().contains(context) ? 1 : 0, like(context),
            shortest(context)};
        if (what < 0 || what >= all.length) {
            throw new NoSuchElementException();
        }
        return all[what];
    }

    boolean takes(int context, int part, int other) {
        demandContext(context);
        demandPart(part);
        demandPart(other);
        return takesRow(context, parts.get(part) + parts.get(other));
    }

    int rule(int rule, int what) {
        if (rule < 0 || rule >= rules.size() || what < 0 || what > 3) {
            throw new NoSuchElementException();
        }
        int[] r = rules.get(rule);
        return what < 3 ? r[what] : rest().contains(r) ? 1 : 0;
    }

    int asked(int i, int k) {
        if (i < 0 || i >= askedWords.size()) {
            throw new NoSuchElementException();
        }
        String w = new ArrayList<>(askedWords.keySet()).get(i);
        return k == -2 ? askedWords.get(w) ? 1 : 0 : signOrSize(w, k);
    }

    int many(int length, int what) {
        demandLength(length);
        if (what < 0 || what > 2) {
            throw new NoSuchElementException();
        }
        int found = 0;
        for (String w : words(length)) {
            boolean t = tells(w);
            boolean h = hasFrom(0, w);
            found += (what == 0 ? t : what == 1 ? h : t && h) ? 1 : 0;
        }
        return found;
    }

    int told(int length, boolean teacher, int i, int k) {
        demandLength(length);
        List<String> found = new ArrayList<>();
        for (String w : words(length)) {
            if (teacher ? tells(w) : hasFrom(0, w)) {
                found.add(w);
            }
        }
        if (i < 0 || i >= found.size()) {
            throw new NoSuchElementException();
        }
        return sign(found.get(i), k);
    }

    int say() {
        Map<Integer, List<String>> lines = new java.util.TreeMap<>();
        for (int[] r : rest()) {
            String right = r[2] == NONE ? "" + (char) ('a' + r[1]) : "" + (char) ('A' + r[1]) + (char) ('A' + r[2]);
            lines.computeIfAbsent(r[0], x -> new ArrayList<>()).add(right);
        }
        speech = "";
        for (int x : lines.keySet()) {
            speech += (char) ('A' + x) + ">" + String.join("|", lines.get(x)) + ";";
        }
        return speech.length();
    }

    int said(int i) {
        return i < 0 || i >= speech.length() ? NONE : speech.charAt(i);
    }

    boolean within(int context, int other) {
        demandContext(context);
        demandContext(other);
        for (String p : parts) {
            if (takesRow(context, p) && !takesRow(other, p)) {
                return false;
            }
            for (String q : parts) {
                if (takesRow(context, p + q) && !takesRow(other, p + q)) {
                    return false;
                }
            }
        }
        return true;
    }

    int trees(int n) {
        String text = take(n);
        if (!isWord(text)) {
            return NONE;
        }
        java.math.BigInteger ways = ways(0, text, new HashMap<>());
        java.math.BigInteger most = java.math.BigInteger.valueOf(1000000000);
        return ways.min(most).intValue();
    }

    private java.math.BigInteger ways(int x, String word, Map<String, java.math.BigInteger> memo) {
        String key = x + word;
        if (memo.containsKey(key)) {
            return memo.get(key);
        }
        java.math.BigInteger sum = java.math.BigInteger.ZERO;
        for (int[] r : rules) {
            if (r[0] != x) {
                continue;
            }
            if (r[2] == NONE) {
                if (word.equals("" + (char) ('a' + r[1]))) {
                    sum = sum.add(java.math.BigInteger.ONE);
                }
                continue;
            }
            for (int m = 1; m < word.length(); m++) {
                if (hasFrom(r[1], word.substring(0, m)) && hasFrom(r[2], word.substring(m))) {
                    sum = sum.add(ways(r[1], word.substring(0, m), memo).multiply(ways(r[2], word.substring(m), memo)));
                }
            }
        }
        memo.put(key, sum);
        return sum;
    }

    int tree(int n) {
        String text = take(n);
        if (!isWord(text) || !hasFrom(0, text)) {
            return NONE;
        }
        nodes = new ArrayList<>();
        grow(0, text, 0);
        return nodes.size();
    }

    private void grow(int x, String row, int start) {
        nodes.add(new int[] {x, start, row.length()});
        if (row.length() > 1) {
            int[] s = splitOf(x, row);
            grow(s[1], row.substring(0, s[0]), start);
            grow(s[2], row.substring(s[0]), start + s[0]);
        }
    }

    int treed(int i, int what) {
        if (i < 0 || i >= nodes.size() || what < 0 || what > 2) {
            throw new NoSuchElementException();
        }
        return nodes.get(i)[what];
    }
}
