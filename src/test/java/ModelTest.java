import java.util.NoSuchElementException;
import java.util.Random;

/** Runs of calls from a written seed, each answer against Model's; every call of the face comes in them. */
public final class ModelTest {
    private static final String[] GRAMMARS = {
        "S>aSb|ab;", "S>a;", "S>a|SS;", "S>aSa|bSb|a|b;", "S>SS|aSb|ab;", "S>AB;A>aA|a;B>bB|b;",
        "S>aSbS|ab|aS;", "S>aAd|b;A>bAc|bc;", "S>T|T a S;T>b|c S d;", "E>EbE|c E d|a;", "S>S;", "S>A;A>S|b;",
        "S>aB;", "S>abcd;", "S>a|b|c|d|SS;", "S>ABAB;A>a|b;B>c|AB;", "S>d|dSd|bS;", "S>aaa|aaaSa;",
        "S>A|B;A>aAb|ab;B>aBbb|abb;", "S>bb|bSb|SaS;", "X>cXc|Y;Y>dYd|Z;Z>Xa|b;", "S>aaaa|SSSS;",
        "S>aabb|abab|baba|bbaa;", "S>Aa|Bb;A>aB|b;B>bA|a;", "S>aSSb|c|cd;", "S>AAAA;A>a|b|c|d;",
        "S>AA;A>BB;B>CC;C>DD;D>a;", "S>aS|bA;A>aA|bS|a;", "S>dScS|aSb|dc|ab;"};

    private final Random random;
    private PhraseLearner real = new PhraseLearner();
    private Model model = new Model();
    private final StringBuilder run = new StringBuilder();
    private static int wrong = 0;
    private static long calls = 0;

    private ModelTest(long seed) {
        random = new Random(seed);
    }

    private interface Call {
        Object by();
    }

    private static String answer(Call call) {
        try {
            return String.valueOf(call.by());
        } catch (IllegalArgumentException | NoSuchElementException e) {
            return "throws." + e.getClass().getName();
        } catch (RuntimeException e) {
            return "BROKEN." + e;
        }
    }

    private String same(String name, Call byReal, Call byModel) {
        String got = answer(byReal);
        String want = answer(byModel);
        calls++;
        run.append(name).append(" = ").append(got).append('\n');
        if (!got.equals(want)) {
            wrong++;
            if (wrong <= 3) {
                System.out.println(run + "  due is " + want);
            }
        }
        return got;
    }

    private void feedText(String text) {
        StringBuilder padded = new StringBuilder(text);
        while (padded.length() % 20 != 0) {
            padded.append(' ');
        }
        for (int i = 0; i < padded.length(); i += 20) {
            int[] n = new int[5];
            for (int j = 0; j < 20; j++) {
                n[j / 4] = n[j / 4] << 8 | padded.charAt(i + j) & 255;
            }
            same("feed " + padded.substring(i, i + 20), () -> real.feed(n[0], n[1], n[2], n[3], n[4]),
                () -> model.feed(n[0], n[1], n[2], n[3], n[4]));
        }
    }

    private String randomRow(int most, String signs) {
        StringBuilder row = new StringBuilder();
        int length = random.nextInt(most + 1);
        for (int i = 0; i < length; i++) {
            row.append(signs.charAt(random.nextInt(signs.length())));
        }
        return row.toString();
    }

    private String randomText() {
        int way = random.nextInt(10);
        if (way < 6) {
            return GRAMMARS[random.nextInt(GRAMMARS.length)];
        }
        if (way < 8) {
            return randomGrammar();
        }
        StringBuilder broken = new StringBuilder(way == 8 ? randomGrammar() : GRAMMARS[random.nextInt(GRAMMARS.length)]);
        String tokens = "ABCDEFGSabcd>|; \nxe~\u00ff\u0000";
        for (int i = random.nextInt(3); i >= 0 && broken.length() > 0; i--) {
            int at = random.nextInt(broken.length());
            char c = tokens.charAt(random.nextInt(tokens.length()));
            if (random.nextBoolean()) {
                broken.insert(at, c);
            } else if (random.nextBoolean()) {
                broken.setCharAt(at, c);
            } else {
                broken.deleteCharAt(at);
            }
        }
        return broken.toString();
    }

    private String randomGrammar() {
        String signs = new String[] {"ab", "abc", "abcd", "bd", "c", "ad"}[random.nextInt(6)];
        String letters = "SABCDEFG".substring(0, 1 + random.nextInt(random.nextInt(6) == 0 ? 8 : 4));
        StringBuilder text = new StringBuilder();
        for (int line = 0; line < letters.length(); line++) {
            text.append(letters.charAt(line)).append('>');
            int bodies = 1 + random.nextInt(random.nextInt(8) == 0 ? 8 : 3);
            for (int b = 0; b < bodies; b++) {
                text.append(b == 0 ? "" : "|");
                int size = 1 + random.nextInt(random.nextInt(20) == 0 ? 5 : 4);
                for (int i = 0; i < size; i++) {
                    String from = random.nextInt(5) < 3 ? signs : letters;
                    text.append(from.charAt(random.nextInt(from.length())));
                }
            }
            text.append(random.nextInt(5) == 0 ? " ;\n" : ";");
        }
        return text.toString();
    }

    private void teachOne() {
        String text = randomText();
        if (text.length() > 400) {
            return;
        }
        feedText(text);
        int n = random.nextInt(12) == 0 ? random.nextInt(text.length() + 2) : text.length();
        same("teach " + n, () -> real.teach(n), () -> model.teach(n));
        same("fault", real::fault, model::fault);
    }

    private int around(int count) {
        return random.nextInt(count + 3) - 1;
    }

    private String signs() {
        StringBuilder found = new StringBuilder();
        for (int i = 0; i < model.count(2); i++) {
            found.append((char) ('a' + model.ofPart(i, 0)));
        }
        return found.length() == 0 || random.nextInt(12) == 0 ? "abcd" : found.toString();
    }

    /** Many PARTS or CONTEXTS at once, so that their bounds are met, too. */
    private void fillCall() {
        boolean ofParts = random.nextBoolean();
        for (int i = 4 + random.nextInt(12); i >= 0; i--) {
            String row = randomRow(random.nextInt(3) == 0 ? 6 : 3, signs());
            feedText(row);
            int left = random.nextInt(row.length() + 1);
            if (ofParts) {
                same("part " + row, () -> real.part(row.length()), () -> model.part(row.length()));
            } else {
                same("context " + row + " " + left, () -> real.context(row.length(), left),
                    () -> model.context(row.length(), left));
            }
        }
    }

    private void wordCall() {
        String row = randomRow(random.nextInt(8) == 0 ? 21 : random.nextInt(3) == 0 ? 12 : 6, signs());
        if (random.nextInt(3) == 0) {
            row = modelWord(row);
        }
        if (random.nextInt(25) == 0) {
            row += (char) random.nextInt(256);
        }
        if (!row.isEmpty() || random.nextInt(4) == 0) {
            feedText(row);
        }
        int n = random.nextInt(20) == 0 ? random.nextInt(25) - 2 : row.length();
        switch (random.nextInt(5)) {
            case 0: same("word " + n, () -> real.word(n), () -> model.word(n)); break;
            case 1: same("part " + n, () -> real.part(n), () -> model.part(n)); break;
            case 2:
                int left = random.nextInt(Math.max(1, n + 1)) + (random.nextInt(15) == 0 ? 1 : 0)
                    - (random.nextInt(15) == 0 ? 1 : 0);
                same("context " + n + " " + left, () -> real.context(n, left), () -> model.context(n, left));
                break;
            case 3: same("trees " + n, () -> real.trees(n), () -> model.trees(n)); break;
            default: treeCall(n);
        }
    }

    /** A WORD that THE LEARNER HAS, if there is one of that length. */
    private String modelWord(String otherwise) {
        int length = 1 + random.nextInt(6);
        int had = model.many(length, 1);
        if (had == 0) {
            return otherwise;
        }
        int i = random.nextInt(had);
        StringBuilder found = new StringBuilder();
        for (int k = 0; k < length; k++) {
            found.append((char) ('a' + model.told(length, false, i, k)));
        }
        return random.nextBoolean() ? found.toString() : found.toString() + found;
    }

    private void treeCall(int n) {
        String nodes = same("tree " + n, () -> real.tree(n), () -> model.tree(n));
        if (nodes.matches("[0-9]+")) {
            for (int i = 0; i <= Integer.parseInt(nodes); i++) {
                for (int what = 0; what < 3; what++) {
                    int j = i;
                    int w = what;
                    same("treed " + i + " " + what, () -> real.treed(j, w), () -> model.treed(j, w));
                }
            }
        }
    }

    private int length() {
        return random.nextInt(10) == 0 ? random.nextInt(10) - 1 : 1 + random.nextInt(random.nextInt(3) > 0 ? 6 : 4);
    }

    private void lessonCall() {
        int length = length();
        int k = random.nextInt(8) - 2;
        same("next " + length + " " + k, () -> real.next(length, k), () -> model.next(length, k));
        if (random.nextInt(3) > 0) {
            same("lesson " + length, () -> real.lesson(length), () -> model.lesson(length));
        } else {
            int most = random.nextInt(8) == 0 ? random.nextInt(24) - 1 : 1 + random.nextInt(4);
            same("learn " + length + " " + most, () -> real.learn(length, most), () -> model.learn(length, most));
        }
        for (int what = -1; what < 18; what++) {
            int w = what;
            same("latest " + what, () -> real.latest(w), () -> model.latest(w));
        }
    }

    private void askCall() {
        int parts = model.count(3);
        int contexts = model.count(4);
        int x = around(contexts);
        int y = around(contexts);
        int p = around(parts);
        int q = around(parts);
        int k = random.nextInt(9) - 2;
        int what = random.nextInt(9) - 1;
        boolean right = random.nextBoolean();
        switch (random.nextInt(10)) {
            case 0: same("ofPart " + p + " " + k, () -> real.ofPart(p, k), () -> model.ofPart(p, k)); break;
            case 1: same("ofContext " + x + right + k, () -> real.ofContext(x, right, k), () -> model.ofContext(x, right, k)); break;
            case 2: same("kind " + x + " " + what, () -> real.kind(x, what), () -> model.kind(x, what)); break;
            case 3: same("takes " + x + " " + p + " " + q, () -> real.takes(x, p, q), () -> model.takes(x, p, q)); break;
            case 4: same("within " + x + " " + y, () -> real.within(x, y), () -> model.within(x, y)); break;
            case 5:
                int r = around(model.count(7) + model.count(8));
                same("rule " + r + " " + what, () -> real.rule(r, what), () -> model.rule(r, what));
                break;
            case 6:
                int i = around(model.count(5));
                same("asked " + i + " " + k, () -> real.asked(i, k), () -> model.asked(i, k));
                break;
            case 7:
                int length = length();
                same("many " + length + " " + (what - 1), () -> real.many(length, what - 1), () -> model.many(length, what - 1));
                break;
            case 8:
                int size = length();
                int j = random.nextInt(random.nextInt(4) == 0 ? 40 : 5) - 1;
                same("told " + size + right + j + " " + k, () -> real.told(size, right, j, k), () -> model.told(size, right, j, k));
                break;
            default:
                int c = random.nextInt(19) - 1;
                same("count " + c, () -> real.count(c), () -> model.count(c));
        }
    }

    private void sayCall() {
        same("say", real::say, model::say);
        int size = model.say();
        for (int i = -1; i <= size; i += 1 + random.nextInt(4)) {
            int j = i;
            same("said " + i, () -> real.said(j), () -> model.said(j));
        }
    }

    /** All that can be asked about the state there is. */
    private void compareAll() {
        for (int what = -1; what < 19; what++) {
            int w = what;
            same("count " + what, () -> real.count(w), () -> model.count(w));
        }
        for (int i = 0; i < model.count(5); i++) {
            for (int k = -3; k < 18; k += 1 + random.nextInt(5)) {
                int j = i;
                int l = k;
                same("asked " + i + " " + k, () -> real.asked(j, l), () -> model.asked(j, l));
            }
        }
        for (int i = 0; i < model.count(3); i++) {
            for (int k = -1; k < 7; k++) {
                int j = i;
                int l = k;
                same("ofPart " + i + " " + k, () -> real.ofPart(j, l), () -> model.ofPart(j, l));
            }
        }
        for (int x = 0; x <= model.count(4); x++) {
            int y = x;
            for (int what = -1; what < 8; what++) {
                int w = what;
                same("kind " + x + " " + what, () -> real.kind(y, w), () -> model.kind(y, w));
                same("ofContext " + x + " left " + what, () -> real.ofContext(y, false, w), () -> model.ofContext(y, false, w));
                same("ofContext " + x + " right " + what, () -> real.ofContext(y, true, w), () -> model.ofContext(y, true, w));
            }
            for (int o = 0; o < model.count(4); o++) {
                int other = o;
                same("within " + x + " " + o, () -> real.within(y, other), () -> model.within(y, other));
            }
        }
        int rules = model.count(7) + model.count(8);
        for (int r = 0; r <= rules; r += rules < 300 ? 1 : 1 + random.nextInt(20)) {
            int s = r;
            for (int what = 0; what < 4; what++) {
                int w = what;
                same("rule " + r + " " + what, () -> real.rule(s, w), () -> model.rule(s, w));
            }
        }
    }

    private void go(int steps) {
        for (int i = 0; i < steps; i++) {
            int way = random.nextInt(100);
            if (way < 2 || i == 1 || model.count(2) == 0 && i % 4 == 0) {
                teachOne();
            } else if (way < 3) {
                same("anew", real::anew, model::anew);
            } else if (way < 35) {
                wordCall();
            } else if (way < 55) {
                lessonCall();
            } else if (way < 90) {
                askCall();
            } else if (way < 94) {
                sayCall();
            } else if (way < 95) {
                feedText(randomRow(60, "abcd S>|;"));
            } else if (way < 96) {
                compareAll();
            } else if (way < 98) {
                fillCall();
            }
        }
        compareAll();
        sayCall();
    }

    public static void main(String[] args) {
        int first = args.length > 0 ? Integer.parseInt(args[0]) : 1;
        int runs = args.length > 1 ? Integer.parseInt(args[1]) : 50;
        for (int seed = first; seed < first + runs; seed++) {
            new ModelTest(seed).go(40 + seed % 3 * 30);
        }
        System.out.println(calls + " calls against the model, " + wrong + " wrong");
        if (wrong != 0) {
            System.exit(1);
        }
    }
}
