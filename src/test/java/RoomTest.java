import com.sun.management.ThreadMXBean;
import java.lang.management.ManagementFactory;

/** All calls of a run live in one room: what an object makes, it makes once, and calls make next to nothing. */
public final class RoomTest {
    private static final long FEW = 400000;
    private static final ThreadMXBean THREADS = (ThreadMXBean) ManagementFactory.getThreadMXBean();

    private RoomTest() {
    }

    private static long made() {
        return THREADS.getThreadAllocatedBytes(Thread.currentThread().getId());
    }

    private static void feed(PhraseLearner x, int word) {
        x.feed(word, word, word, word, word);
    }

    private static int round(PhraseLearner x, int word) {
        int sum = x.anew();
        sum += x.learn(6, 20);
        sum += x.many(6, 1) + x.next(6, -1) + x.say();
        feed(x, word);
        sum += x.trees(20);
        feed(x, word);
        sum += x.tree(20);
        feed(x, word);
        sum += x.word(20);
        return sum;
    }

    public static void main(String[] args) {
        String text = "S>aSbS|a|cSd|Sb|SS|dSc;";
        PhraseLearner warm = new PhraseLearner();
        Check.teach(warm, text);
        round(warm, 0x61616161);
        long before = made();
        long start = System.nanoTime();
        PhraseLearner x = new PhraseLearner();
        long byNew = made() - before;
        Check.feed(x, text);
        x.teach(text.length());
        round(x, 0x61616161);
        long first = made();
        for (int i = 0; i < 40; i++) {
            round(x, 0x61616161);
        }
        long byRounds = made() - first;
        long all = made() - before;
        System.out.println("bytes made: new object " + byNew + ", with a first round " + (all - byRounds)
            + ", 40 more rounds " + byRounds + "; " + (System.nanoTime() - start) / 1000000 + " ms");
        Check.due("a new object", true, () -> byNew < FEW);
        Check.due("all", true, () -> all < 2 * FEW);
        Check.due("later rounds", true, () -> byRounds < FEW / 4);
        Check.end("room");
    }
}
