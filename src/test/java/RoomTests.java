import java.lang.management.ManagementFactory;

/**
 * The dearest runs of 512 calls stay far below the room that all calls of a run live in:
 * 7.3 million fields and elements, so some 29 million bytes at least. The limit here is so
 * low that what put and drop set free has to be used again.
 */
public final class RoomTests {
    private static final long MOST_BYTES = 1_500_000;
    private static final int CALLS = 512;

    private RoomTests() {
    }

    private interface Step {
        void call(RankedSearch x, int i);
    }

    public static void main(String[] args) {
        String words = manyWords();
        run("documents in place of one another", words, (x, i) -> x.put(3));
        run("documents come and go", words, (x, i) -> comeAndGo(x, i));
        run("as many documents as there is room for", words, (x, i) -> x.put(i));
        run("finds", Check.repeated("a* ", 16), (x, i) -> x.find(50));
        run("similar ones", words, (x, i) -> likeOthers(x, i));
        run("other words each time", "", (x, i) -> otherWords(x, i));
        Check.end();
    }

    private static void comeAndGo(RankedSearch x, int i) {
        if (i % 2 == 0) {
            x.put(i);
        } else {
            x.drop(i - 1);
        }
    }

    private static void likeOthers(RankedSearch x, int i) {
        if (i < 120) {
            x.put(i);
        } else {
            x.similar(i % 120, 50);
        }
    }

    private static void otherWords(RankedSearch x, int i) {
        int turn = i / 3;
        switch (i % 3) {
            case 0 -> x.wipe();
            case 1 -> x.feed(8, 0x6120622061612061L + turn % 20 + (long) (turn / 20) << 16);
            default -> x.put(turn % 120);
        }
    }

    /** As many different words as a tape can have. */
    private static String manyWords() {
        StringBuilder text = new StringBuilder();
        for (char a = 'a'; a <= 'z'; a++) {
            text.append(a).append(' ');
        }
        for (int i = 0; text.length() + 3 <= 400; i++) {
            text.append((char) ('a' + i / 26)).append((char) ('a' + i % 26)).append(' ');
        }
        return text.toString();
    }

    private static void run(String what, String tape, Step step) {
        com.sun.management.ThreadMXBean threads =
            (com.sun.management.ThreadMXBean) ManagementFactory.getThreadMXBean();
        long before = threads.getCurrentThreadAllocatedBytes();
        RankedSearch x = new RankedSearch();
        Check.feed(x, tape);
        for (int i = (tape.length() + 7) / 8; i < CALLS; i++) {
            step.call(x, i - (tape.length() + 7) / 8);
        }
        long bytes = threads.getCurrentThreadAllocatedBytes() - before;
        System.out.println(what + ": " + bytes + " bytes");
        Check.due(what + " keeps to the room", bytes < MOST_BYTES, true);
    }
}
