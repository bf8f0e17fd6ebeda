/**
 * "a call that throws, or answers NONE, changes nothing (but for find())": in each state
 * each such call, and then the object looks like a twin that never saw the call.
 */
public final class RefusedTests {
    private static final String ARGUMENT = "IllegalArgumentException";
    private static final String INDEX = "IndexOutOfBoundsException";
    private static final String NOTHING = "nothing";
    private static final int[] FAR_OUT = {Integer.MIN_VALUE, Integer.MAX_VALUE};

    private final String name;
    private final State state;

    private interface State {
        RankedSearch make();
    }

    private interface Asked {
        long answer(RankedSearch x);
    }

    private RefusedTests(String itsName, State itsState) {
        name = itsName;
        state = itsState;
    }

    public static void main(String[] args) {
        new RefusedTests("a new object", RankedSearch::new).always();
        RefusedTests few = new RefusedTests("a few documents", RefusedTests::few);
        few.always();
        few.throwing("similar to one that is gone", x -> x.similar(4, 5), ARGUMENT);
        few.throwing("hit(2)", x -> x.hit(2), INDEX);
        few.throwing("score(2)", x -> x.score(2), INDEX);
        few.refusing("drop of one that is gone", x -> x.drop(4) ? 1 : RankedSearch.NONE);
        few.refusing("word(4)", x -> x.word(4));
        RefusedTests faulty = new RefusedTests("a fault", RefusedTests::faulty);
        faulty.always();
        faulty.throwing("hit(0)", x -> x.hit(0), INDEX);
        faulty.throwing("score(0)", x -> x.score(0), INDEX);
        RefusedTests fullTape = new RefusedTests("a full tape", RefusedTests::fullTape);
        fullTape.always();
        for (int n = 1; n <= 8; n++) {
            int bytes = n;
            fullTape.refusing("feed(" + n + ")", x -> x.feed(bytes, 0x6464646464646464L));
        }
        RefusedTests nearlyFull = new RefusedTests("a tape with room for three", RefusedTests::nearlyFullTape);
        nearlyFull.refusing("feed(4)", x -> x.feed(4, 0x64646464));
        nearlyFull.refusing("feed(8)", x -> x.feed(8, 0x6464646464646464L));
        RefusedTests fullLibrary = new RefusedTests("120 documents", RefusedTests::fullLibrary);
        fullLibrary.always();
        fullLibrary.refusing("put of a 121st", x -> x.put(5000));
        fullLibrary.refusing("put of another 121st", x -> x.put(0));
        fullLibrary.refusing("put of the greatest number", x -> x.put(9999));
        RefusedTests noWord = new RefusedTests("a tape without a word", RefusedTests::noWord);
        noWord.always();
        noWord.refusing("about(0)", x -> x.about(0));
        noWord.refusing("about(1)", x -> x.about(1));
        noWord.refusing("about(2)", x -> x.about(2));
        Check.end();
    }

    /** What is refused in every state. */
    private void always() {
        for (int n : new int[] {-1, 0, 9}) {
            throwing("feed(" + n + ")", x -> x.feed(n, 0x6464646464646464L), ARGUMENT);
        }
        for (int number : new int[] {-1, 10000}) {
            throwing("put(" + number + ")", x -> x.put(number), ARGUMENT);
            throwing("drop(" + number + ")", x -> x.drop(number) ? 1 : 0, ARGUMENT);
            throwing("similar(" + number + ", 5)", x -> x.similar(number, 5), ARGUMENT);
        }
        throwing("similar(9998, 5)", x -> x.similar(9998, 5), ARGUMENT);
        refusing("drop(9998)", x -> x.drop(9998) ? 1 : RankedSearch.NONE);
        for (int k : new int[] {-1, 0, 51}) {
            throwing("find(" + k + ")", x -> x.find(k), ARGUMENT);
            throwing("similar(1, " + k + ")", x -> x.similar(1, k), ARGUMENT);
        }
        for (int what : new int[] {-1, 3}) {
            throwing("told(" + what + ")", x -> x.told(what), ARGUMENT);
            throwing("about(" + what + ")", x -> x.about(what), ARGUMENT);
        }
        for (int i : new int[] {-1, 50}) {
            throwing("hit(" + i + ")", x -> x.hit(i), INDEX);
            throwing("score(" + i + ")", x -> x.score(i), INDEX);
        }
        refusing("word(-1)", x -> x.word(-1));
        refusing("word(300)", x -> x.word(300));
        for (int far : FAR_OUT) {
            farOut(far);
        }
    }

    private void farOut(int far) {
        throwing("feed(" + far + ")", x -> x.feed(far, 0), ARGUMENT);
        throwing("put(" + far + ")", x -> x.put(far), ARGUMENT);
        throwing("drop(" + far + ")", x -> x.drop(far) ? 1 : 0, ARGUMENT);
        throwing("told(" + far + ")", x -> x.told(far), ARGUMENT);
        throwing("about(" + far + ")", x -> x.about(far), ARGUMENT);
        throwing("find(" + far + ")", x -> x.find(far), ARGUMENT);
        throwing("similar(1, " + far + ")", x -> x.similar(1, far), ARGUMENT);
        throwing("similar(" + far + ", 5)", x -> x.similar(far, 5), ARGUMENT);
        throwing("hit(" + far + ")", x -> x.hit(far), INDEX);
        throwing("score(" + far + ")", x -> x.score(far), INDEX);
        refusing("word(" + far + ")", x -> x.word(far));
    }

    private void throwing(String call, Asked asked, String exception) {
        RankedSearch x = state.make();
        Check.due(call + " with " + name + " throws", Check.thrown(() -> asked.answer(x)), exception);
        leavesAlone(call, asked);
    }

    private void refusing(String call, Asked asked) {
        RankedSearch x = state.make();
        Check.due(call + " with " + name + " throws", Check.thrown(() -> asked.answer(x)), NOTHING);
        Check.due(call + " with " + name, asked.answer(x), RankedSearch.NONE);
        leavesAlone(call, asked);
    }

    private void leavesAlone(String call, Asked asked) {
        String[] queries = {"sun*", "+moon sun^3", "star", "d*"};
        RankedSearch x = state.make();
        Check.thrown(() -> asked.answer(x));
        String seen = Look.whole(x, queries);
        Check.due(call + " with " + name + " leaves all as it was", seen, Look.whole(state.make(), queries));
        RankedSearch y = state.make();
        Check.thrown(() -> asked.answer(y));
        Check.due(call + " with " + name + " leaves the tape as it was", Look.tape(y), Look.tape(state.make()));
    }

    /** Three documents, two of them found; the tape is a query. */
    private static RankedSearch few() {
        RankedSearch x = new RankedSearch();
        Check.put(x, 1, "sun sun moon");
        Check.put(x, 2, "sun star");
        Check.put(x, 4, "gone");
        Check.put(x, 3, "moons 12");
        x.drop(4);
        Check.find(x, "sun moon^2", 5);
        return x;
    }

    private static RankedSearch faulty() {
        RankedSearch x = few();
        Check.find(x, "sun abcdefghijklm", 5);
        return x;
    }

    private static RankedSearch noWord() {
        RankedSearch x = few();
        Check.tape(x, "12 *");
        return x;
    }

    private static RankedSearch nearlyFullTape() {
        RankedSearch x = few();
        Check.tape(x, "star " + Check.repeated(" ", 392));
        return x;
    }

    private static RankedSearch fullTape() {
        RankedSearch x = few();
        Check.tape(x, "moon sun" + Check.repeated(" star", 78) + "  ");
        return x;
    }

    private static RankedSearch fullLibrary() {
        RankedSearch x = few();
        Check.tape(x, "sun moon");
        for (int i = 4; i <= 120; i++) {
            x.put(i);
        }
        x.find(4);
        return x;
    }
}
