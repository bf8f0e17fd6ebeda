/** The edges of promises 1 to 14: the last value that is allowed, the first that is not, empty and full. */
public final class EdgeTests {
    private static final Class<?> ARGUMENT = IllegalArgumentException.class;
    private static final Class<?> INDEX = IndexOutOfBoundsException.class;
    private static final int[] WRONG_NUMBERS = {-1, 10000, Integer.MIN_VALUE, Integer.MAX_VALUE};
    private static final int[] WRONG_KINDS = {-1, 3, Integer.MIN_VALUE, Integer.MAX_VALUE};
    private static final int[] WRONG_COUNTS = {0, 51, -1, Integer.MIN_VALUE, Integer.MAX_VALUE};

    private EdgeTests() {
    }

    public static void main(String[] args) {
        promise1EmptyTape();
        promise1NoDocuments();
        promise1NothingFound();
        promise2LowestBytesFirst();
        promise2Numbers();
        promise2FullTape();
        promise3EmptyAndFull();
        promise4Numbers();
        promise4NoWordsToTwoHundred();
        promise4InPlace();
        promise4Full();
        promise5Numbers();
        promise5SharedWords();
        promise5EmptyAndFull();
        promise5AnyOrder();
        promise6Kinds();
        promise6EmptyAndFull();
        promise7EmptyAndFull();
        promise7Order();
        promise8Kinds();
        promise8FirstWord();
        promise8NoWord();
        promise9Counts();
        promise9FaultFindsNothing();
        promise9FindsAnew();
        promise9ReadsTermsAnew();
        promise10And11Last();
        promise12Counts();
        promise12Documents();
        promise12Weights();
        promise12ManyWords();
        promise12ThisDocumentCountsInRarity();
        promise12FaultAndPlaceStay();
        promise13And14Places();
        Check.end();
    }

    /** The first documents, each with the same text. */
    private static RankedSearch alike(int documents, String text) {
        RankedSearch x = new RankedSearch();
        Check.tape(x, text);
        for (int i = 0; i < documents; i++) {
            x.put(i);
        }
        return x;
    }

    private static void promise1EmptyTape() {
        Check.due("1: no bytes", new RankedSearch().wipe(), 0);
        Check.due("1: the first byte", new RankedSearch().feed(1, 'a'), 1);
        Check.due("1: put of no words", new RankedSearch().put(0), 0);
        Check.due("1: an empty query", new RankedSearch().find(1), 0);
        for (int what = 0; what < 3; what++) {
            Check.due("1: about(" + what + ")", new RankedSearch().about(what), -1);
        }
    }

    private static void promise1NoDocuments() {
        RankedSearch x = new RankedSearch();
        for (int what = 0; what < 3; what++) {
            Check.due("1: told(" + what + ")", x.told(what), 0);
        }
        Check.due("1: word(0)", x.word(0), -1);
        for (int number : new int[] {0, 1, 9999}) {
            Check.due("1: drop(" + number + ")", x.drop(number), false);
            Check.dueThrow("1: similar(" + number + ", 1)", ARGUMENT, () -> x.similar(number, 1));
        }
        Check.due("1: find", Check.find(x, "a b* -c", 50), 0);
        for (int what = 0; what < 3; what++) {
            Check.due("1: about(" + what + ") a", x.about(what), 0);
        }
    }

    private static void promise1NothingFound() {
        RankedSearch x = new RankedSearch();
        for (int i : new int[] {0, -1, 1, 49, 50}) {
            Check.dueThrow("1: hit(" + i + ")", INDEX, () -> x.hit(i));
            Check.dueThrow("1: score(" + i + ")", INDEX, () -> x.score(i));
        }
        Check.due("1: fault", x.fault(), 0);
        Check.due("1: place", x.place(), -1);
    }

    private static void promise2LowestBytesFirst() {
        long letters = 0x6867666564636261L;
        for (int n = 1; n <= 8; n++) {
            RankedSearch x = new RankedSearch();
            Check.due("2: feed(" + n + ")", x.feed(n, letters), n);
            Check.due("2: feed(" + n + ") again", x.feed(n, letters), 2 * n);
            x.put(1);
            String fed = "abcdefgh".substring(0, n);
            String due = (fed + fed).substring(0, Math.min(12, 2 * n));
            Check.due("2: the " + n + " lowest bytes", x.word(0), Check.packed(due));
        }
        RankedSearch y = new RankedSearch();
        Check.due("2: the highest bit", y.feed(8, 0x8061616161616161L), 8);
        y.feed(1, 'b');
        Check.due("2: a letter behind it", y.put(1), 2);
        Check.due("2: is a word", y.word(1), Check.packed("b"));
    }

    private static void promise2Numbers() {
        for (int n : new int[] {0, 9, -1, -8, 256, Integer.MIN_VALUE, Integer.MAX_VALUE}) {
            RankedSearch x = new RankedSearch();
            Check.dueThrow("2: feed(" + n + ")", ARGUMENT, () -> x.feed(n, 0x6161616161616161L));
            Check.due("2: nothing came by feed(" + n + ")", x.wipe(), 0);
        }
    }

    private static void promise2FullTape() {
        RankedSearch x = new RankedSearch();
        for (int i = 1; i <= 50; i++) {
            Check.due("2: feed " + i, x.feed(8, 0x2020202020202020L), 8 * i);
        }
        for (int n = 1; n <= 8; n++) {
            Check.due("2: no room for " + n, x.feed(n, 'a'), -1);
        }
        Check.due("2: no letter came", x.about(0), -1);
        Check.dueThrow("2: nine", ARGUMENT, () -> x.feed(9, 0));
        Check.dueThrow("2: none", ARGUMENT, () -> x.feed(0, 0));
        Check.due("2: wipe", x.wipe(), 400);
        Check.feed(x, Check.repeated(" ", 393));
        Check.due("2: eight where seven have room", x.feed(8, 0), -1);
        Check.due("2: seven where seven have room", x.feed(7, 0), 400);
    }

    private static void promise3EmptyAndFull() {
        for (int length : new int[] {0, 1, 7, 8, 9, 399, 400}) {
            RankedSearch x = new RankedSearch();
            Check.feed(x, Check.repeated("a", length));
            x.put(7);
            Check.find(x, "a*^", 5);
            x.wipe();
            Check.feed(x, Check.repeated("a", length));
            Check.due("3: wipe of " + length, x.wipe(), length);
            Check.due("3: then", x.wipe(), 0);
            Check.due("3: the fault stays", x.fault(), 1);
            Check.due("3: its place stays", x.place(), 3);
            Check.due("3: the document stays", x.told(0), 1);
            Check.due("3: there is room", Check.feed(x, Check.repeated("b", 400)), 400);
        }
    }

    private static void promise4Numbers() {
        for (int number : WRONG_NUMBERS) {
            RankedSearch x = new RankedSearch();
            Check.dueThrow("4: put(" + number + ")", ARGUMENT, () -> x.put(number));
            Check.due("4: no document by put(" + number + ")", x.told(0), 0);
        }
        for (int number : new int[] {0, 1, 9998, 9999}) {
            RankedSearch x = new RankedSearch();
            Check.due("4: put(" + number + ")", Check.put(x, number, "a"), 1);
            x.find(1);
            Check.due("4: found is " + number, x.hit(0), number);
        }
    }

    private static void promise4NoWordsToTwoHundred() {
        for (int words : new int[] {0, 1, 2, 199, 200}) {
            RankedSearch x = new RankedSearch();
            Check.due("4: put of " + words, Check.put(x, 3, Check.repeated("a ", words)), words);
            Check.due("4: a document with " + words, x.told(0), 1);
            Check.due("4: words in all", x.told(2), words);
            Check.due("4: the tape stays", x.wipe(), 2 * words);
        }
    }

    private static void promise4InPlace() {
        RankedSearch x = new RankedSearch();
        Check.put(x, 3, "a b b");
        Check.due("4: with the same words", x.put(3), 3);
        Check.due("4: words", x.told(2), 3);
        Check.tape(x, "b");
        Check.due("4: b together", x.about(2), 2);
        Check.due("4: with fewer", x.put(3), 1);
        Check.due("4: different words", x.told(1), 1);
        Check.due("4: b together then", x.about(2), 1);
        Check.due("4: with none", Check.put(x, 3, ""), 0);
        Check.due("4: no words", x.told(1), 0);
        Check.due("4: but a document", x.told(0), 1);
        Check.due("4: with new ones", Check.put(x, 3, "c b"), 2);
        Check.due("4: the first", x.word(0), Check.packed("b"));
    }

    private static void promise4Full() {
        RankedSearch x = alike(119, "a");
        Check.due("4: 119", x.told(0), 119);
        Check.due("4: the 120th", x.put(9999), 1);
        Check.due("4: the 121st", x.put(119), -1);
        Check.due("4: still 120", x.told(0), 120);
        Check.due("4: it is not there", x.drop(119), false);
        for (int number : new int[] {0, 118, 9999}) {
            Check.due("4: in place of " + number, Check.put(x, number, "a b"), 2);
        }
        for (int number : WRONG_NUMBERS) {
            Check.dueThrow("4: put(" + number + ") when full", ARGUMENT, () -> x.put(number));
        }
        x.drop(5);
        Check.due("4: room for one", x.put(119), 2);
        Check.due("4: and no more", x.put(5), -1);
        Check.due("4: words", x.told(2), 119 - 4 + 2 * 4 + 1);
    }

    private static void promise5Numbers() {
        for (int number : WRONG_NUMBERS) {
            RankedSearch x = alike(2, "a");
            Check.dueThrow("5: drop(" + number + ")", ARGUMENT, () -> x.drop(number));
            Check.due("5: none is gone by drop(" + number + ")", x.told(0), 2);
        }
        for (int number : new int[] {0, 9999}) {
            RankedSearch x = new RankedSearch();
            Check.put(x, 1, "a");
            Check.due("5: drop(" + number + ") before", x.drop(number), false);
            x.put(number);
            Check.due("5: drop(" + number + ")", x.drop(number), true);
            Check.due("5: drop(" + number + ") again", x.drop(number), false);
            Check.due("5: the other stays", x.find(5), 1);
            Check.due("5: it is 1", x.hit(0), 1);
        }
    }

    private static void promise5SharedWords() {
        RankedSearch x = new RankedSearch();
        Check.put(x, 1, "a b");
        Check.put(x, 2, "b b b c");
        Check.put(x, 3, "b b");
        Check.tape(x, "b");
        int[] together = {6, 5, 2, 0};
        int[] holders = {3, 2, 1, 0};
        int[] different = {3, 2, 1, 0};
        for (int gone = 0; gone <= 3; gone++) {
            Check.due("5: who has b, " + gone + " gone", x.about(0), holders[gone]);
            Check.due("5: b together, " + gone + " gone", x.about(2), together[gone]);
            Check.due("5: different words, " + gone + " gone", x.told(1), different[gone]);
            Check.due("5: find, " + gone + " gone", x.find(5), 3 - gone);
            x.drop(gone + 1);
        }
        Check.due("5: no word", x.word(0), -1);
    }

    private static void promise5EmptyAndFull() {
        Check.due("5: of none", new RankedSearch().drop(0), false);
        RankedSearch x = alike(120, "a b");
        for (int i = 119; i >= 0; i--) {
            Check.due("5: drop(" + i + ")", x.drop(i), true);
            Check.due("5: documents", x.told(0), i);
        }
        Check.due("5: words", x.told(2), 0);
        Check.due("5: different words", x.told(1), 0);
        Check.due("5: room again", x.put(9999), 2);
        Check.due("5: different words again", x.told(1), 2);
    }

    /** Documents with the same word go in every order, come again with other words, and go once more. */
    private static void promise5AnyOrder() {
        int[][] orders = {{0, 1, 2, 3}, {3, 2, 1, 0}, {1, 2, 0, 3}, {2, 1, 3, 0}, {0, 3, 1, 2}, {3, 0, 2, 1}};
        for (int[] order : orders) {
            RankedSearch x = alike(4, "a b");
            String left = "0:128 1:128 2:128 3:128";
            for (int number : order) {
                x.drop(number);
                left = left.replace(number + ":128", "").replace("  ", " ").trim();
                Check.find(x, "a", 5);
                Check.due("5: without " + number, Check.found(x).replaceAll(":\\d+", ":128"), left);
            }
            Check.due("5: no words are left", x.told(1), 0);
            for (int number : order) {
                Check.put(x, number, "b c");
            }
            for (int number : order) {
                Check.due("5: drop(" + number + ") again", x.drop(number), true);
            }
            Check.due("5: no words are left again", x.told(1), 0);
            Check.due("5: none is found", Check.find(x, "b c", 5), 0);
        }
    }

    private static void promise6Kinds() {
        for (int what : WRONG_KINDS) {
            Check.dueThrow("6: told(" + what + ") of none", ARGUMENT, () -> new RankedSearch().told(what));
            RankedSearch x = alike(2, "a");
            Check.dueThrow("6: told(" + what + ")", ARGUMENT, () -> x.told(what));
        }
        RankedSearch x = alike(3, "a b b c");
        Check.due("6: documents", x.told(0), 3);
        Check.due("6: different words", x.told(1), 3);
        Check.due("6: words in all", x.told(2), 12);
    }

    private static void promise6EmptyAndFull() {
        RankedSearch x = alike(120, Check.repeated("a ", 200));
        Check.due("6: documents at most", x.told(0), 120);
        Check.due("6: one word", x.told(1), 1);
        Check.due("6: words at most", x.told(2), 24000);
        Check.due("6: all of them together", x.about(2), 24000);
        Check.due("6: all have it", x.about(0), 120);
        RankedSearch y = alike(120, "");
        Check.due("6: documents without words", y.told(0), 120);
        Check.due("6: no different words", y.told(1), 0);
        Check.due("6: no words", y.told(2), 0);
    }

    private static void promise7EmptyAndFull() {
        int[] outside = {-1, Integer.MIN_VALUE, Integer.MAX_VALUE};
        RankedSearch x = new RankedSearch();
        for (int i : outside) {
            Check.due("7: word(" + i + ") of none", x.word(i), -1);
        }
        Check.due("7: word(0) of none", x.word(0), -1);
        Check.put(x, 1, "b");
        Check.due("7: the only one", x.word(0), 2);
        Check.due("7: one behind it", x.word(1), -1);
        x.drop(1);
        Check.due("7: none again", x.word(0), -1);
        StringBuilder text = new StringBuilder();
        for (int i = 132; i >= 0; i--) {
            text.append((char) ('a' + i / 26)).append((char) ('a' + i % 26)).append(' ');
        }
        Check.put(x, 1, text.toString());
        for (int i = 0; i < 133; i++) {
            Check.due("7: word(" + i + ") of 133", x.word(i), 1 + i / 26 + 32 * (1 + i % 26));
        }
        Check.due("7: word(133) of 133", x.word(133), -1);
        for (int i : outside) {
            Check.due("7: word(" + i + ") of 133", x.word(i), -1);
        }
    }

    private static void promise7Order() {
        String[] words = {
            "a", "aa", "aaaaaaaaaaaa", "aaaaaaaaaaab", "aaaaaaaaaab", "ab", "az", "b", "ba", "bazzzzzzzzzz", "bb", "z", "za",
            "zzzzzzzzzzz", "zzzzzzzzzzzz"};
        RankedSearch x = new RankedSearch();
        for (int i = 0; i < words.length; i++) {
            // Seven has no divisor with the number of words: each comes once, in another order.
            Check.put(x, i, words[i * 7 % words.length]);
        }
        for (int i = 0; i < words.length; i++) {
            Check.due("7: " + words[i], x.word(i), Check.packed(words[i]));
        }
        Check.due("7: the first letter lowest", x.word(8), 2 + (1 << 5));
        Check.due("7: twelve letters have 60 bits", x.word(14), (1L << 60) - 1 - 5 * ((1L << 60) - 1) / 31);
    }

    private static void promise8Kinds() {
        RankedSearch x = alike(2, "a a");
        for (int what : WRONG_KINDS) {
            Check.dueThrow("8: about(" + what + ")", ARGUMENT, () -> x.about(what));
            Check.dueThrow("8: about(" + what + ") of an empty tape", ARGUMENT, () -> new RankedSearch().about(what));
        }
        Check.due("8: about(0)", x.about(0), 2);
        Check.due("8: about(1)", x.about(1), 1);
        Check.due("8: about(2)", x.about(2), 4);
    }

    private static void promise8FirstWord() {
        RankedSearch x = new RankedSearch();
        Check.put(x, 1, "a a a");
        Check.put(x, 2, "b");
        Check.put(x, 3, "abcdefghijkl");
        String[] tapes = {"a", "A", " a", "a b", "12a", "a1b", ",.a b", "a*", "+a^9", "\u00e9a", "a\u0000"};
        for (String tape : tapes) {
            Check.tape(x, tape);
            Check.due("8: a is first in <" + tape + ">", x.about(2), 3);
        }
        Check.tape(x, "b a");
        Check.due("8: b is first", x.about(2), 1);
        Check.tape(x, "abcdefghijklm");
        Check.due("8: the first 12 letters", x.about(2), 1);
        Check.tape(x, "abcdefghijk");
        Check.due("8: not 11", x.about(2), 0);
        Check.tape(x, Check.repeated(" ", 399) + "a");
        Check.due("8: the last byte", x.about(2), 3);
        for (int what = 0; what < 3; what++) {
            Check.tape(x, "c a");
            Check.due("8: none has it, about(" + what + ")", x.about(what), 0);
        }
    }

    private static void promise8NoWord() {
        RankedSearch x = alike(1, "a");
        for (String tape : new String[] {"", " ", "1", "@[`{", "\u00e1\u00ff", Check.repeated("*", 400)}) {
            Check.tape(x, tape);
            for (int what = 0; what < 3; what++) {
                Check.due("8: no word in <" + tape + ">", x.about(what), -1);
            }
        }
        Check.due("8: the tape stays", x.wipe(), 400);
    }

    private static void promise9Counts() {
        for (int k : WRONG_COUNTS) {
            Check.dueThrow("9: find(" + k + ") of none", ARGUMENT, () -> new RankedSearch().find(k));
        }
        for (int documents : new int[] {0, 1, 2, 49, 50, 51, 120}) {
            RankedSearch x = alike(documents, "a");
            for (int k : new int[] {1, 2, 49, 50}) {
                int due = Math.min(k, documents);
                Check.due("9: find(" + k + ") of " + documents, x.find(k), due);
                Check.dueThrow("9: one more than " + due, INDEX, () -> x.hit(due));
                if (due > 0) {
                    Check.due("9: the last of " + due, x.hit(due - 1), due - 1);
                }
            }
            for (int k : WRONG_COUNTS) {
                Check.dueThrow("9: find(" + k + ") of " + documents, ARGUMENT, () -> x.find(k));
            }
            Check.due("9: what was found stays", Check.thrown(() -> x.hit(49)).equals("nothing"), documents >= 50);
        }
    }

    private static void promise9FaultFindsNothing() {
        String[] queries = {"+", "abcdefghijklm", Check.repeated("a ", 17)};
        for (int kind = 0; kind < queries.length; kind++) {
            RankedSearch x = alike(3, "a");
            x.find(5);
            Check.due("9: find of <" + queries[kind] + ">", Check.find(x, queries[kind], 5), -1);
            Check.dueThrow("9: no hit", INDEX, () -> x.hit(0));
            Check.dueThrow("9: no score", INDEX, () -> x.score(0));
            Check.due("10: the fault", x.fault(), 1 + kind);
            Check.due("9: again", x.find(1), -1);
            Check.due("9: the tape stays", x.wipe(), queries[kind].length());
            Check.due("9: a right one", Check.find(x, "a", 5), 3);
            Check.due("9: is found", Check.found(x), "0:128 1:128 2:128");
            RankedSearch y = alike(3, "a");
            y.find(5);
            Check.due("9: the documents stay", Look.whole(x, "a*", "-a"), Look.whole(y, "a*", "-a"));
        }
    }

    private static void promise9FindsAnew() {
        RankedSearch x = alike(60, "a");
        Check.due("9: fifty", x.find(50), 50);
        Check.due("9: then one", x.find(1), 1);
        Check.dueThrow("9: the second is gone", INDEX, () -> x.hit(1));
        Check.due("9: then fifty", x.find(50), 50);
        Check.due("9: then none", Check.find(x, "b", 50), 0);
        Check.dueThrow("9: the first is gone", INDEX, () -> x.hit(0));
        Check.due("9: the tape is the query of then", Check.find(x, "a", 2), 2);
        Check.feed(x, "a");
        Check.due("9: it goes on behind it", x.find(2), 0);
    }

    /** Nothing of a query counts in the next one: not its signs, its stars, its weights, its words. */
    private static void promise9ReadsTermsAnew() {
        RankedSearch x = new RankedSearch();
        Check.put(x, 1, "a b");
        Check.put(x, 2, "ab");
        Check.put(x, 3, "b");
        String[] before = {"+ab*^9 +b", "-a -b", "a* a*", "abcdefghijkl", "+c", "a^8", "+a* -b^2 c", "-a^", "+b -*"};
        for (String query : before) {
            Check.find(x, query, 5);
            Check.find(x, "a b", 5);
            Check.due("9: a b after " + query, Check.found(x), "1:384 3:128");
            Check.find(x, query, 5);
            x.similar(3, 5);
            Check.due("12: like 3 after " + query, Check.found(x), "1:128");
            Check.find(x, query, 5);
            Check.due("9: nothing after " + query, Check.find(x, "", 5), 0);
        }
    }

    private static void promise10And11Last() {
        RankedSearch x = alike(1, "a");
        String[] queries = {"a", "!", "a", "abcdefghijklm", "", "a " + Check.repeated("b ", 16), "+", "a*"};
        int[] faults = {0, 1, 0, 2, 0, 3, 1, 0};
        int[] places = {-1, 0, -1, 12, -1, 32, 1, -1};
        for (int i = 0; i < queries.length; i++) {
            Check.find(x, queries[i], 5);
            Check.due("10: of <" + queries[i] + ">", x.fault(), faults[i]);
            Check.due("11: of <" + queries[i] + ">", x.place(), places[i]);
            Check.due("10: again", x.fault(), faults[i]);
            Check.tape(x, "+ other");
            x.put(1);
            x.drop(1);
            x.about(0);
            Check.dueThrow("9: k = 0", ARGUMENT, () -> x.find(0));
            Check.dueThrow("9: k = 51", ARGUMENT, () -> x.find(51));
            Check.due("10: until the next find", x.fault(), faults[i]);
            Check.due("11: until the next find", x.place(), places[i]);
        }
    }

    private static void promise12Counts() {
        for (int documents : new int[] {1, 2, 3, 50, 51, 52, 120}) {
            RankedSearch x = alike(documents, "a");
            for (int k : new int[] {1, 2, 49, 50}) {
                int due = Math.min(k, documents - 1);
                Check.due("12: similar(0, " + k + ") of " + documents, x.similar(0, k), due);
                Check.dueThrow("12: one more than " + due, INDEX, () -> x.hit(due));
                if (due > 0) {
                    Check.due("12: the first", x.hit(0), 1);
                    Check.due("12: the last of " + due, x.hit(due - 1), due);
                }
            }
            for (int k : WRONG_COUNTS) {
                Check.dueThrow("12: similar(0, " + k + ") of " + documents, ARGUMENT, () -> x.similar(0, k));
            }
        }
    }

    private static void promise12Documents() {
        RankedSearch x = alike(3, "a");
        Check.put(x, 9999, "a b");
        x.drop(1);
        for (int number : new int[] {1, 3, 9998, -1, 10000, Integer.MIN_VALUE, Integer.MAX_VALUE}) {
            Check.dueThrow("12: similar(" + number + ", 5)", ARGUMENT, () -> x.similar(number, 5));
            Check.dueThrow("12: similar(" + number + ", 0)", ARGUMENT, () -> x.similar(number, 0));
        }
        x.similar(0, 5);
        Check.due("12: like the least number", Check.found(x), "2:128 9999:128");
        x.similar(9999, 5);
        Check.due("12: like the greatest", Check.found(x), "0:128 2:128");
        x.similar(2, 5);
        Check.due("12: like one in between", Check.found(x), "0:128 9999:128");
        Check.put(x, 4, "");
        Check.due("12: like one without words", x.similar(4, 5), 0);
        Check.dueThrow("12: what was found is gone", INDEX, () -> x.hit(0));
        Check.put(x, 5, "alone");
        x.similar(0, 5);
        Check.due("12: like one that is alone", x.similar(5, 5), 0);
        Check.dueThrow("12: what was found is gone then", INDEX, () -> x.hit(0));
    }

    private static void promise12Weights() {
        int[] times = {1, 2, 8, 9, 10, 200};
        int[] weights = {1, 2, 8, 9, 9, 9};
        for (int i = 0; i < times.length; i++) {
            RankedSearch x = new RankedSearch();
            Check.put(x, 1, Check.repeated("a ", times[i]));
            Check.put(x, 2, "a");
            Check.due("12: " + times[i] + " times", x.similar(1, 5), 1);
            Check.due("12: the weight is " + weights[i], x.score(0), weights[i] * 128);
            x.similar(2, 5);
            Check.due("12: the other way", x.score(0), 256 * times[i] / (times[i] + 1 + times[i] / 8));
        }
        RankedSearch y = new RankedSearch();
        Check.put(y, 1, "a b b");
        Check.put(y, 2, "a");
        Check.put(y, 3, "b");
        Check.put(y, 4, "a b");
        y.similar(1, 5);
        // a and b are in three of four: rarity 1.
        Check.due("12: each word its weight", Check.found(y), "4:384 3:256 2:128");
    }

    /** As many terms as it has different words, far more than the 16 of a query. */
    private static void promise12ManyWords() {
        for (int words : new int[] {16, 17, 133}) {
            StringBuilder text = new StringBuilder();
            for (int i = 0; i < words; i++) {
                text.append((char) ('a' + i / 26)).append((char) ('a' + i % 26)).append(' ');
            }
            RankedSearch x = new RankedSearch();
            Check.due("12: put of " + words, Check.put(x, 9, text.toString()), words);
            x.put(0);
            Check.put(x, 1, text.substring(0, 2));
            Check.put(x, 2, text.substring(3 * words - 3));
            Check.due("12: like " + words + " words", x.similar(9, 5), 3);
            // Four documents; the first and the last word are in three of them, the others in two.
            int impact = 256 / (2 + words / 8);
            Check.due("12: all words count", Check.found(x), "0:" + (2 + 2 * (words - 2)) * impact + " 1:128 2:128");
        }
    }

    private static void promise12ThisDocumentCountsInRarity() {
        RankedSearch x = new RankedSearch();
        Check.put(x, 1, "a");
        Check.put(x, 2, "a");
        Check.put(x, 3, "b");
        Check.put(x, 4, "c");
        // 4 by 2 has two digits; if document 1 did not count among all, 3 by 2 would have one.
        x.similar(1, 5);
        Check.due("12: four by two", Check.found(x), "2:256");
        x.drop(4);
        // 3 by 2 has one digit; if it did not count among those that have it, 2 or 3 by 1 would have two.
        x.similar(1, 5);
        Check.due("12: three by two", Check.found(x), "2:128");
        Check.find(x, "a", 5);
        Check.due("12: find finds this document, too", Check.found(x), "1:128 2:128");
    }

    private static void promise12FaultAndPlaceStay() {
        RankedSearch x = alike(3, "a");
        Check.tape(x, "a abcdefghijklm");
        Check.due("12: after a find without a fault", x.similar(0, 5), 2);
        Check.due("10: none before a find", x.fault(), 0);
        Check.due("11: none before a find", x.place(), -1);
        x.find(5);
        Check.due("12: after a fault", x.similar(0, 5), 2);
        Check.due("12: is found", Check.found(x), "1:128 2:128");
        Check.due("10: it stays", x.fault(), 2);
        Check.due("11: it stays", x.place(), 14);
        Check.dueThrow("12: no such document", ARGUMENT, () -> x.similar(3, 5));
        Check.due("12: what was found stays", Check.found(x), "1:128 2:128");
        Check.due("10: it stays then", x.fault(), 2);
        Check.due("12: the tape stays", x.wipe(), 15);
    }

    private static void promise13And14Places() {
        for (int documents : new int[] {0, 1, 2, 50, 51}) {
            RankedSearch x = alike(documents, "a");
            int count = x.find(50);
            for (int i = 0; i < count; i++) {
                Check.due("13: hit(" + i + ") of " + count, x.hit(i), i);
                Check.due("14: score(" + i + ") of " + count, x.score(i), 128);
            }
            for (int i : new int[] {count, count + 1, 50, 51, 120, -1, -50, Integer.MIN_VALUE, Integer.MAX_VALUE}) {
                Check.dueThrow("13: hit(" + i + ") of " + count, INDEX, () -> x.hit(i));
                Check.dueThrow("14: score(" + i + ") of " + count, INDEX, () -> x.score(i));
            }
        }
    }
}
