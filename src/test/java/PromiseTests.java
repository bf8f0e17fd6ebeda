/** Each promise of the document: ordinary inputs, the edges that it names, wrong inputs. */
public final class PromiseTests {
    private static final Class<?> ARGUMENT = IllegalArgumentException.class;
    private static final Class<?> INDEX = IndexOutOfBoundsException.class;
    private static final int[] FAR_OUT = {Integer.MIN_VALUE, Integer.MAX_VALUE};

    private PromiseTests() {
    }

    public static void main(String[] args) {
        promise1NewObject();
        promise2Feed();
        promise2FeedRefused();
        promise3Wipe();
        promise4Put();
        promise4PutInPlace();
        promise4PutRefused();
        promise5Drop();
        promise6Told();
        promise7Word();
        promise7WordsAndLetters();
        promise8About();
        promise8Rarity();
        promise9FindScores();
        promise9FindSigns();
        promise9FindBeginnings();
        promise9FindBest();
        promise9FindWrong();
        promise9FindAllTerms();
        promise10And11Faults();
        promise10And11FaultsOfSeventeenthTerm();
        promise10And11FaultsStay();
        promise12Similar();
        promise12SimilarEdges();
        promise13And14HitAndScore();
        Check.end();
    }

    private static void promise1NewObject() {
        RankedSearch x = new RankedSearch();
        Check.due("1: NONE", RankedSearch.NONE, -1);
        Check.due("1: fault", x.fault(), 0);
        Check.due("1: place", x.place(), -1);
        Check.due("1: documents", x.told(0), 0);
        Check.due("1: different words", x.told(1), 0);
        Check.due("1: words", x.told(2), 0);
        Check.due("1: word 0", x.word(0), -1);
        Check.due("1: about", x.about(0), -1);
        Check.dueThrow("1: hit(0)", INDEX, () -> x.hit(0));
        Check.dueThrow("1: score(0)", INDEX, () -> x.score(0));
        Check.due("1: find", x.find(50), 0);
        Check.due("1: wipe", x.wipe(), 0);
        Check.due("1: drop", x.drop(0), false);
        Check.put(x, 1, "one two");
        Check.find(x, "-", 1);
        RankedSearch y = new RankedSearch();
        Check.due("1: another's documents", y.told(0), 0);
        Check.due("1: another's tape", y.wipe(), 0);
        Check.due("1: another's fault", y.fault(), 0);
    }

    private static void promise2Feed() {
        RankedSearch x = new RankedSearch();
        Check.due("2: one byte", x.feed(1, 'b'), 1);
        Check.due("2: two bytes", x.feed(2, 'a' | ' ' << 8), 3);
        Check.due("2: higher bytes do not count", x.feed(1, 'c' | 'x' << 8), 4);
        Check.due("2: put", x.put(0), 2);
        Check.due("2: the lowest byte first", x.word(0), Check.packed("ba"));
        Check.due("2: only the n lowest", x.word(1), Check.packed("c"));
        Check.due("2: eight bytes", x.feed(8, 0x6867666564636261L), 12);
        Check.due("2: put again", x.put(0), 2);
        Check.due("2: behind the tape", x.word(1), Check.packed("cabcdefgh"));
        Check.due("2: a byte above 127", x.feed(1, -1L), 13);
        Check.feed(x, "z");
        Check.due("2: parts words", x.put(0), 3);
    }

    private static void promise2FeedRefused() {
        RankedSearch x = new RankedSearch();
        for (int n : new int[] {0, -1, 9, Integer.MIN_VALUE, Integer.MAX_VALUE}) {
            Check.dueThrow("2: n = " + n, ARGUMENT, () -> x.feed(n, 0));
        }
        Check.feed(x, Check.repeated("ab ", 131));
        Check.due("2: 394 bytes and 6", x.feed(6, 0x636363636363L), 399);
        Check.due("2: two more", x.feed(2, 'd'), -1);
        Check.due("2: eight more", x.feed(8, 'd'), -1);
        Check.dueThrow("2: wrong n comes before a full tape", ARGUMENT, () -> x.feed(9, 0));
        Check.due("2: the 400th", x.feed(1, 'd'), 400);
        Check.due("2: the 401st", x.feed(1, 'e'), -1);
        Check.due("2: put", x.put(0), 132);
        Check.due("2: nothing came of those refused", x.word(1), Check.packed("ccccccd"));
        Check.due("2: it still has 400", x.wipe(), 400);
        Check.due("2: and room again", x.feed(8, 0), 8);
    }

    private static void promise3Wipe() {
        RankedSearch x = new RankedSearch();
        Check.due("3: an empty one", x.wipe(), 0);
        Check.feed(x, "one two three");
        x.put(3);
        Check.due("3: thirteen", x.wipe(), 13);
        Check.due("3: empty then", x.wipe(), 0);
        Check.due("3: no word", x.about(0), -1);
        Check.due("3: the documents stay", x.told(2), 3);
        Check.find(x, "two", 9);
        String found = Check.found(x);
        Check.due("3: wipe", x.wipe(), 3);
        Check.due("3: what was found stays", Check.found(x), found);
        Check.due("3: feed starts anew", Check.feed(x, "four"), 4);
        Check.due("3: put", x.put(4), 1);
    }

    private static void promise4Put() {
        RankedSearch x = new RankedSearch();
        Check.due("4: words, not different words", Check.put(x, 0, "a b a, A-B"), 5);
        Check.due("4: no words", Check.put(x, 9999, "12 .. 34"), 0);
        Check.due("4: an empty tape", Check.put(x, 5, ""), 0);
        Check.due("4: documents", x.told(0), 3);
        Check.due("4: 200 words", Check.put(x, 7, Check.repeated("x ", 200)), 200);
        Check.due("4: the tape stays", x.wipe(), 400);
        Check.due("4: one long word", Check.put(x, 8, Check.repeated("x", 400)), 1);
        Check.due("4: letters of both cases", Check.put(x, 9, "AbC aBc"), 2);
        Check.due("4: different words", x.told(1), 5);
    }

    private static void promise4PutInPlace() {
        RankedSearch x = new RankedSearch();
        Check.put(x, 1, "old old word");
        Check.put(x, 2, "old other");
        Check.due("4: the other words", Check.put(x, 1, "new word"), 2);
        Check.due("4: documents", x.told(0), 2);
        Check.due("4: words", x.told(2), 4);
        Check.due("4: different words", x.told(1), 4);
        Check.due("4: find old", Check.find(x, "old", 5), 1);
        Check.due("4: only the other", x.hit(0), 2);
        Check.due("4: find new", Check.find(x, "new", 5), 1);
        Check.put(x, 1, "");
        Check.due("4: words gone", x.told(2), 2);
        Check.due("4: word gone", x.word(2), -1);
        Check.tape(x, "old");
        Check.due("4: together", x.about(2), 1);
    }

    private static void promise4PutRefused() {
        RankedSearch x = new RankedSearch();
        for (int number : new int[] {-1, 10000, Integer.MIN_VALUE, Integer.MAX_VALUE}) {
            Check.dueThrow("4: number " + number, ARGUMENT, () -> x.put(number));
        }
        Check.tape(x, "same");
        for (int i = 0; i < 120; i++) {
            Check.due("4: document " + i, x.put(i * 80), 1);
        }
        Check.tape(x, "else here");
        Check.due("4: the 121st", x.put(1), -1);
        Check.due("4: documents", x.told(0), 120);
        Check.due("4: words", x.told(2), 120);
        Check.due("4: different words", x.told(1), 1);
        Check.dueThrow("4: wrong number comes before no room", ARGUMENT, () -> x.put(10000));
        Check.due("4: in place of another there is room", x.put(80), 2);
        Check.due("4: words then", x.told(2), 121);
        Check.due("4: drop", x.drop(0), true);
        Check.due("4: room again", x.put(1), 2);
        Check.due("4: documents then", x.told(0), 120);
    }

    private static void promise5Drop() {
        RankedSearch x = new RankedSearch();
        for (int number : new int[] {-1, 10000, Integer.MIN_VALUE, Integer.MAX_VALUE}) {
            Check.dueThrow("5: number " + number, ARGUMENT, () -> x.drop(number));
        }
        Check.put(x, 0, "one two two");
        Check.put(x, 9999, "two three");
        Check.put(x, 4, "");
        Check.due("5: not there", x.drop(1), false);
        Check.find(x, "two", 9);
        String found = Check.found(x);
        Check.due("5: there", x.drop(0), true);
        Check.due("5: what was found stays", Check.found(x), found);
        Check.due("5: documents", x.told(0), 2);
        Check.due("5: different words", x.told(1), 2);
        Check.due("5: words", x.told(2), 2);
        Check.due("5: the first word", x.word(0), Check.packed("three"));
        Check.due("5: not there any more", x.drop(0), false);
        Check.due("5: an empty one", x.drop(4), true);
        Check.due("5: the last one", x.drop(9999), true);
        Check.due("5: no documents", x.told(0), 0);
        Check.due("5: no words", x.told(1), 0);
        Check.due("5: put again", Check.put(x, 0, "six"), 1);
        Check.due("5: the word", x.word(0), Check.packed("six"));
    }

    private static void promise6Told() {
        RankedSearch x = new RankedSearch();
        for (int what : new int[] {-1, 3, Integer.MIN_VALUE, Integer.MAX_VALUE}) {
            Check.dueThrow("6: what = " + what, ARGUMENT, () -> x.told(what));
        }
        Check.put(x, 1, "a b c a");
        Check.put(x, 2, "b c d");
        Check.put(x, 3, "");
        Check.due("6: documents", x.told(0), 3);
        Check.due("6: different words", x.told(1), 4);
        Check.due("6: words in all", x.told(2), 7);
        Check.tape(x, "other words");
        Check.due("6: the tape does not count", x.told(1), 4);
    }

    private static void promise7Word() {
        RankedSearch x = new RankedSearch();
        Check.put(x, 1, "b ab aa z a abc zz");
        Check.put(x, 2, "ba ab");
        String[] words = {"a", "aa", "ab", "abc", "b", "ba", "z", "zz"};
        for (int i = 0; i < words.length; i++) {
            Check.due("7: word " + i, x.word(i), Check.packed(words[i]));
        }
        Check.due("7: behind the last", x.word(words.length), -1);
        Check.due("7: before the first", x.word(-1), -1);
        for (int i : FAR_OUT) {
            Check.due("7: word " + i, x.word(i), -1);
        }
        Check.due("7: the first letter lowest", Check.packed("ab"), 65);
        x.drop(1);
        Check.due("7: then", x.word(0), Check.packed("ab"));
        Check.due("7: and then", x.word(1), Check.packed("ba"));
    }

    private static void promise7WordsAndLetters() {
        RankedSearch x = new RankedSearch();
        Check.put(x, 1, "zzzzzzzzzzzz aaaaaaaaaaaa aaaaaaaaaaaaB AAAAAAAAAAAb");
        Check.due("7: twelve letters count", x.told(1), 3);
        Check.due("7: twelve a", x.word(0), Check.packed("aaaaaaaaaaaa"));
        Check.due("7: eleven a", x.word(1), Check.packed("aaaaaaaaaaab"));
        Check.due("7: twelve z", x.word(2), Check.packed("zzzzzzzzzzzz"));
        Check.due("7: parted", Check.put(x, 1, "a@b[c`d{e0f\u00e9g\u0000h\u00c1i\u00ffj'k"), 11);
        for (int i = 0; i < 11; i++) {
            Check.due("7: letter " + i, x.word(i), i + 1);
        }
        Check.put(x, 1, "AZaz");
        Check.due("7: edges of the letters", x.word(0), Check.packed("azaz"));
    }

    private static void promise8About() {
        RankedSearch x = new RankedSearch();
        for (int what : new int[] {-1, 3, Integer.MIN_VALUE, Integer.MAX_VALUE}) {
            Check.dueThrow("8: what = " + what, ARGUMENT, () -> x.about(what));
        }
        Check.put(x, 1, "sun sun moon");
        Check.put(x, 2, "sun star");
        Check.put(x, 3, "");
        Check.put(x, 4, "moons");
        Check.tape(x, " 12, +SUN moon");
        Check.due("8: documents", x.about(0), 2);
        Check.due("8: rarity", x.about(1), 2);
        Check.due("8: together", x.about(2), 3);
        Check.tape(x, "comet sun");
        for (int what = 0; what < 3; what++) {
            Check.due("8: none has it, " + what, x.about(what), 0);
        }
        Check.tape(x, "moon");
        Check.due("8: the whole word", x.about(0), 1);
        for (String text : new String[] {"", " ", "123 ^*+", "\u00e9\u00ff"}) {
            Check.tape(x, text);
            for (int what = 0; what < 3; what++) {
                Check.due("8: no word, " + what, x.about(what), -1);
            }
        }
        Check.dueThrow("8: wrong what comes before no word", ARGUMENT, () -> x.about(3));
        Check.put(x, 5, "abcdefghijklm");
        Check.tape(x, "ABCDEFGHIJKLxyz");
        Check.due("8: twelve letters count", x.about(2), 1);
    }

    private static void promise8Rarity() {
        RankedSearch x = new RankedSearch();
        Check.put(x, 0, "rare");
        int[] digits = {1, 2, 2, 3, 3, 3, 3, 4};
        x.wipe();
        for (int n = 1; n <= 120; n++) {
            Check.feed(x, "rare");
            int due = n <= 8 ? digits[n - 1] : n < 16 ? 4 : n < 32 ? 5 : n < 64 ? 6 : 7;
            Check.due("8: rarity of 1 in " + n, x.about(1), due);
            x.wipe();
            x.put(n);
        }
        Check.put(x, 0, "rare common");
        Check.put(x, 1, "common");
        Check.put(x, 2, "common");
        Check.tape(x, "common");
        Check.due("8: 120 by 3 is 40", x.about(1), 6);
    }

    private static void promise9FindScores() {
        RankedSearch x = new RankedSearch();
        // Seven other words make the length 8, and with it the divisor greater.
        Check.put(x, 1, "fox a b c d e f");
        Check.put(x, 2, "fox a b c d e f g");
        Check.put(x, 3, "fox fox fox");
        Check.put(x, 4, "none");
        Check.due("9: three", Check.find(x, "fox", 50), 3);
        Check.due("9: impacts", Check.found(x), "3:192 1:128 2:85");
        Check.find(x, "fox^9", 50);
        Check.due("9: weight", Check.found(x), "3:1728 1:1152 2:765");
        Check.find(x, "FOX fox^2", 50);
        Check.due("9: each term counts", Check.found(x), "3:576 1:384 2:255");
        Check.find(x, "g", 50);
        Check.due("9: rarity 3", Check.found(x), "2:255");
        Check.find(x, "none^2 g", 50);
        Check.due("9: together", Check.found(x), "4:768 2:255");
        Check.due("9: no such word", Check.find(x, "unseen", 50), 0);
        Check.due("9: nothing found", Check.found(x), "");
        Check.put(x, 5, Check.repeated("w ", 200));
        Check.find(x, "w^9", 50);
        Check.due("9: 200 times", Check.found(x), "5:" + 9 * 3 * (256 * 200 / (200 + 1 + 25)));
    }

    private static void promise9FindSigns() {
        RankedSearch x = new RankedSearch();
        Check.put(x, 1, "red green");
        Check.put(x, 2, "red blue");
        Check.put(x, 3, "red green blue");
        Check.put(x, 4, "white");
        Check.find(x, "red +green", 9);
        Check.due("9: must be there", Check.found(x), "1:384 3:384");
        Check.find(x, "red -green", 9);
        Check.due("9: must not be there", Check.found(x), "2:128");
        Check.find(x, "+green +blue", 9);
        Check.due("9: both must", Check.found(x), "3:512");
        Check.find(x, "+blue -green^9", 9);
        Check.due("9: must and must not", Check.found(x), "2:256");
        Check.due("9: must not alone", Check.find(x, "-green", 9), 0);
        Check.due("9: must and must not the same", Check.find(x, "+red -red", 9), 0);
        Check.due("9: must, and none has it", Check.find(x, "red +black", 9), 0);
        Check.due("9: must not, and none has it", Check.find(x, "white -black", 9), 1);
        Check.find(x, "white +red", 9);
        Check.due("9: must, of others", Check.found(x), "1:128 2:128 3:128");
        Check.due("9: must not of all", Check.find(x, "red -r* white", 9), 1);
        Check.due("9: the rest", x.hit(0), 4);
    }

    private static void promise9FindBeginnings() {
        RankedSearch x = new RankedSearch();
        Check.put(x, 1, "car card care");
        Check.put(x, 2, "cart dog");
        Check.put(x, 3, "ca cb");
        Check.put(x, 4, "abcdefghijkl");
        Check.find(x, "car*", 9);
        Check.due("9: all words that begin so", Check.found(x), "1:1152 2:384");
        Check.find(x, "car", 9);
        Check.due("9: the word alone", Check.found(x), "1:384");
        Check.find(x, "ca*^2", 9);
        Check.due("9: with a weight", Check.found(x), "1:2304 2:768 3:768");
        Check.find(x, "+car* -card*", 9);
        Check.due("9: with signs", Check.found(x), "2:384");
        Check.find(x, "+c* dog", 9);
        Check.due("9: one of them is enough", Check.found(x), "1:1152 2:768 3:768");
        Check.due("9: twelve letters and *", Check.find(x, "abcdefghijkl*", 9), 1);
        Check.due("9: eleven letters and *", Check.find(x, "ABCDEFGHIJK*", 9), 1);
        Check.due("9: eleven letters", Check.find(x, "abcdefghijk", 9), 0);
        Check.due("9: past the last", Check.find(x, "z*", 9), 0);
        Check.due("9: between two", Check.find(x, "cas*", 9), 0);
        Check.due("9: z behind", Check.find(x, "caz*", 9), 0);
    }

    private static void promise9FindBest() {
        RankedSearch x = new RankedSearch();
        Check.tape(x, "one");
        for (int i = 0; i < 60; i++) {
            x.put(9000 - 7 * i);
        }
        Check.put(x, 9500, "one one");
        Check.put(x, 9600, "one two");
        Check.due("9: the best", Check.find(x, "one", 1), 1);
        Check.due("9: is one", Check.found(x), "9500:170");
        Check.due("9: fifty", Check.find(x, "one", 50), 50);
        Check.due("9: the second", x.hit(1), 9000 - 7 * 59);
        Check.due("9: the third", x.hit(2), 9000 - 7 * 58);
        Check.due("9: the fiftieth", x.hit(49), 9000 - 7 * 11);
        Check.due("9: its score", x.score(49), 128);
        Check.dueThrow("9: no more", INDEX, () -> x.hit(50));
        Check.find(x, "one two", 2);
        Check.due("9: the two best", Check.found(x), "9600:896 9500:170");
        Check.due("9: fewer than k", Check.find(x, "two", 50), 1);
    }

    private static void promise9FindWrong() {
        RankedSearch x = new RankedSearch();
        Check.put(x, 1, "one two");
        Check.find(x, "one", 5);
        String found = Check.found(x);
        for (int k : new int[] {0, -1, 51, Integer.MIN_VALUE, Integer.MAX_VALUE}) {
            Check.dueThrow("9: k = " + k, ARGUMENT, () -> x.find(k));
            Check.due("9: what was found stays", Check.found(x), found);
        }
        Check.tape(x, "one *");
        Check.dueThrow("9: wrong k comes before a fault", ARGUMENT, () -> x.find(0));
        Check.due("9: no fault of it", x.fault(), 0);
        Check.due("9: a fault", x.find(5), -1);
        Check.due("9: nothing is found then", Check.found(x), "");
        Check.dueThrow("9: no score", INDEX, () -> x.score(0));
        Check.due("9: the tape stays", x.wipe(), 5);
        Check.due("9: an empty query", x.find(5), 0);
        Check.due("9: blanks alone", Check.find(x, "\u0000\u0001\t\n \u001f ", 5), 0);
        Check.due("9: no fault", x.fault(), 0);
        Check.due("9: blanks about", Check.find(x, " \n one\u0000two\t ", 5), 1);
        Check.due("9: together", x.score(0), 256);
    }

    private static void promise9FindAllTerms() {
        RankedSearch x = new RankedSearch();
        Check.put(x, 1, "a b c d e f g h i j k l m n o p");
        Check.put(x, 2, "a b c d e f g h i j k l m n o");
        String needed = "+a +b +c +d +e +f +g +h +i +j +k +l +m +n +o +p";
        Check.due("9: sixteen that must", Check.find(x, needed, 5), 1);
        Check.due("9: only this one", x.hit(0), 1);
        String last = "a a a a a a a a a a a a a a a -p";
        Check.due("9: the last must not", Check.find(x, last, 5), 1);
        Check.due("9: only that one", x.hit(0), 2);
        Check.due("9: score", x.score(0), 15 * (256 / 3));
        Check.find(x, "b", 5);
        Check.due("9: terms of before are gone", Check.found(x), "2:85 1:64");
    }

    private static void fault(String query, int kind, int place) {
        RankedSearch x = new RankedSearch();
        Check.put(x, 1, "a b dog");
        Check.find(x, "dog", 5);
        Check.due("9: find of <" + query + ">", Check.find(x, query, 5), -1);
        Check.due("10: fault of <" + query + ">", x.fault(), kind);
        Check.due("11: place of <" + query + ">", x.place(), place);
        Check.dueThrow("13: hit after <" + query + ">", INDEX, () -> x.hit(0));
    }

    private static void fine(String query) {
        RankedSearch x = new RankedSearch();
        Check.find(x, "^", 5);
        Check.due("9: find of <" + query + ">", Check.find(x, query, 5), 0);
        Check.due("10: fault of <" + query + ">", x.fault(), 0);
        Check.due("11: place of <" + query + ">", x.place(), -1);
    }

    private static void promise10And11Faults() {
        for (String byteAlone : new String[] {"*", "^", "1", "!", "@", "[", "`", "{", "\u007f", "\u0080", "\u00e9", "\u00ff"}) {
            fault(byteAlone, 1, 0);
            fault("a " + byteAlone, 1, 2);
            fault("+" + byteAlone, 1, 1);
            fault("a^" + byteAlone.replace('1', '0'), 1, 2);
            fault("a^1" + byteAlone, 1, 3);
        }
        for (String byteBehind : new String[] {"+", "-", "1", ".", "\u0080", "\u00ff"}) {
            fault("a" + byteBehind, 1, 1);
            fault("a*" + byteBehind, 1, 2);
            fault("a*^" + byteBehind.replace('1', '0'), 1, 3);
        }
        fault("+", 1, 1);
        fault("a -", 1, 3);
        fault("+ a", 1, 1);
        fault("++a", 1, 1);
        fault("+-a", 1, 1);
        fault("a^", 1, 2);
        fault("a^/", 1, 2);
        fault("a^:", 1, 2);
        fault("a*^", 1, 3);
        fault("a^ 2", 1, 2);
        fault("a^2*", 1, 3);
        fault("a^22", 1, 3);
        fault("a^2b", 1, 3);
        fault("a**", 1, 2);
        fault("a*b", 1, 2);
        fault("a ^2 *", 1, 2);
        fault("abcdefghijklm", 2, 12);
        fault("  +abcdefghijklM", 2, 15);
        fault("ok -abcdefghijklmn*", 2, 16);
        fault("abcdefghijkl1", 1, 12);
        for (String query : new String[] {"a", "+a", "-a", "a*", "a^1", "a^9", "-Zz*^5", "abcdefghijkl", "+abcdefghijkl*^9", "", " ", "a\u0000b", "a\u001fb"}) {
            fine(query);
        }
        fault(Check.repeated("a", 12) + Check.repeated(" ", 387) + "^", 1, 399);
        fault(Check.repeated(" ", 399) + "+", 1, 400);
    }

    private static void promise10And11FaultsOfSeventeenthTerm() {
        String sixteen = Check.repeated("b ", 15) + "b";
        fine(sixteen);
        fine(sixteen + "  ");
        for (String begin : new String[] {"a", "Z", "z", "A", "+", "-", "+1", "-a", "abcdefghijklm"}) {
            fault(sixteen + " " + begin, 3, 32);
        }
        for (String byteAlone : new String[] {"*", "^", "1", "@", "\u00e9"}) {
            fault(sixteen + " " + byteAlone, 1, 32);
        }
        fault(sixteen + "*b", 1, 32);
        fault(sixteen + "cdefghijklmno", 2, 42);
        fault("1 " + sixteen + " a", 1, 0);
    }

    private static void promise10And11FaultsStay() {
        RankedSearch x = new RankedSearch();
        Check.put(x, 1, "dog");
        Check.put(x, 2, "dog");
        Check.find(x, "dog abcdefghijklm", 5);
        x.wipe();
        Check.feed(x, "dog");
        x.put(3);
        x.similar(1, 5);
        x.drop(3);
        Check.dueThrow("9: k = 51", ARGUMENT, () -> x.find(51));
        Check.due("10: it stays", x.fault(), 2);
        Check.due("11: it stays", x.place(), 16);
        Check.due("9: without one", x.find(5), 2);
        Check.due("10: gone", x.fault(), 0);
        Check.due("11: gone", x.place(), -1);
    }

    private static void promise12Similar() {
        RankedSearch x = new RankedSearch();
        Check.put(x, 1, "red red green");
        Check.put(x, 2, "red blue");
        Check.put(x, 3, "green");
        Check.put(x, 4, "white");
        Check.put(x, 0, "green");
        Check.due("12: three", x.similar(1, 50), 3);
        // Five documents: red is in two of them, green in three.
        Check.due("12: weights and rarities", Check.found(x), "2:512 0:128 3:128");
        Check.due("12: the best", x.similar(1, 1), 1);
        Check.due("12: is this", Check.found(x), "2:512");
        Check.due("12: of another", x.similar(2, 50), 1);
        Check.due("12: this document alone", Check.found(x), "1:340");
        Check.due("12: like none", x.similar(4, 50), 0);
        Check.due("12: nothing found", Check.found(x), "");
        x.similar(3, 50);
        Check.due("12: its own number does not count", Check.found(x), "0:128 1:128");
        Check.due("12: the tape stays", x.wipe(), 5);
        Check.due("12: find is as before", Check.find(x, "white", 5), 1);
    }

    private static void promise12SimilarEdges() {
        RankedSearch x = new RankedSearch();
        Check.put(x, 1, Check.repeated("w ", 9));
        Check.put(x, 2, Check.repeated("w ", 10));
        Check.put(x, 3, "w");
        Check.put(x, 4, "");
        Check.put(x, 5, "a b c d e f g h i j k l m n o p q r s t u v");
        Check.put(x, 6, "v");
        for (int k : new int[] {0, 51, -1, Integer.MIN_VALUE, Integer.MAX_VALUE}) {
            Check.dueThrow("12: k = " + k, ARGUMENT, () -> x.similar(1, k));
        }
        for (int number : new int[] {0, 7, 9999, -1, 10000, Integer.MIN_VALUE, Integer.MAX_VALUE}) {
            Check.dueThrow("12: number " + number, ARGUMENT, () -> x.similar(number, 1));
        }
        x.similar(1, 50);
        Check.due("12: weight 9", Check.found(x), "2:3834 3:2304");
        x.similar(2, 50);
        Check.due("12: 9 at most", Check.found(x), "1:3762 3:2304");
        String found = Check.found(x);
        Check.dueThrow("12: no such document", ARGUMENT, () -> x.similar(8, 1));
        Check.due("12: what was found stays", Check.found(x), found);
        Check.due("12: no words", x.similar(4, 5), 0);
        Check.due("12: more than 16 terms", x.similar(5, 5), 1);
        Check.due("12: found", Check.found(x), "6:256");
        x.similar(6, 5);
        Check.due("12: found the other way", Check.found(x), "5:128");
    }

    private static void promise13And14HitAndScore() {
        RankedSearch x = new RankedSearch();
        Check.put(x, 9999, "one two");
        Check.put(x, 0, "one");
        Check.put(x, 17, "one one");
        Check.find(x, "one", 50);
        Check.due("13: the first", x.hit(0), 17);
        Check.due("14: the first", x.score(0), 170);
        Check.due("13: the second", x.hit(1), 0);
        Check.due("14: the second", x.score(1), 128);
        Check.due("13: the third", x.hit(2), 9999);
        Check.due("14: the third", x.score(2), 128);
        for (int i : new int[] {3, 50, -1, Integer.MIN_VALUE, Integer.MAX_VALUE}) {
            Check.dueThrow("13: place " + i, INDEX, () -> x.hit(i));
            Check.dueThrow("14: place " + i, INDEX, () -> x.score(i));
        }
        Check.put(x, 17, "other");
        x.drop(0);
        Check.due("13: as it was found", Check.found(x), "17:170 0:128 9999:128");
        Check.find(x, "one", 50);
        Check.due("13: found anew", Check.found(x), "9999:256");
        Check.dueThrow("13: no longer there", INDEX, () -> x.hit(1));
        Check.dueThrow("14: no longer there", INDEX, () -> x.score(1));
    }
}
