/** Each sentence under "Terms", on either side of every edge that it names. */
public final class TermsTests {
    private static final String SIXTEEN = "b b b b b b b b b b b b b b b b";

    private TermsTests() {
    }

    public static void main(String[] args) {
        tapeHas400Bytes();
        lettersMakeWordsAndOtherBytesPartThem();
        capitalsCountAsSmallLetters();
        firstTwelveLettersCount();
        documentsHaveNumbersTo9999();
        lengthCountsAllWords();
        lengthByEightIsRoundedDown();
        impactIsRoundedDown();
        rarityIsDigitsOfTheQuotient();
        queryHasSixteenTerms();
        bytesNotAbove32Part();
        termHasOneToTwelveLetters();
        signsStandFirst();
        starComesBehindLetters();
        weightIsOneToNine();
        termStandsForItsWord();
        starStandsForAllThatBeginSo();
        scoreAddsTermsAndWords();
        manyTermsOfManyWords();
        hitHasAWordOfEachNeededTerm();
        hitHasNoneOfTheUnwanted();
        hitHasAScoreAboveNone();
        bestAreTheGreatestThenTheLesserNumbers();
        faultIsTheFirstOne();
        faultAtTheEnd();
        faultOfThe13thLetter();
        faultOfThe17thTerm();
        lastOf512Calls();
        Check.end();
    }

    /** Documents 1, 2, .. with these texts. */
    private static RankedSearch with(String... texts) {
        RankedSearch x = new RankedSearch();
        for (int i = 0; i < texts.length; i++) {
            Check.put(x, i + 1, texts[i]);
        }
        return x;
    }

    private static String found(RankedSearch x, String query) {
        int answer = Check.find(x, query, 50);
        return answer + " of " + Check.found(x);
    }

    /** What find says of a query: fine, or the fault and its place. */
    private static String verdict(String query) {
        RankedSearch x = new RankedSearch();
        int answer = Check.find(x, query, 50);
        boolean fine = answer == 0 && x.fault() == 0 && x.place() == -1;
        return fine ? "fine" : answer + ": " + x.fault() + " at " + x.place();
    }

    private static void fine(String query) {
        Check.due("<" + query + ">", verdict(query), "fine");
    }

    private static void faulty(String query, int fault, int place) {
        Check.due("<" + query + ">", verdict(query), "-1: " + fault + " at " + place);
    }

    private static boolean isLetter(int b) {
        return "abcdefghijklmnopqrstuvwxyzABCDEFGHIJKLMNOPQRSTUVWXYZ".indexOf(b) >= 0;
    }

    // The tape

    private static void tapeHas400Bytes() {
        for (int n = 1; n <= 8; n++) {
            RankedSearch x = new RankedSearch();
            Check.feed(x, Check.repeated(" ", 400 - n));
            Check.due("the last " + n + " bytes", x.feed(n, 0), 400);
            Check.due("one byte more", x.feed(1, 0), -1);
            RankedSearch y = new RankedSearch();
            Check.feed(y, Check.repeated(" ", 401 - n));
            Check.due(n + " bytes, one too many", y.feed(n, 0), -1);
            Check.due("it has what it had", y.wipe(), 401 - n);
        }
    }

    // Words

    private static void lettersMakeWordsAndOtherBytesPartThem() {
        for (int b = 0; b < 256; b++) {
            RankedSearch x = new RankedSearch();
            int words = Check.put(x, 1, "x" + (char) b + "y");
            Check.due("words about byte " + b, words, isLetter(b) ? 1 : 2);
            Check.due("a word of byte " + b, Check.put(x, 1, "" + (char) b), isLetter(b) ? 1 : 0);
            Check.due("different words with byte " + b, x.told(1), isLetter(b) ? 1 : 0);
        }
        Check.due("many between", Check.put(new RankedSearch(), 1, "..a. ,\u0000b--\u00e9"), 2);
        Check.due("200 words", Check.put(new RankedSearch(), 1, Check.repeated(".a", 200)), 200);
        Check.due("one word from end to end", Check.put(new RankedSearch(), 1, Check.repeated("a", 400)), 1);
    }

    private static void capitalsCountAsSmallLetters() {
        for (char letter = 'a'; letter <= 'z'; letter++) {
            String small = "" + letter;
            String capital = "" + (char) (letter - 32);
            RankedSearch x = with(small + " " + capital);
            Check.due(capital + " is " + small, x.told(1), 1);
            Check.due("the word " + small, x.word(0), letter - 'a' + 1);
            Check.due("find " + capital, found(x, capital), "1 of 1:170");
            Check.due("find " + small, found(x, small), "1 of 1:170");
            Check.due("find " + capital + "*", found(x, capital + "*"), "1 of 1:170");
        }
    }

    private static void firstTwelveLettersCount() {
        String eleven = "abcdefghijk";
        Check.due("11 and 12 letters differ", with(eleven + " " + eleven + "l").told(1), 2);
        Check.due("the 12th letter counts", with(eleven + "l " + eleven + "m").told(1), 2);
        Check.due("the 13th does not", with(eleven + "lm " + eleven + "ln").told(1), 1);
        Check.due("nor whether there is one", with(eleven + "l " + eleven + "lm").told(1), 1);
        RankedSearch x = with(eleven + "lmnopqrstuvwxyz" + eleven);
        Check.due("the rest is no word of its own", x.told(2), 1);
        Check.due("the word is the first 12", x.word(0), Check.packed(eleven + "l"));
        Check.due("and is found by them", found(x, eleven + "l"), "1 of 1:128");
        Check.due("not by 11", found(x, eleven), "0 of ");
        Check.due("twelve z", with(Check.repeated("z", 13)).word(0), Check.packed(Check.repeated("z", 12)));
    }

    // Documents

    private static void documentsHaveNumbersTo9999() {
        RankedSearch x = new RankedSearch();
        Check.tape(x, "a");
        Check.due("put 0", x.put(0), 1);
        Check.due("put 9999", x.put(9999), 1);
        Check.dueThrow("put -1", IllegalArgumentException.class, () -> x.put(-1));
        Check.dueThrow("put 10000", IllegalArgumentException.class, () -> x.put(10000));
        Check.due("both are found", found(x, "a"), "2 of 0:128 9999:128");
        Check.due("like 0", x.similar(0, 1), 1);
        Check.due("like 9999", x.similar(9999, 1), 1);
        Check.due("drop 9999", x.drop(9999), true);
        Check.due("drop 0", x.drop(0), true);
        Check.due("none left", x.told(0), 0);
    }

    private static void lengthCountsAllWords() {
        // Eight words of which two differ: the length is 8, not 2.
        Check.due("the same words count", found(with("a b b b b b b b"), "a"), "1 of 1:85");
        Check.due("seven do not reach 8", found(with("a b b b b b b"), "a"), "1 of 1:128");
        Check.due("its own do, too", found(with("a a a a a a a a"), "a"), "1 of 1:" + 256 * 8 / 10);
    }

    private static void lengthByEightIsRoundedDown() {
        int[] lengths = {1, 7, 8, 15, 16, 23, 24, 199, 200};
        int[] scores = {128, 128, 85, 85, 64, 64, 51, 256 / 26, 256 / 27};
        for (int i = 0; i < lengths.length; i++) {
            RankedSearch x = with("a " + Check.repeated("b ", lengths[i] - 1));
            Check.due("length " + lengths[i], x.told(2), lengths[i]);
            Check.due("a among " + lengths[i], found(x, "a"), "1 of 1:" + scores[i]);
        }
    }

    private static void impactIsRoundedDown() {
        int[] impacts = {128, 170, 192, 204, 213, 219, 224};
        for (int times = 1; times <= 7; times++) {
            RankedSearch x = with(Check.repeated("a ", times));
            Check.due(times + " times", found(x, "a"), "1 of 1:" + impacts[times - 1]);
        }
        Check.due("200 times", found(with(Check.repeated("a ", 200)), "a"), "1 of 1:226");
        // 85 is 85.3 rounded down: it is rounded before the weight, and for each word.
        Check.due("rounded before the weight", found(with("a b b b b b b b"), "a^9"), "1 of 1:765");
        Check.due("rounded for each word", found(with("a c d b b b b b"), "a c d"), "1 of 1:255");
    }

    /** 120 documents; the word with letter i is in the first ones only, as many as a row tells. */
    private static void rarityIsDigitsOfTheQuotient() {
        int[] holders = {1, 7, 8, 15, 16, 30, 31, 40, 41, 60, 61, 119, 120};
        int[] digits = {7, 5, 4, 4, 3, 3, 2, 2, 2, 2, 1, 1, 1};
        RankedSearch x = new RankedSearch();
        int documents = 0;
        for (int i = 0; i < holders.length; i++) {
            Check.tape(x, Check.repeated(" ", i) + "a b c d e f g h i j k l m".substring(2 * i));
            while (documents < holders[i]) {
                x.put(documents);
                documents++;
            }
        }
        for (int i = 0; i < holders.length; i++) {
            Check.tape(x, "" + (char) ('a' + i));
            Check.due(holders[i] + " of 120 have it", x.about(0), holders[i]);
            Check.due("120 by " + holders[i], x.about(1), digits[i]);
        }
        Check.find(x, "a", 1);
        Check.due("the rarity counts in the score", x.score(0), 7 * (256 / 3));
        Check.find(x, "k", 1);
        Check.due("rarity 1 in the score", x.score(0), 256 / 2);
    }

    // Queries

    private static void queryHasSixteenTerms() {
        fine("");
        fine("b");
        fine(SIXTEEN);
        fine("  " + SIXTEEN + " \n");
        faulty(SIXTEEN + " b", 3, 32);
        RankedSearch x = with("q r");
        Check.due("the 16th counts", found(x, "a b c d e f g h i j k l m n o q"), "1 of 1:128");
        Check.due("all 16 count", found(x, Check.repeated("q ", 16)), "1 of 1:" + 16 * 128);
    }

    private static void bytesNotAbove32Part() {
        for (int b = 0; b < 256; b++) {
            String one = "" + (char) b;
            boolean blank = b <= 32;
            boolean sign = b == '+' || b == '-';
            expect(one + "x", blank || isLetter(b) || sign, 1, 0);
            expect("x" + one, blank || isLetter(b) || b == '*', 1, b == '^' ? 2 : 1);
            expect("x" + one + "y", blank || isLetter(b), 1, b == '*' || b == '^' ? 2 : 1);
            expect("x*" + one, blank, 1, b == '^' ? 3 : 2);
            expect("x^" + one, b >= '1' && b <= '9', 1, 2);
            expect("x^5" + one, blank, 1, 3);
            expect("+" + one, isLetter(b), 1, 1);
            expect("-" + one, isLetter(b), 1, 1);
            expect("x*^" + one, b >= '1' && b <= '9', 1, 3);
            expect("x " + one, blank || isLetter(b), 1, sign ? 3 : 2);
            expect("abcdefghijkl" + one, blank || b == '*', isLetter(b) ? 2 : 1, b == '^' ? 13 : 12);
            expect(SIXTEEN + " " + one, blank, isLetter(b) || sign ? 3 : 1, 32);
        }
        RankedSearch x = with("x", "y");
        for (int b = 0; b <= 32; b++) {
            Check.due("two terms about byte " + b, found(x, "x" + (char) b + "y^2"), "2 of 2:512 1:256");
        }
    }

    private static void expect(String query, boolean isFine, int fault, int place) {
        if (isFine) {
            fine(query);
        } else {
            faulty(query, fault, place);
        }
    }

    private static void termHasOneToTwelveLetters() {
        for (String sign : new String[] {"", "+", "-"}) {
            fine(sign + "a");
            fine(sign + "abcdefghijkl");
            fine(sign + "ABCDEFGHIJKL*^9");
            faulty(sign + "abcdefghijklm", 2, sign.length() + 12);
            faulty(sign + "*", 1, sign.length());
            faulty(sign + "^1", 1, sign.length());
        }
        faulty("+", 1, 1);
        faulty("-", 1, 1);
    }

    private static void signsStandFirst() {
        faulty("a+", 1, 1);
        faulty("a-", 1, 1);
        faulty("a*+", 1, 2);
        faulty("a^1-", 1, 3);
        faulty("a+b", 1, 1);
        faulty("a*-b", 1, 2);
        faulty("++a", 1, 1);
        faulty("--a", 1, 1);
        faulty("+-a", 1, 1);
        faulty("-+a", 1, 1);
        faulty("+ a", 1, 1);
        faulty("- a", 1, 1);
        fine("+a -b +c");
    }

    private static void starComesBehindLetters() {
        fine("a*");
        fine("a* b*");
        faulty("*a", 1, 0);
        faulty("a **", 1, 2);
        faulty("a**", 1, 2);
        faulty("a*b", 1, 2);
        faulty("a^1*", 1, 3);
        faulty("a *", 1, 2);
    }

    private static void weightIsOneToNine() {
        RankedSearch x = with("a");
        Check.due("no weight is 1", found(x, "a"), "1 of 1:128");
        for (int weight = 1; weight <= 9; weight++) {
            Check.due("weight " + weight, found(x, "a^" + weight), "1 of 1:" + weight * 128);
            Check.due("weight " + weight + " with + and *", found(x, "+a*^" + weight), "1 of 1:" + weight * 128);
        }
        Check.due("each term its own", found(x, "a^9 a a^2"), "1 of 1:" + 12 * 128);
        faulty("a^0", 1, 2);
        faulty("a^:", 1, 2);
        faulty("a^10", 1, 3);
        faulty("a^", 1, 2);
        faulty("a^^1", 1, 2);
        faulty("a^-1", 1, 2);
        faulty("a^ 1", 1, 2);
        faulty("a ^1", 1, 2);
        faulty("^1", 1, 0);
    }

    private static void termStandsForItsWord() {
        RankedSearch x = with("ab", "abc", "a", "b");
        Check.due("the word itself", found(x, "ab"), "1 of 1:384");
        Check.due("capitals", found(x, "AB"), "1 of 1:384");
        Check.due("a longer one", found(x, "abcd"), "0 of ");
        RankedSearch y = with("abcdefghijklmno");
        Check.due("of 12 letters", found(y, "abcdefghijkl"), "1 of 1:128");
        Check.due("of 11 letters", found(y, "abcdefghijk"), "0 of ");
    }

    private static void starStandsForAllThatBeginSo() {
        RankedSearch x = with("a", "ab", "abz", "abzz", "ac", "azzzzzzzzzzz", "b", "z");
        Check.due("all that begin so", found(x, "ab*"), "3 of 2:512 3:512 4:512");
        Check.due("the last of them", found(x, "abzz*"), "1 of 4:512");
        Check.due("those with one letter", found(x, "a*"), "6 of 1:512 2:512 3:512 4:512 5:512 6:512");
        Check.due("the first word not", found(x, "b*"), "1 of 7:512");
        Check.due("the last word", found(x, "z*"), "1 of 8:512");
        Check.due("behind the last word", found(x, "zz*"), "0 of ");
        Check.due("between two words", found(x, "abc*"), "0 of ");
        Check.due("twelve letters", found(x, "azzzzzzzzzzz*"), "1 of 6:512");
        Check.due("other twelve letters", found(x, "azzzzzzzzzzy*"), "0 of ");
        Check.due("with -", found(x, "a* -ab*"), "3 of 1:512 5:512 6:512");
        Check.due("with +", found(x, "+ab* +abz*"), "2 of 3:1024 4:1024");
    }

    // Scores and hits

    private static void scoreAddsTermsAndWords() {
        RankedSearch x = with("a b", "a", "b b");
        // Three documents: a and b are in two of them, so both have rarity 1.
        Check.due("two terms", found(x, "a b"), "3 of 1:256 3:170 2:128");
        Check.due("one term twice", found(x, "a a"), "2 of 1:256 2:256");
        Check.due("with +", found(x, "+a b"), "2 of 1:256 2:128");
        Check.due("weights", found(x, "a^2 b^3"), "3 of 1:640 3:510 2:256");
        Check.due("terms with - give nothing", found(x, "a -b^9"), "1 of 2:128");
        Check.due("a word that two terms stand for", found(x, "a a*"), "2 of 1:256 2:256");
        RankedSearch y = with("aa ab ac", "aa", "z");
        Check.due("each word of a *", found(y, "a*"), "2 of 1:640 2:128");
    }

    /** 16 terms of weight 9 that stand for 26 words each, all of rarity 7. */
    private static void manyTermsOfManyWords() {
        StringBuilder text = new StringBuilder();
        for (int i = 0; i < 133; i++) {
            text.append((char) ('a' + i / 26)).append((char) ('a' + i % 26)).append(' ');
        }
        RankedSearch x = new RankedSearch();
        Check.due("133 words", Check.put(x, 0, text.toString()), 133);
        x.wipe();
        for (int i = 1; i < 120; i++) {
            x.put(i);
        }
        StringBuilder query = new StringBuilder();
        for (int i = 0; i < 16; i++) {
            query.append((char) ('a' + i % 5)).append("*^9 ");
        }
        Check.find(x, query.toString(), 50);
        Check.due("all of them together", Check.found(x), "0:" + 16 * 26 * 9 * 7 * (256 / 18));
    }

    private static void hitHasAWordOfEachNeededTerm() {
        RankedSearch x = with("a", "b", "a b", "ca cb", "ca a");
        Check.due("none of it", found(x, "a +b"), "2 of 3:384 2:256");
        Check.due("of both", found(x, "+a +b"), "1 of 3:384");
        Check.due("one word of * is enough", found(x, "+c*"), "2 of 4:640 5:256");
        Check.due("of both, one with *", found(x, "+c* +a"), "1 of 5:384");
        Check.due("no document has it", found(x, "a +d"), "0 of ");
        Check.due("no word begins so", found(x, "a +d*"), "0 of ");
        Check.due("the same twice", found(x, "+b +b"), "2 of 2:512 3:512");
    }

    private static void hitHasNoneOfTheUnwanted() {
        RankedSearch x = with("a", "b", "a b", "ca cb", "ca a");
        Check.due("those without it", found(x, "a -b"), "2 of 1:128 5:128");
        Check.due("one word of * is enough", found(x, "a -c*"), "2 of 1:128 3:128");
        Check.due("either of two", found(x, "a -b -ca"), "1 of 1:128");
        Check.due("before the others", found(x, "-b a"), "2 of 1:128 5:128");
        Check.due("no document has it", found(x, "b -d"), "2 of 2:256 3:256");
        Check.due("what is needed is unwanted", found(x, "+b -b"), "0 of ");
        Check.due("all are unwanted", found(x, "a -a"), "0 of ");
    }

    private static void hitHasAScoreAboveNone() {
        RankedSearch x = with("a", "b", "");
        Check.due("no terms", found(x, ""), "0 of ");
        Check.due("only terms with -", found(x, "-a"), "0 of ");
        Check.due("those of no document", found(x, "-c -d*"), "0 of ");
        Check.due("a word that is not theirs", found(x, "a"), "1 of 1:256");
        RankedSearch y = with(Check.repeated("b ", 199) + "a");
        Check.due("the least score of all", found(y, "a"), "1 of 1:9");
    }

    private static void bestAreTheGreatestThenTheLesserNumbers() {
        RankedSearch x = new RankedSearch();
        int[] order = {500, 9999, 3, 0, 77, 9998, 2};
        for (int number : order) {
            Check.put(x, number, number == 77 || number == 9998 ? "a a" : "a");
        }
        Check.due("in order", found(x, "a"), "7 of 77:170 9998:170 0:128 2:128 3:128 500:128 9999:128");
        String[] best = {"77:170", " 9998:170", " 0:128", " 2:128", " 3:128", " 500:128", " 9999:128"};
        String due = "";
        for (int k = 1; k <= best.length; k++) {
            due += best[k - 1];
            Check.due("find(" + k + ")", x.find(k), k);
            Check.due("the " + k + " best", Check.found(x), due);
        }
        x.drop(0);
        Check.put(x, 1, "a");
        Check.find(x, "a", 3);
        Check.due("after others came and went", Check.found(x), "77:170 9998:170 1:128");
    }

    // Faults

    private static void faultIsTheFirstOne() {
        faulty("1 abcdefghijklm", 1, 0);
        faulty("abcdefghijklm 1", 2, 12);
        faulty("abcdefghijklm1", 2, 12);
        faulty("abcdefghijkl1m", 1, 12);
        faulty("a! b?", 1, 1);
        faulty("! " + SIXTEEN + " b", 1, 0);
        faulty(SIXTEEN + " b!", 3, 32);
        faulty(SIXTEEN + " ! b", 1, 32);
        faulty(SIXTEEN + " abcdefghijklm", 3, 32);
        faulty("abcdefghijklm " + SIXTEEN, 2, 12);
        faulty(SIXTEEN + "! b", 1, 31);
    }

    private static void faultAtTheEnd() {
        faulty("+", 1, 1);
        faulty("a -", 1, 3);
        faulty("a^", 1, 2);
        faulty("-abc*^", 1, 6);
        fine("a");
        fine("a*");
        fine("a^1");
        fine("a ");
        String blanks = Check.repeated(" ", 398);
        fine(blanks + " a");
        fine(blanks + "+a");
        faulty(blanks + " +", 1, 400);
        faulty(blanks + "a^", 1, 400);
        faulty(blanks + "a!", 1, 399);
        fine(blanks.substring(1) + "a^1");
        fine(Check.repeated("\u0000", 400));
    }

    private static void faultOfThe13thLetter() {
        fine("abcdefghijkl");
        faulty("abcdefghijklm", 2, 12);
        faulty("abcdefghijklmn", 2, 12);
        faulty("  +ABCDEFGHIJKLM*", 2, 15);
        faulty("ok abcdefghijkl abcdefghijklz", 2, 28);
        faulty(Check.repeated("a", 400), 2, 12);
        faulty(Check.repeated(" ", 387) + "abcdefghijklm", 2, 399);
        fine(Check.repeated(" ", 388) + "abcdefghijkl");
        faulty(SIXTEEN + "aaaaaaaaaaaa", 2, 42);
    }

    private static void faultOfThe17thTerm() {
        fine(SIXTEEN);
        for (String begin : new String[] {"a", "z", "A", "Z", "+", "-", "+a", "-*", "++"}) {
            faulty(SIXTEEN + " " + begin, 3, 32);
        }
        for (String other : new String[] {"*", "^", "1", "@", "[", "`", "{", "!", "\u0080", "\u00ff"}) {
            faulty(SIXTEEN + " " + other, 1, 32);
        }
        faulty(SIXTEEN + "+", 1, 31);
        faulty(SIXTEEN + "\n\n\nb", 3, 34);
        faulty(SIXTEEN + Check.repeated(" ", 368) + "b", 3, 399);
        fine(SIXTEEN + Check.repeated(" ", 369));
        faulty("+b " + SIXTEEN.substring(2) + " b", 3, 33);
    }

    // The number of calls

    private static void lastOf512Calls() {
        RankedSearch x = with("a b", "b");
        for (int call = 7; call <= 509; call++) {
            Check.due("call " + call, x.told(2), 3);
        }
        x.wipe();
        x.feed(1, 'a');
        Check.due("the 512th call", x.find(1), 1);
    }
}
