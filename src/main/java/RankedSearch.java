import java.util.ArrayList;

/**
 * Finds the documents that suit a query best. Words lead to the documents that have them
 * (an inverted index), so a search meets only documents that have a word of the query.
 *
 * Objects that a put or a drop sets free are kept in chains and used again, so that a long
 * run of calls needs no more of them than the fullest moment of its documents.
 */
public final class RankedSearch {
    public static final int NONE = -1;

    private static final int FEED_BYTES = 8;
    private static final int TAPE_BYTES = 400;
    // Every word but the last needs a byte behind it.
    private static final int TAPE_WORDS = (TAPE_BYTES + 1) / 2;
    private static final int WORD_LETTERS = 12;
    private static final int LETTER_BITS = 5;
    private static final int LETTER_MASK = 31;
    private static final int GREATEST_NUMBER = 9999;
    private static final int MOST_DOCUMENTS = 120;
    private static final int MOST_TERMS = 16;
    private static final int MOST_FOUND = 50;
    private static final int GREATEST_WEIGHT = 9;
    private static final int INT_BITS = 32;

    private final Tape tape = new Tape();
    private final Library library = new Library();
    private final Query query = new Query();
    private final Search search = new Search();
    private final Best best = new Best();

    public RankedSearch() {
    }

    public int feed(int n, long bytes) throws IllegalArgumentException {
        if (n < 1 || n > FEED_BYTES) {
            throw new IllegalArgumentException("n is not 1 to 8");
        }
        return tape.append(n, bytes) ? tape.length() : NONE;
    }

    public int wipe() {
        int had = tape.length();
        tape.empty();
        return had;
    }

    public int put(int number) throws IllegalArgumentException {
        requireNumber(number);
        Document document = library.openDocument(number);
        if (document == null) {
            return NONE;
        }
        library.rewrite(document, tape);
        return document.length;
    }

    public boolean drop(int number) throws IllegalArgumentException {
        requireNumber(number);
        return library.removeDocument(number);
    }

    public int told(int what) throws IllegalArgumentException {
        switch (what) {
            case 0:
                return library.documentCount();
            case 1:
                return library.lexicon.size();
            case 2:
                return library.wordsInAll;
            default:
                throw new IllegalArgumentException("what is not 0 to 2");
        }
    }

    public long word(int i) {
        Word word = library.lexicon.wordAt(i);
        return word == null ? NONE : Letters.firstLowest(word.letters);
    }

    public int about(int what) throws IllegalArgumentException {
        if (what < 0 || what > 2) {
            throw new IllegalArgumentException("what is not 0 to 2");
        }
        int start = tape.wordStart(0);
        if (start >= tape.length()) {
            return NONE;
        }
        Word word = library.lexicon.wordOf(tape.lettersOf(start, tape.wordEnd(start)));
        if (word == null) {
            return 0;
        }
        switch (what) {
            case 0:
                return word.holders;
            case 1:
                return library.rarity(word);
            default:
                return word.total;
        }
    }

    public int find(int k) throws IllegalArgumentException {
        requireFindable(k);
        best.start(k);
        query.read(tape);
        if (query.faultKind != Query.NO_FAULT) {
            return NONE;
        }
        search.suiting(query, library, best);
        return best.count;
    }

    public int fault() {
        return query.faultKind;
    }

    public int place() {
        return query.faultPlace;
    }

    public int similar(int number, int k) throws IllegalArgumentException {
        requireFindable(k);
        Document model = library.documentOf(number);
        if (model == null) {
            throw new IllegalArgumentException("there is no such document");
        }
        best.start(k);
        search.resembling(model, library, best);
        return best.count;
    }

    public int hit(int i) throws IndexOutOfBoundsException {
        if (!best.has(i)) {
            throw new IndexOutOfBoundsException("no document was found at this place");
        }
        return best.numberAt(i);
    }

    public int score(int i) throws IndexOutOfBoundsException {
        if (!best.has(i)) {
            throw new IndexOutOfBoundsException("no document was found at this place");
        }
        return best.pointsAt(i);
    }

    private static void requireNumber(int number) {
        if (number < 0 || number > GREATEST_NUMBER) {
            throw new IllegalArgumentException("number is not 0 to 9999");
        }
    }

    private static void requireFindable(int k) {
        if (k < 1 || k > MOST_FOUND) {
            throw new IllegalArgumentException("k is not 1 to 50");
        }
    }

    /**
     * Up to 12 letters in a long, five bits each, the first one highest: the order of the
     * numbers is then the order of the words, and words that begin alike stand together.
     */
    private static final class Letters {
        /** 1 for a or A to 26 for z or Z, 0 for a byte that is no letter. */
        static int letterOf(int b) {
            if (b >= 'a' && b <= 'z') {
                return b - 'a' + 1;
            }
            if (b >= 'A' && b <= 'Z') {
                return b - 'A' + 1;
            }
            return 0;
        }

        static boolean isLetter(int b) {
            return letterOf(b) != 0;
        }

        /** The letters with one more at a place that is free as yet. */
        static long with(long letters, int place, int letter) {
            return letters | (long) letter << LETTER_BITS * (WORD_LETTERS - 1 - place);
        }

        /** The greatest letters that begin with the first ones of these. */
        static long lastWithBeginning(long letters, int length) {
            return letters | (1L << LETTER_BITS * (WORD_LETTERS - length)) - 1;
        }

        static long firstLowest(long letters) {
            long turned = 0;
            for (int i = 0; i < WORD_LETTERS; i++) {
                long letter = letters >> LETTER_BITS * (WORD_LETTERS - 1 - i) & LETTER_MASK;
                turned |= letter << LETTER_BITS * i;
            }
            return turned;
        }
    }

    private static final class Tape {
        private final byte[] bytes = new byte[TAPE_BYTES];
        private int length;

        int length() {
            return length;
        }

        void empty() {
            length = 0;
        }

        /** Answers whether there was room for the bytes. */
        boolean append(int n, long lowestFirst) {
            if (n > bytes.length - length) {
                return false;
            }
            for (int i = 0; i < n; i++) {
                add((byte) (lowestFirst >> 8 * i));
            }
            return true;
        }

        private void add(byte b) {
            if (length >= 0 && length < bytes.length) {
                bytes[length] = b;
                length++;
            }
        }

        /** The byte at a place, 0 to 255; NONE outside the tape. */
        int byteAt(int i) {
            return i >= 0 && i < length && i < bytes.length ? bytes[i] & 255 : NONE;
        }

        /** The first place from this one on that has a letter; the length if none has. */
        int wordStart(int from) {
            for (int i = from; i < length; i++) {
                if (Letters.isLetter(byteAt(i))) {
                    return i;
                }
            }
            return length;
        }

        /** The first place from this one on that has no letter; the length if all have. */
        int wordEnd(int from) {
            for (int i = from; i < length; i++) {
                if (!Letters.isLetter(byteAt(i))) {
                    return i;
                }
            }
            return length;
        }

        long lettersOf(int start, int end) {
            long letters = 0;
            for (int i = 0; i < WORD_LETTERS && start + i < end; i++) {
                letters = Letters.with(letters, i, Letters.letterOf(byteAt(start + i)));
            }
            return letters;
        }
    }

    /** A word that at least one document has, with the chain of its postings. */
    private static final class Word {
        private long letters;
        private int holders;
        private int total;
        private Posting first;
        private Word nextSpare;

        void begin(long ofLetters) {
            letters = ofLetters;
            holders = 0;
            total = 0;
            first = null;
            nextSpare = null;
        }

        void link(Posting posting) {
            posting.beforeInWord = null;
            posting.nextInWord = first;
            if (first != null) {
                first.beforeInWord = posting;
            }
            first = posting;
            holders++;
        }

        void unlink(Posting posting) {
            if (posting.beforeInWord == null) {
                first = posting.nextInWord;
            } else {
                posting.beforeInWord.nextInWord = posting.nextInWord;
            }
            if (posting.nextInWord != null) {
                posting.nextInWord.beforeInWord = posting.beforeInWord;
            }
            holders--;
            total -= posting.times;
        }
    }

    /** That a document has a word, and how often; it stands in the chains of both. */
    private static final class Posting {
        private Word word;
        private Document document;
        private int times;
        private Posting beforeInWord;
        private Posting nextInWord;
        private Posting nextInDocument;

        int impact() {
            int divisor = document == null ? 0 : times + 1 + document.length / 8;
            return divisor < 1 ? 0 : 256 * times / divisor;
        }
    }

    private static final class Document {
        private final int number;
        private int length;
        private Posting first;

        // What the running search knows of it.
        private boolean met;
        private boolean barred;
        private int termsMet;
        private int points;
        private Document nextMet;

        Document(int itsNumber) {
            number = itsNumber;
        }
    }

    /** All words that documents have, in the order of their letters. */
    private static final class Lexicon {
        private final ArrayList<Word> words = new ArrayList<Word>();
        private Word spare;

        int size() {
            return words.size();
        }

        Word wordAt(int i) {
            return i >= 0 && i < words.size() ? words.get(i) : null;
        }

        /** The place of the first word that does not come before these letters. */
        int placeOf(long letters) {
            int low = 0;
            int high = words.size();
            for (int halving = 0; halving < INT_BITS && low < high; halving++) {
                int middle = low + (high - low) / 2;
                Word word = wordAt(middle);
                if (word != null && word.letters < letters) {
                    low = middle + 1;
                } else {
                    high = middle;
                }
            }
            return low;
        }

        Word wordOf(long letters) {
            Word word = wordAt(placeOf(letters));
            return word != null && word.letters == letters ? word : null;
        }

        Word enter(long letters) {
            int place = placeOf(letters);
            Word word = wordAt(place);
            if (word != null && word.letters == letters) {
                return word;
            }
            Word fresh = takeWord();
            fresh.begin(letters);
            if (place >= 0 && place <= words.size()) {
                words.add(place, fresh);
            }
            return fresh;
        }

        void strike(Word word) {
            int place = placeOf(word.letters);
            if (wordAt(place) == word) {
                words.remove(place);
                word.nextSpare = spare;
                spare = word;
            }
        }

        private Word takeWord() {
            if (spare == null) {
                return new Word();
            }
            Word taken = spare;
            spare = taken.nextSpare;
            return taken;
        }
    }

    /** The documents, the words that they have, and the postings between them. */
    private static final class Library {
        private final ArrayList<Document> documents = new ArrayList<Document>();
        private final Lexicon lexicon = new Lexicon();
        private int wordsInAll;
        private Posting spare;

        int documentCount() {
            return documents.size();
        }

        Document documentOf(int number) {
            return documentAt(indexOf(number));
        }

        /** The document with this number, a new one if need be; null if there is no room. */
        Document openDocument(int number) {
            Document document = documentOf(number);
            if (document != null || documents.size() >= MOST_DOCUMENTS) {
                return document;
            }
            Document fresh = new Document(number);
            documents.add(fresh);
            return fresh;
        }

        boolean removeDocument(int number) {
            int index = indexOf(number);
            Document document = documentAt(index);
            if (document == null) {
                return false;
            }
            forgetWords(document);
            documents.remove(index);
            return true;
        }

        void rewrite(Document document, Tape tape) {
            forgetWords(document);
            int start = tape.wordStart(0);
            for (int i = 0; i < TAPE_WORDS && start < tape.length(); i++) {
                int end = tape.wordEnd(start);
                count(document, lexicon.enter(tape.lettersOf(start, end)));
                start = tape.wordStart(end);
            }
        }

        int rarity(Word word) {
            if (word.holders < 1) {
                return 0;
            }
            int quotient = documents.size() / word.holders;
            int digits = 0;
            while (digits < INT_BITS - 1 && quotient >> digits != 0) {
                digits++;
            }
            return digits;
        }

        private Document documentAt(int index) {
            return index >= 0 && index < documents.size() ? documents.get(index) : null;
        }

        private int indexOf(int number) {
            for (int i = 0; i < documents.size(); i++) {
                Document document = documentAt(i);
                if (document != null && document.number == number) {
                    return i;
                }
            }
            return NONE;
        }

        private void count(Document document, Word word) {
            Posting posting = word.first;
            // A word's newest posting stands first, so the document's own can only be there.
            if (posting == null || posting.document != document) {
                posting = post(document, word);
            }
            posting.times++;
            word.total++;
            document.length++;
            wordsInAll++;
        }

        private Posting post(Document document, Word word) {
            Posting posting = takePosting();
            posting.word = word;
            posting.document = document;
            posting.times = 0;
            posting.nextInDocument = document.first;
            document.first = posting;
            word.link(posting);
            return posting;
        }

        private void forgetWords(Document document) {
            Posting posting = document.first;
            while (posting != null) {
                Posting next = posting.nextInDocument;
                release(posting);
                posting = next;
            }
            wordsInAll -= document.length;
            document.length = 0;
            document.first = null;
        }

        private void release(Posting posting) {
            Word word = posting.word;
            if (word != null) {
                word.unlink(posting);
                if (word.first == null) {
                    lexicon.strike(word);
                }
            }
            posting.word = null;
            posting.document = null;
            posting.nextInDocument = spare;
            spare = posting;
        }

        private Posting takePosting() {
            if (spare == null) {
                return new Posting();
            }
            Posting taken = spare;
            spare = taken.nextInDocument;
            return taken;
        }
    }

    private static final class Term {
        private boolean needed;
        private boolean unwanted;
        private boolean open;
        private long letters;
        private int length;
        private int weight;

        void begin() {
            needed = false;
            unwanted = false;
            open = false;
            letters = 0;
            length = 0;
            weight = 1;
        }

        /** Answers whether there was room for the letter. */
        boolean append(int letter) {
            if (length >= WORD_LETTERS) {
                return false;
            }
            letters = Letters.with(letters, length, letter);
            length++;
            return true;
        }

        /** The last letters, in their order, that a word of this term can have. */
        long lastLetters() {
            return open ? Letters.lastWithBeginning(letters, length) : letters;
        }
    }

    /** The terms that the tape has as a query, read byte by byte, or its fault. */
    private static final class Query {
        private static final int NO_FAULT = 0;
        private static final int WRONG_BYTE = 1;
        private static final int WORD_TOO_LONG = 2;
        private static final int TERM_TOO_MANY = 3;

        // What was read last.
        private static final int BLANK = 0;
        private static final int SIGN = 1;
        private static final int LETTER = 2;
        private static final int STAR = 3;
        private static final int CARET = 4;
        private static final int FIGURE = 5;

        private final Term[] terms = new Term[MOST_TERMS];
        private int count;
        private Term term = new Term();
        private int state;
        private int faultKind = NO_FAULT;
        private int faultPlace = NONE;

        Query() {
            for (int i = 0; i < terms.length; i++) {
                terms[i] = new Term();
            }
        }

        Term termAt(int i) {
            return i >= 0 && i < count && i < terms.length ? terms[i] : null;
        }

        void read(Tape tape) {
            count = 0;
            state = BLANK;
            faultKind = NO_FAULT;
            faultPlace = NONE;
            for (int i = 0; i < tape.length() && faultKind == NO_FAULT; i++) {
                note(take(tape.byteAt(i)), i);
            }
            if (faultKind == NO_FAULT && (state == SIGN || state == CARET)) {
                note(WRONG_BYTE, tape.length());
            }
        }

        private void note(int kind, int place) {
            if (kind != NO_FAULT) {
                faultKind = kind;
                faultPlace = place;
            }
        }

        /** Goes on by one byte; answers the fault that it makes. */
        private int take(int b) {
            switch (state) {
                case BLANK:
                    return takeBetweenTerms(b);
                case SIGN:
                    return takeLetter(b);
                case LETTER:
                    return takeBehindLetter(b);
                case STAR:
                    return takeBehindStar(b);
                case CARET:
                    return takeFigure(b);
                default:
                    return takeBlank(b);
            }
        }

        private int takeBetweenTerms(int b) {
            boolean signed = b == '+' || b == '-';
            if (!signed && !Letters.isLetter(b)) {
                return takeBlank(b);
            }
            Term next = nextTerm();
            if (next == null) {
                return TERM_TOO_MANY;
            }
            term = next;
            term.begin();
            count++;
            if (!signed) {
                return takeLetter(b);
            }
            term.needed = b == '+';
            term.unwanted = b == '-';
            state = SIGN;
            return NO_FAULT;
        }

        /** The term that is free as yet; null if there is none left. */
        private Term nextTerm() {
            return count >= 0 && count < terms.length ? terms[count] : null;
        }

        private int takeLetter(int b) {
            if (!Letters.isLetter(b)) {
                return WRONG_BYTE;
            }
            if (!term.append(Letters.letterOf(b))) {
                return WORD_TOO_LONG;
            }
            state = LETTER;
            return NO_FAULT;
        }

        private int takeBehindLetter(int b) {
            if (Letters.isLetter(b)) {
                return takeLetter(b);
            }
            if (b == '*') {
                term.open = true;
                state = STAR;
                return NO_FAULT;
            }
            return takeBehindStar(b);
        }

        private int takeBehindStar(int b) {
            if (b == '^') {
                state = CARET;
                return NO_FAULT;
            }
            return takeBlank(b);
        }

        private int takeFigure(int b) {
            if (b < '1' || b > '9') {
                return WRONG_BYTE;
            }
            term.weight = b - '0';
            state = FIGURE;
            return NO_FAULT;
        }

        private int takeBlank(int b) {
            if (b > ' ') {
                return WRONG_BYTE;
            }
            state = BLANK;
            return NO_FAULT;
        }
    }

    /** Gives points to the documents that the words of a query lead to. */
    private static final class Search {
        private Document firstMet;
        private int termsNeeded;

        void suiting(Query query, Library library, Best best) {
            termsNeeded = 0;
            for (int i = 0; i < query.count; i++) {
                Term term = query.termAt(i);
                if (term != null) {
                    follow(term, 1 << i, library);
                }
            }
            harvest(best);
        }

        void resembling(Document model, Library library, Best best) {
            termsNeeded = 0;
            meet(model);
            model.barred = true;
            for (Posting own = model.first; own != null; own = own.nextInDocument) {
                Word word = own.word;
                if (word != null) {
                    reward(word, Math.min(own.times, GREATEST_WEIGHT) * library.rarity(word), 0);
                }
            }
            harvest(best);
        }

        private void follow(Term term, int termBit, Library library) {
            if (term.needed) {
                termsNeeded |= termBit;
            }
            Lexicon lexicon = library.lexicon;
            long last = term.lastLetters();
            for (int i = lexicon.placeOf(term.letters); i < lexicon.size(); i++) {
                Word word = lexicon.wordAt(i);
                if (word == null || word.letters > last) {
                    break;
                }
                if (term.unwanted) {
                    bar(word);
                } else {
                    reward(word, term.weight * library.rarity(word), termBit);
                }
            }
        }

        private void reward(Word word, int factor, int termBit) {
            for (Posting posting = word.first; posting != null; posting = posting.nextInWord) {
                Document document = posting.document;
                if (document != null) {
                    meet(document);
                    document.termsMet |= termBit;
                    document.points += factor * posting.impact();
                }
            }
        }

        private void bar(Word word) {
            for (Posting posting = word.first; posting != null; posting = posting.nextInWord) {
                Document document = posting.document;
                if (document != null) {
                    meet(document);
                    document.barred = true;
                }
            }
        }

        private void meet(Document document) {
            if (document.met) {
                return;
            }
            document.met = true;
            document.barred = false;
            document.termsMet = 0;
            document.points = 0;
            document.nextMet = firstMet;
            firstMet = document;
        }

        private void harvest(Best best) {
            for (Document document = firstMet; document != null; document = document.nextMet) {
                boolean allNeeded = (document.termsMet & termsNeeded) == termsNeeded;
                if (!document.barred && allNeeded && document.points > 0) {
                    best.offer(document.number, document.points);
                }
                document.met = false;
            }
            firstMet = null;
        }
    }

    /** The best hits that were offered, at most a limit of them, the best first. */
    private static final class Best {
        private final int[] numbers = new int[MOST_FOUND];
        private final int[] points = new int[MOST_FOUND];
        private int limit;
        private int count;

        void start(int most) {
            limit = Math.max(0, Math.min(most, MOST_FOUND));
            count = 0;
        }

        boolean has(int i) {
            return i >= 0 && i < count;
        }

        int numberAt(int i) {
            return i >= 0 && i < numbers.length ? numbers[i] : NONE;
        }

        int pointsAt(int i) {
            return i >= 0 && i < points.length ? points[i] : 0;
        }

        void offer(int number, int itsPoints) {
            int place = count;
            while (place > 0 && goesBefore(place - 1, number, itsPoints)) {
                place--;
            }
            if (place >= limit) {
                return;
            }
            if (count < limit) {
                count++;
            }
            for (int i = count - 1; i > place; i--) {
                set(i, numberAt(i - 1), pointsAt(i - 1));
            }
            set(place, number, itsPoints);
        }

        private boolean goesBefore(int i, int number, int itsPoints) {
            int there = pointsAt(i);
            return itsPoints > there || itsPoints == there && number < numberAt(i);
        }

        private void set(int i, int number, int itsPoints) {
            if (i >= 0 && i < numbers.length && i < points.length) {
                numbers[i] = number;
                points[i] = itsPoints;
            }
        }
    }
}
