import java.util.ArrayList;
import java.util.List;
import java.util.Map;
import java.util.TreeMap;

/**
 * What the document says, in another way than the class: texts and maps, and every search
 * looks at every document. Answers are texts, so that an exception is an answer too.
 */
final class Model {
    private static final String ARGUMENT = "IllegalArgumentException";
    private static final String INDEX = "IndexOutOfBoundsException";

    private final StringBuilder tape = new StringBuilder();
    private final TreeMap<Integer, List<String>> documents = new TreeMap<>();
    private final List<int[]> found = new ArrayList<>();
    private int fault = 0;
    private int place = -1;

    private record Term(char sign, String letters, boolean open, int weight) {
        boolean standsFor(String word) {
            return open ? word.startsWith(letters) : word.equals(letters);
        }
    }

    String feed(int n, long bytes) {
        if (n < 1 || n > 8) {
            return ARGUMENT;
        }
        if (tape.length() + n > 400) {
            return "-1";
        }
        for (int i = 0; i < n; i++) {
            tape.append((char) (bytes >>> 8 * i & 255));
        }
        return "" + tape.length();
    }

    String wipe() {
        int had = tape.length();
        tape.setLength(0);
        return "" + had;
    }

    String put(int number) {
        if (number < 0 || number > 9999) {
            return ARGUMENT;
        }
        if (!documents.containsKey(number) && documents.size() == 120) {
            return "-1";
        }
        List<String> words = words(tape.toString());
        documents.put(number, words);
        return "" + words.size();
    }

    String drop(int number) {
        if (number < 0 || number > 9999) {
            return ARGUMENT;
        }
        return "" + (documents.remove(number) != null);
    }

    String told(int what) {
        switch (what) {
            case 0:
                return "" + documents.size();
            case 1:
                return "" + totals().size();
            case 2:
                return "" + totals().values().stream().mapToInt(t -> t).sum();
            default:
                return ARGUMENT;
        }
    }

    String word(int i) {
        List<String> words = new ArrayList<>(totals().keySet());
        return i < 0 || i >= words.size() ? "-1" : "" + Check.packed(words.get(i));
    }

    String about(int what) {
        if (what < 0 || what > 2) {
            return ARGUMENT;
        }
        List<String> words = words(tape.toString());
        if (words.isEmpty()) {
            return "-1";
        }
        String word = words.get(0);
        return "" + (what == 0 ? holders(word) : what == 1 ? rarity(word) : totals().getOrDefault(word, 0));
    }

    String find(int k) {
        if (k < 1 || k > 50) {
            return ARGUMENT;
        }
        found.clear();
        fault = 0;
        place = -1;
        List<Term> terms = terms(tape.toString());
        if (fault != 0) {
            return "-1";
        }
        return rank(terms, -1, k);
    }

    String fault() {
        return "" + fault;
    }

    String place() {
        return "" + place;
    }

    String similar(int number, int k) {
        if (k < 1 || k > 50 || !documents.containsKey(number)) {
            return ARGUMENT;
        }
        List<Term> terms = new ArrayList<>();
        List<String> words = documents.get(number);
        for (String word : words.stream().distinct().toList()) {
            terms.add(new Term(' ', word, false, Math.min(9, times(words, word))));
        }
        found.clear();
        return rank(terms, number, k);
    }

    String hit(int i) {
        return i < 0 || i >= found.size() ? INDEX : "" + found.get(i)[0];
    }

    String score(int i) {
        return i < 0 || i >= found.size() ? INDEX : "" + found.get(i)[1];
    }

    private String rank(List<Term> terms, int butNot, int k) {
        List<int[]> hits = new ArrayList<>();
        for (Map.Entry<Integer, List<String>> document : documents.entrySet()) {
            int score = scoreOf(document.getValue(), terms);
            if (document.getKey() != butNot && score > 0) {
                hits.add(new int[] {document.getKey(), score});
            }
        }
        // The sort keeps the order of the numbers where scores are the same.
        hits.sort((a, b) -> Integer.compare(b[1], a[1]));
        found.addAll(hits.subList(0, Math.min(k, hits.size())));
        return "" + found.size();
    }

    /** 0 for a document that is no hit. */
    private int scoreOf(List<String> words, List<Term> terms) {
        int score = 0;
        for (Term term : terms) {
            List<String> meant = words.stream().distinct().filter(term::standsFor).toList();
            if (meant.isEmpty() ? term.sign == '+' : term.sign == '-') {
                return 0;
            }
            for (String word : meant) {
                int times = times(words, word);
                score += term.weight * rarity(word) * (256 * times / (times + 1 + words.size() / 8));
            }
        }
        return score;
    }

    private static int times(List<String> words, String word) {
        return (int) words.stream().filter(word::equals).count();
    }

    private int holders(String word) {
        return (int) documents.values().stream().filter(words -> words.contains(word)).count();
    }

    private int rarity(String word) {
        int holders = holders(word);
        return holders == 0 ? 0 : Integer.toBinaryString(documents.size() / holders).length();
    }

    private TreeMap<String, Integer> totals() {
        TreeMap<String, Integer> totals = new TreeMap<>();
        for (List<String> words : documents.values()) {
            words.forEach(word -> totals.merge(word, 1, Integer::sum));
        }
        return totals;
    }

    private static List<String> words(String text) {
        List<String> words = new ArrayList<>();
        for (String word : text.split("[^a-zA-Z]+")) {
            if (!word.isEmpty()) {
                words.add(lower(word.substring(0, Math.min(12, word.length()))));
            }
        }
        return words;
    }

    private static String lower(String letters) {
        return letters.toLowerCase(java.util.Locale.ROOT);
    }

    private static boolean isLetter(char c) {
        return c >= 'a' && c <= 'z' || c >= 'A' && c <= 'Z';
    }

    /** Reads term by term; behind the text stands a character that can come nowhere. */
    private List<Term> terms(String text) {
        String all = text + '\uffff';
        List<Term> terms = new ArrayList<>();
        int at = 0;
        while (true) {
            while (all.charAt(at) <= 32) {
                at++;
            }
            if (at == text.length()) {
                return terms;
            }
            char first = all.charAt(at);
            if (!isLetter(first) && first != '+' && first != '-') {
                return failed(1, at);
            }
            if (terms.size() == 16) {
                return failed(3, at);
            }
            char sign = isLetter(first) ? ' ' : first;
            int start = isLetter(first) ? at : at + 1;
            int end = start;
            while (isLetter(all.charAt(end))) {
                end++;
            }
            if (end == start) {
                return failed(1, start);
            }
            if (end - start > 12) {
                return failed(2, start + 12);
            }
            at = end;
            boolean open = all.charAt(at) == '*';
            if (open) {
                at++;
            }
            int weight = 1;
            if (all.charAt(at) == '^') {
                weight = all.charAt(at + 1) - '0';
                if (weight < 1 || weight > 9) {
                    return failed(1, at + 1);
                }
                at += 2;
            }
            if (at < text.length() && all.charAt(at) > 32) {
                return failed(1, at);
            }
            terms.add(new Term(sign, lower(all.substring(start, end)), open, weight));
        }
    }

    private List<Term> failed(int kind, int where) {
        fault = kind;
        place = where;
        return List.of();
    }
}
