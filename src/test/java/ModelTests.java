/**
 * Long runs of calls, made by a fixed row of numbers, each answer held against the model's.
 * Runs differ in how many documents, words and faults they make.
 */
public final class ModelTests {
    private static final int RUNS = 400;
    private static final int CALLS = 512;

    private final RankedSearch real = new RankedSearch();
    private final Model model = new Model();
    private final int run;
    private final int manner;
    private long state;
    private int calls;

    private ModelTests(int itsRun) {
        run = itsRun;
        manner = itsRun % 5;
        state = itsRun * 7919L + 17;
    }

    public static void main(String[] args) {
        for (int i = 0; i < RUNS; i++) {
            new ModelTests(i).go();
        }
        Check.end();
    }

    private int below(int n) {
        state = state * 6364136223846793005L + 1442695040888963407L;
        return (int) ((state >>> 33) % n);
    }

    private void go() {
        if (manner == 3) {
            fill();
        }
        while (calls < CALLS) {
            switch (below(12)) {
                case 0, 1, 2 -> document();
                case 3, 4, 5, 6 -> query();
                case 7 -> drop();
                case 8 -> resemble();
                case 9 -> ask();
                case 10 -> wild();
                default -> words();
            }
        }
    }

    /** More documents than there is room for. */
    private void fill() {
        write(text(6));
        for (int i = 0; i < 125; i++) {
            put(i * 3);
            if (i % 20 == 0) {
                write(text(4));
            }
        }
    }

    private int number() {
        int range = manner == 3 ? 400 : manner == 4 ? 3 : 12;
        return below(range);
    }

    private String letters() {
        int most = manner == 0 ? 2 : manner == 1 ? 14 : 3;
        int kinds = manner == 2 ? 26 : 2;
        StringBuilder letters = new StringBuilder();
        for (int i = below(most); i >= 0; i--) {
            letters.append((char) ((below(8) == 0 ? 'A' : 'a') + below(kinds)));
        }
        return letters.toString();
    }

    private String text(int most) {
        String parting = " ,.\n-\u00e9\u0000@[`{9";
        StringBuilder text = new StringBuilder();
        for (int i = below(most + 1); i > 0; i--) {
            text.append(letters()).append(parting.charAt(below(parting.length())));
        }
        return text.toString();
    }

    private String terms() {
        StringBuilder text = new StringBuilder();
        int count = below(10) == 0 ? 15 + below(4) : below(5);
        for (int i = 0; i < count; i++) {
            text.append("      +-".charAt(below(8)) == ' ' ? "" : below(2) == 0 ? "+" : "-").append(letters());
            text.append(below(3) == 0 ? "*" : "");
            text.append(below(4) == 0 ? "^" + (1 + below(9)) : "").append(" \n\t ".charAt(below(4)));
        }
        String strange = "+-*^019az \u0080\u00ff.";
        for (int i = below(4) - 2; i > 0 && text.length() > 0; i--) {
            text.setCharAt(below(text.length()), strange.charAt(below(strange.length())));
        }
        if (below(4) == 0 && text.length() > 0) {
            text.setLength(below(text.length()));
        }
        return text.toString();
    }

    private void write(String text) {
        due("wipe()", () -> real.wipe(), () -> model.wipe());
        for (int i = 0; i < text.length(); i += 8) {
            int n = Math.min(8, text.length() - i);
            long bytes = below(2) == 0 ? 0 : -1L << 8 * (n - 1) << 8;
            for (int j = 0; j < n; j++) {
                bytes |= (long) text.charAt(i + j) << 8 * j;
            }
            feed(n, bytes);
        }
    }

    private void document() {
        if (below(5) != 0) {
            write(text(below(6) == 0 ? 60 : 12));
        }
        put(number());
        ask();
    }

    private void query() {
        write(terms());
        find(1 + below(below(2) == 0 ? 4 : 50));
        found();
    }

    private void drop() {
        int number = number();
        due("drop(" + number + ")", () -> real.drop(number), () -> model.drop(number));
    }

    private void resemble() {
        similar(number(), 1 + below(50));
        found();
    }

    private void found() {
        due("fault()", () -> real.fault(), () -> model.fault());
        due("place()", () -> real.place(), () -> model.place());
        int most = below(8) == 0 ? 51 : 3;
        for (int i = 0; i < most; i++) {
            hit(i);
            score(i);
        }
    }

    private void ask() {
        int what = below(3);
        due("told(" + what + ")", () -> real.told(what), () -> model.told(what));
        due("about(" + what + ")", () -> real.about(what), () -> model.about(what));
    }

    private void words() {
        for (int i = below(3) - 1, step = 1 + below(3); i < 12; i += step) {
            word(i);
        }
        int size = Integer.parseInt(model.told(1));
        word(size);
        word(size - 1);
    }

    private void wild() {
        int[] values = {Integer.MIN_VALUE, -1, 0, 1, 3, 8, 9, 50, 51, 9999, 10000, Integer.MAX_VALUE};
        int value = values[below(values.length)];
        switch (below(9)) {
            case 0 -> feed(value, 0x2062206120206161L);
            case 1 -> put(value);
            case 2 -> find(value);
            case 3 -> similar(number(), value);
            case 4 -> similar(value, 1);
            case 5 -> hit(value);
            case 6 -> score(value);
            case 7 -> find(1 + below(50));
            default -> word(value);
        }
        found();
    }

    private interface Answering {
        Object answer();
    }

    private static String answer(Answering call) {
        try {
            return "" + call.answer();
        } catch (RuntimeException e) {
            return e.getClass().getSimpleName();
        }
    }

    private void feed(int n, long bytes) {
        due("feed(" + n + ", " + bytes + ")", () -> real.feed(n, bytes), () -> model.feed(n, bytes));
    }

    private void put(int number) {
        due("put(" + number + ")", () -> real.put(number), () -> model.put(number));
    }

    private void word(int i) {
        due("word(" + i + ")", () -> real.word(i), () -> model.word(i));
    }

    private void find(int k) {
        due("find(" + k + ")", () -> real.find(k), () -> model.find(k));
    }

    private void similar(int number, int k) {
        due("similar(" + number + ", " + k + ")", () -> real.similar(number, k), () -> model.similar(number, k));
    }

    private void hit(int i) {
        due("hit(" + i + ")", () -> real.hit(i), () -> model.hit(i));
    }

    private void score(int i) {
        due("score(" + i + ")", () -> real.score(i), () -> model.score(i));
    }

    /** What is asked after the last call that the document speaks of is left out. */
    private void due(String call, Answering got, Answering want) {
        if (calls < CALLS) {
            calls++;
            Check.due("run " + run + ", call " + calls + ", " + call, answer(got), answer(want));
        }
    }
}
