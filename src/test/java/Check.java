import java.nio.charset.StandardCharsets;

/** What the tests share: calls with texts, and a count of the answers that were not due. */
final class Check {
    private static int wrong = 0;
    private static int seen = 0;

    private Check() {
    }

    interface Call {
        void run();
    }

    static void due(String what, long got, long want) {
        seen++;
        if (got != want) {
            wrong++;
            System.out.println(what + " answered " + got + ", due is " + want);
        }
    }

    static void due(String what, boolean got, boolean want) {
        due(what, got ? 1 : 0, want ? 1 : 0);
    }

    static void due(String what, String got, String want) {
        seen++;
        if (!got.equals(want)) {
            wrong++;
            System.out.println(what + " answered \"" + got + "\", due is \"" + want + "\"");
        }
    }

    /** The call has to throw an exception of just this class. */
    static void dueThrow(String what, Class<?> exception, Call call) {
        due(what, thrown(call), exception.getSimpleName());
    }

    static String thrown(Call call) {
        try {
            call.run();
            return "nothing";
        } catch (RuntimeException e) {
            return e.getClass().getSimpleName();
        }
    }

    /** Feeds a text, each character a byte; answers what the last feed answered. */
    static int feed(RankedSearch x, String text) {
        byte[] bytes = text.getBytes(StandardCharsets.ISO_8859_1);
        int answer = 0;
        for (int i = 0; i < bytes.length; i += 8) {
            int n = Math.min(8, bytes.length - i);
            long packed = 0;
            for (int j = 0; j < n; j++) {
                packed |= (bytes[i + j] & 255L) << 8 * j;
            }
            answer = x.feed(n, packed);
        }
        return answer;
    }

    /** The tape is this text then, and no more. */
    static void tape(RankedSearch x, String text) {
        x.wipe();
        feed(x, text);
    }

    static int put(RankedSearch x, int number, String text) {
        tape(x, text);
        return x.put(number);
    }

    static int find(RankedSearch x, String query, int k) {
        tape(x, query);
        return x.find(k);
    }

    /** All that was found, as "number:score number:score". */
    static String found(RankedSearch x) {
        StringBuilder all = new StringBuilder();
        for (int i = 0; i <= 50; i++) {
            int place = i;
            if (!thrown(() -> x.hit(place)).equals("nothing")) {
                break;
            }
            all.append(i == 0 ? "" : " ").append(x.hit(i)).append(':').append(x.score(i));
        }
        return all.toString();
    }

    /** A word as word() answers it. */
    static long packed(String letters) {
        long packed = 0;
        for (int i = 0; i < letters.length(); i++) {
            packed |= (letters.charAt(i) - 'a' + 1L) << 5 * i;
        }
        return packed;
    }

    static String repeated(String text, int times) {
        return text.repeat(times);
    }

    /** Ends the program with code 1 if an answer was not the one that was due. */
    static void end() {
        System.out.println(seen + " answers, " + wrong + " not as due");
        if (wrong != 0 || seen == 0) {
            System.exit(1);
        }
    }
}
