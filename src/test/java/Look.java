/** All that can be seen of an object, as a text: objects that look alike hold the same. */
final class Look {
    private static final int MOST_SHOWN = 5;

    private Look() {
    }

    /** What can be seen without changing anything. */
    static String still(RankedSearch x) {
        StringBuilder seen = new StringBuilder();
        for (int what = 0; what < 3; what++) {
            seen.append(" told ").append(x.told(what)).append(" about ").append(x.about(what));
        }
        for (int i = 0; i < x.told(1); i++) {
            seen.append(" word ").append(x.word(i));
        }
        seen.append(" fault ").append(x.fault()).append(" place ").append(x.place());
        return seen.append(found(x)).toString();
    }

    /** The first ones that were found, and whether there are more. */
    static String found(RankedSearch x) {
        StringBuilder seen = new StringBuilder(" found");
        for (int i = 0; i <= MOST_SHOWN; i++) {
            int place = i;
            if (!Check.thrown(() -> x.hit(place)).equals("nothing")) {
                return seen.append(" end").toString();
            }
            seen.append(' ').append(x.hit(i)).append(':').append(x.score(i));
        }
        return seen.append(" ..").toString();
    }

    /**
     * This, and what the tape and the documents turn out to be when they are used: the tape
     * as a query, then the queries, then what is similar to the first documents.
     */
    static String whole(RankedSearch x, String... queries) {
        StringBuilder seen = new StringBuilder(still(x));
        seen.append(" tape found ").append(x.find(MOST_SHOWN)).append(found(x));
        seen.append(" fault ").append(x.fault()).append(" place ").append(x.place());
        for (String query : queries) {
            int length = x.wipe();
            Check.feed(x, query);
            seen.append(" of ").append(length).append(' ').append(query);
            seen.append(' ').append(x.find(MOST_SHOWN)).append(found(x));
        }
        for (int i = 0; i <= 3; i++) {
            int number = i;
            String thrown = Check.thrown(() -> x.similar(number, MOST_SHOWN));
            seen.append(" like ").append(number).append(" throws ").append(thrown).append(found(x));
        }
        return seen.toString();
    }

    /** The tape, by the words that document 1 has with it, by its length, and by what comes behind it. */
    static String tape(RankedSearch x) {
        StringBuilder seen = new StringBuilder(" fed ").append(x.feed(1, 'q'));
        seen.append(" put ").append(x.put(1)).append(still(x));
        return seen.append(" wiped ").append(x.wipe()).toString();
    }
}
