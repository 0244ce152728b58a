/** Counts and prints answers that are not the ones due; shared by the tests of the project. */
final class Checks {
    private String sentence = "";
    private int sentences;
    private int asked;
    private int wrong;

    /** A test of one sentence of the document; what it finds wrong is printed with that sentence. */
    void sentence(String quoted, Runnable test) {
        sentence = "'" + quoted + "': ";
        sentences++;
        try {
            test.run();
        } catch (RuntimeException thrown) {
            due("the test", thrown, "no exception");
        }
        sentence = "";
    }

    boolean due(String what, Object got, Object want) {
        asked++;
        boolean asDue = got.equals(want);
        if (!asDue) {
            wrong++;
            System.out.println(sentence + what + " answered " + got + ", due is " + want);
        }
        return asDue;
    }

    void dueState(String what, ArcCache cache, String want) {
        due(what, state(cache), want);
    }

    void readDue(ArcCache cache, int address, String want) {
        cache.read(address);
        dueState("state after read(" + address + ")", cache, want);
    }

    static ArcCache cacheOf(int pages) {
        return new ArcCache(pages - 1);
    }

    static void readAll(ArcCache cache, int... addresses) {
        for (int address : addresses) {
            cache.read(address);
        }
    }

    /** The four lists from the new end on, and TARGET, as in "3 | 1 2 | - | 4 : 0". */
    static String state(ArcCache cache) {
        StringBuilder text = new StringBuilder();
        for (int list = 1; list <= 4; list++) {
            text.append(list == 1 ? "" : " | ").append(addresses(cache, list));
        }
        return text.append(" : ").append(cache.target()).toString();
    }

    /** Goes on until at() says that there is none, so that a length that does not fit shows. */
    private static String addresses(ArcCache cache, int list) {
        StringBuilder text = new StringBuilder();
        int found = 0;
        for (int address = cache.at(list, 0); address != -1 && found < 64; address = cache.at(list, found)) {
            text.append(found == 0 ? "" : " ").append(address);
            found++;
        }
        int length = cache.length(list);
        if (found != length) {
            return text + " (length says " + length + ")";
        }
        return found == 0 ? "-" : text.toString();
    }

    /** All that an object can be asked; some 200 of its 512 calls. */
    static String everything(ArcCache cache) {
        StringBuilder text = new StringBuilder(state(cache));
        text.append(", ").append(cache.hits()).append(" hits, ").append(cache.misses()).append(" misses, ");
        text.append(cache.gone()).append(" gone");
        for (int address = 0; address < 64; address++) {
            int word = cache.store(address);
            text.append(word == 0 ? "" : ", store(" + address + ") " + word);
            text.append(cache.isDirty(address) ? ", " + address + " dirty" : "");
        }
        return text.toString();
    }

    void end() {
        String tests = sentences == 0 ? "" : sentences + " sentences, ";
        System.out.println(tests + asked + " answers, " + wrong + " of them not as due");
        if (wrong != 0) {
            System.exit(1);
        }
    }
}
