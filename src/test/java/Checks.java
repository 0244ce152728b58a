/** Counts and prints answers that are not the ones due; shared by the tests of the project. */
final class Checks {
    private int wrong;
    private int asked;

    void due(String what, Object got, Object want) {
        asked++;
        if (!got.equals(want)) {
            wrong++;
            System.out.println(what + " answered " + got + ", due is " + want);
        }
    }

    /** The four lists from the new end on, and TARGET, as in "3 | 1 2 | - | 4 : 0". */
    static String state(ArcCache cache) {
        StringBuilder text = new StringBuilder();
        for (int list = 1; list <= 4; list++) {
            text.append(list == 1 ? "" : " | ").append(addresses(cache, list));
        }
        return text.append(" : ").append(cache.target()).toString();
    }

    /** Goes on until at() says that there is none, so that a length that does not fit shows. */
    private static String addresses(ArcCache cache, int list) {
        StringBuilder text = new StringBuilder();
        int i = 0;
        for (; i < 100 && cache.at(list, i) != -1; i++) {
            text.append(i == 0 ? "" : " ").append(cache.at(list, i));
        }
        if (i != cache.length(list)) {
            text.append(" (length says ").append(cache.length(list)).append(")");
        }
        return i == 0 && cache.length(list) == 0 ? "-" : text.toString();
    }

    void end() {
        System.out.println(asked + " answers, " + wrong + " of them not as due");
        if (wrong != 0) {
            System.exit(1);
        }
    }
}
