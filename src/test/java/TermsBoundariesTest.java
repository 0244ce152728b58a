/** A test for each sentence of 'What it is' and 'Terms' that names a boundary, but for the request's own. */
public final class TermsBoundariesTest {
    private static final Checks CHECKS = new Checks();

    public static void main(String[] args) {
        CHECKS.sentence("An object is used for at most 512 calls after it has been made",
                TermsBoundariesTest::objectIsUsedForAtMost512Calls);
        CHECKS.sentence("ADDRESSES are 0 .. 63", TermsBoundariesTest::addressesAre0To63);
        CHECKS.sentence("THE STORE has a word for each", TermsBoundariesTest::storeHasAWordForEach);
        CHECKS.sentence("at first 0", TermsBoundariesTest::storeIsAtFirst0);
        CHECKS.sentence("THE CACHE has C pages", TermsBoundariesTest::cacheHasCPages);
        CHECKS.sentence("each an address with its word", TermsBoundariesTest::eachPageHasItsWord);
        CHECKS.sentence("DIRTY or not", TermsBoundariesTest::eachPageIsDirtyOrNot);
        CHECKS.sentence("lists 3 and 4 such as have no page any more",
                TermsBoundariesTest::lists3And4HaveNoPageAnyMore);
        CHECKS.sentence("each has a NEW end and an OLD end", TermsBoundariesTest::eachListHasANewAndAnOldEnd);
        CHECKS.sentence("TARGET is 0 at first", TermsBoundariesTest::targetIs0AtFirst);
        CHECKS.end();
    }

    private static void due(String what, Object got, Object want) {
        CHECKS.due(what, got, want);
    }

    /** With one page each read of another address is a miss, and lets the page before go. */
    private static ArcCache after511Reads() {
        ArcCache cache = Checks.cacheOf(1);
        for (int call = 0; call < 511; call++) {
            cache.read(call % 64);
        }
        return cache;
    }

    private static void objectIsUsedForAtMost512Calls() {
        due("call 512, misses()", after511Reads().misses(), 511);
        due("call 512, hits()", after511Reads().hits(), 0);
        due("call 512, gone()", after511Reads().gone(), 510);
        due("call 512, at(1, 0)", after511Reads().at(1, 0), 510 % 64);
        due("call 512, write(7, 1)", after511Reads().write(7, 1), true);
        ArcCache cache = Checks.cacheOf(24);
        for (int call = 0; call < 511; call++) {
            cache.write(call % 25, call);
        }
        // The calls of one address are 25 apart, and 510 is the last of address 10.
        due("call 512, read(10)", cache.read(10), 510);
    }

    private static void addressesAre0To63() {
        ArcCache cache = Checks.cacheOf(24);
        for (int address = -3; address < 67; address++) {
            boolean is = address >= 0 && address <= 63;
            due("write(" + address + ", 1)", cache.write(address, 1), is);
        }
        due("misses()", cache.misses(), 64);
    }

    private static void storeHasAWordForEach() {
        ArcCache cache = Checks.cacheOf(24);
        for (int address = 0; address < 64; address++) {
            cache.write(address, 100 - 3 * address);
        }
        cache.flush();
        for (int address = 0; address < 64; address++) {
            due("store(" + address + ")", cache.store(address), 100 - 3 * address);
        }
    }

    private static void storeIsAtFirst0() {
        ArcCache cache = Checks.cacheOf(24);
        for (int address = 0; address < 64; address++) {
            due("store(" + address + ")", cache.store(address), 0);
            due("read(" + address + ")", cache.read(address), 0);
        }
    }

    private static void cacheHasCPages() {
        for (int pages = 1; pages <= 24; pages++) {
            ArcCache cache = Checks.cacheOf(pages);
            for (int address = 0; address < pages; address++) {
                cache.read(address);
            }
            due("C " + pages + ": gone() when all pages are there", cache.gone(), 0);
            due("C " + pages + ": length(1) when all pages are there", cache.length(1), pages);
            cache.read(63);
            due("C " + pages + ": gone() after one more", cache.gone(), 1);
            due("C " + pages + ": length(1) after one more", cache.length(1), pages);
            cache.read(63);
            cache.read(62);
            due("C " + pages + ": pages of both lists", cache.length(1) + cache.length(2), pages);
        }
    }

    private static void eachPageHasItsWord() {
        ArcCache cache = Checks.cacheOf(24);
        for (int address = 40; address < 64; address++) {
            cache.write(address, 1000 + address);
        }
        for (int address = 40; address < 64; address++) {
            due("read(" + address + ")", cache.read(address), 1000 + address);
        }
        due("gone()", cache.gone(), 0);
    }

    private static void eachPageIsDirtyOrNot() {
        ArcCache cache = Checks.cacheOf(24);
        for (int address = 40; address < 64; address++) {
            cache.read(address);
        }
        for (int address = 40; address < 64; address += 2) {
            cache.write(address, 7);
        }
        for (int address = 40; address < 64; address++) {
            due("isDirty(" + address + ")", cache.isDirty(address), address % 2 == 0);
        }
    }

    private static void lists3And4HaveNoPageAnyMore() {
        ArcCache cache = Checks.cacheOf(2);
        cache.write(1, 5);
        cache.read(1);
        cache.write(2, 6);
        CHECKS.readDue(cache, 3, "3 | 1 | 2 | - : 0");
        due("isDirty(2) in list 3", cache.isDirty(2), false);
        CHECKS.readDue(cache, 2, "3 | 2 | - | 1 : 1");
        due("isDirty(1) in list 4", cache.isDirty(1), false);
        due("flush()", cache.flush(), 0);
        due("misses()", cache.misses(), 4);
    }

    private static void eachListHasANewAndAnOldEnd() {
        ArcCache cache = Runs.twoInEachList();
        int[][] ends = {{41, 40}, {32, 31}, {35, 33}, {1, 34}};
        for (int list = 1; list <= 4; list++) {
            due("new end of list " + list, cache.at(list, 0), ends[list - 1][0]);
            due("old end of list " + list, cache.at(list, 1), ends[list - 1][1]);
        }
    }

    private static void targetIs0AtFirst() {
        for (int pages = 1; pages <= 24; pages++) {
            due("C " + pages + ": target()", Checks.cacheOf(pages).target(), 0);
        }
    }
}
