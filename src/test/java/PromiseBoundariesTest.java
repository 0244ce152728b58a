/** A test for each sentence of promises 1 to 14 that names a boundary; what is due was worked out by hand. */
public final class PromiseBoundariesTest {
    private static final Checks CHECKS = new Checks();
    private static final int MIN = Integer.MIN_VALUE;
    private static final int MAX = Integer.MAX_VALUE;
    private static final String BEGINNING = "- | - | - | - : 0, 0 hits, 0 misses, 0 gone";

    /** -64 .. -1 and 64 .. 127 would be addresses if they were taken modulo 64. */
    private static final int[] NO_ADDRESSES = {-1, 64, -2, 65, -63, -64, 127, 128, MIN, MIN + 1, MAX - 1, MAX};
    private static final int[] NO_LISTS = {0, 5, -1, 6, -4, 8, MIN, MIN + 1, MAX - 1, MAX};

    public static void main(String[] args) {
        objects();
        requests();
        looks();
        counts();
        CHECKS.end();
    }

    private static void objects() {
        CHECKS.sentence("Promise 1: C is 1 more than c modulo 24 (0 .. 23)",
                PromiseBoundariesTest::cIs1MoreThanCModulo24);
        CHECKS.sentence("Promise 2: As at the beginning", PromiseBoundariesTest::asAtTheBeginning);
        CHECKS.sentence("Promise 2: As at the beginning [a new object]",
                PromiseBoundariesTest::initOfAnObjectAtItsBeginning);
        CHECKS.sentence("Promise 2: As at the beginning [the same C]", PromiseBoundariesTest::initKeepsC);
    }

    private static void requests() {
        CHECKS.sentence("Promise 3: A request for an address: its word", PromiseBoundariesTest::readOfTheEdges);
        CHECKS.sentence("Promise 3: 0 when it is none (nothing is done)", PromiseBoundariesTest::readOfNone);
        CHECKS.sentence("Promise 4: its page has that word then, and is dirty: true",
                PromiseBoundariesTest::pageHasThatWordThen);
        CHECKS.sentence("Promise 4: false when it is none", PromiseBoundariesTest::writeOfNone);
        CHECKS.sentence("Promise 5: All dirty pages' words come to the store",
                PromiseBoundariesTest::allDirtyPagesWordsComeToTheStore);
        CHECKS.sentence("Promise 5: they are not dirty any more", PromiseBoundariesTest::notDirtyAnyMore);
        CHECKS.sentence("Promise 5: how many were", PromiseBoundariesTest::howManyWere);
    }

    private static void looks() {
        CHECKS.sentence("Promise 6: In which list an address is, 1 .. 4", PromiseBoundariesTest::inWhichList);
        CHECKS.sentence("Promise 6: 0 in none", PromiseBoundariesTest::zeroInNone);
        CHECKS.sentence("Promise 7: Address i of a list (1 .. 4), from the new end on",
                PromiseBoundariesTest::addressFromTheNewEndOn);
        CHECKS.sentence("Promise 7: -1 when there is none such", PromiseBoundariesTest::noneSuchAddress);
        CHECKS.sentence("Promise 7: -1 when there is none such [another list]",
                PromiseBoundariesTest::noneSuchList);
        CHECKS.sentence("Promise 8: How many addresses a list has", PromiseBoundariesTest::howManyAListHas);
        CHECKS.sentence("Promise 8: -1 for another list", PromiseBoundariesTest::lengthOfAnotherList);
        CHECKS.sentence("Promise 12: The store's word", PromiseBoundariesTest::storesWord);
        CHECKS.sentence("Promise 12: 0 for no address", PromiseBoundariesTest::storeOfNone);
        CHECKS.sentence("Promise 13: Whether an address has a dirty page", PromiseBoundariesTest::hasADirtyPage);
        CHECKS.sentence("Promise 13: Whether an address has a dirty page [no address]",
                PromiseBoundariesTest::isDirtyOfNone);
    }

    private static void counts() {
        CHECKS.sentence("Promise 9: TARGET", PromiseBoundariesTest::targetFrom0ToC);
        CHECKS.sentence("Promise 10: How many hits there were", PromiseBoundariesTest::howManyHits);
        CHECKS.sentence("Promise 11: How many misses there were", PromiseBoundariesTest::howManyMisses);
        CHECKS.sentence("Promise 14: How many pages went", PromiseBoundariesTest::howManyPagesWent);
    }

    private static void due(String what, Object got, Object want) {
        CHECKS.due(what, got, want);
    }

    /** Addresses 0 and 63 have dirty pages, 1 and 62 words in the store. */
    private static ArcCache edgesInUse() {
        ArcCache cache = Checks.cacheOf(4);
        cache.write(1, 21);
        cache.write(62, 22);
        cache.flush();
        cache.write(0, 23);
        cache.write(63, 24);
        return cache;
    }

    private static void cIs1MoreThanCModulo24() {
        int[] given = {0, 1, 22, 23, 24, 25, 47, 48, -1, -2, -23, -24, -25, -48, MAX - 1, MAX, MIN, MIN + 1};
        int[] pages = {1, 2, 23, 24, 1, 2, 24, 1, 24, 23, 2, 1, 24, 1, 7, 8, 17, 18};
        for (int k = 0; k < given.length; k++) {
            ArcCache cache = new ArcCache(given[k]);
            for (int address = 0; address < 64; address++) {
                cache.read(address);
            }
            due("pages of ArcCache(" + given[k] + ")", cache.length(1), pages[k]);
            due("gone() of ArcCache(" + given[k] + ")", cache.gone(), 64 - pages[k]);
        }
    }

    private static void asAtTheBeginning() {
        ArcCache cache = Runs.twoInEachList();
        cache.write(32, 5);
        cache.flush();
        cache.write(32, 6);
        cache.write(40, 7);
        due("target() before init()", cache.target(), 2);
        due("store(32) before init()", cache.store(32), 5);
        cache.init();
        due("everything", Checks.everything(cache), BEGINNING);
        for (int address : new int[] {41, 40, 32, 31, 35, 33, 1, 34}) {
            due("whichList(" + address + ")", cache.whichList(address), 0);
        }
        due("flush()", cache.flush(), 0);
        due("read(32)", cache.read(32), 0);
        due("read(40)", cache.read(40), 0);
    }

    private static void initOfAnObjectAtItsBeginning() {
        for (int times = 0; times < 3; times++) {
            ArcCache cache = Checks.cacheOf(3);
            for (int time = 0; time < times; time++) {
                cache.init();
            }
            due("everything after " + times + " init()", Checks.everything(cache), BEGINNING);
        }
        ArcCache used = Checks.cacheOf(3);
        used.write(9, 1);
        used.init();
        used.init();
        due("everything after two init() of a used object", Checks.everything(used), BEGINNING);
    }

    private static void initKeepsC() {
        for (int pages = 1; pages <= 24; pages++) {
            ArcCache cache = Checks.cacheOf(pages);
            cache.read(60);
            cache.init();
            for (int address = 0; address < pages + 1; address++) {
                cache.read(address);
            }
            due("C " + pages + ": length(1)", cache.length(1), pages);
            due("C " + pages + ": gone()", cache.gone(), 1);
        }
    }

    private static void readOfTheEdges() {
        ArcCache cache = edgesInUse();
        due("read(0)", cache.read(0), 23);
        due("read(63)", cache.read(63), 24);
        due("read(1)", cache.read(1), 21);
        due("read(62)", cache.read(62), 22);
        due("hits()", cache.hits(), 4);
    }

    private static void readOfNone() {
        ArcCache cache = edgesInUse();
        for (int address : NO_ADDRESSES) {
            due("read(" + address + ")", cache.read(address), 0);
        }
        due("everything", Checks.everything(cache), Checks.everything(edgesInUse()));
    }

    /** 0 is the word that is there already, and 5 is written twice; both make the page dirty. */
    private static void pageHasThatWordThen() {
        ArcCache cache = Checks.cacheOf(24);
        int[] words = {0, 1, -1, MAX, MIN};
        for (int address = 0; address < words.length; address++) {
            due("write(" + address + ", " + words[address] + ")", cache.write(address, words[address]), true);
            due("isDirty(" + address + ")", cache.isDirty(address), true);
            due("read(" + address + ")", cache.read(address), words[address]);
        }
        for (int turn = 0; turn < 2; turn++) {
            due("write(63, 5)", cache.write(63, 5), true);
            due("isDirty(63)", cache.isDirty(63), true);
            due("read(63)", cache.read(63), 5);
            due("flush() in turn " + turn, cache.flush(), turn == 0 ? 6 : 1);
        }
    }

    private static void writeOfNone() {
        ArcCache cache = edgesInUse();
        for (int address : NO_ADDRESSES) {
            due("write(" + address + ", 9)", cache.write(address, 9), false);
        }
        due("everything", Checks.everything(cache), Checks.everything(edgesInUse()));
    }

    /** 0 is in list 1 and 63 in list 2. */
    private static void allDirtyPagesWordsComeToTheStore() {
        ArcCache cache = edgesInUse();
        cache.read(63);
        cache.flush();
        due("store(0)", cache.store(0), 23);
        due("store(63)", cache.store(63), 24);
        due("store(1)", cache.store(1), 21);
        CHECKS.dueState("lists", cache, "0 62 1 | 63 | - | - : 0");
        due("gone()", cache.gone(), 0);
        due("read(0)", cache.read(0), 23);
    }

    private static void notDirtyAnyMore() {
        ArcCache cache = edgesInUse();
        cache.flush();
        for (int address : new int[] {0, 1, 62, 63}) {
            due("isDirty(" + address + ")", cache.isDirty(address), false);
        }
    }

    /** None, some, none again, a page that went, and all 24. */
    private static void howManyWere() {
        due("flush() of a new object", Checks.cacheOf(4).flush(), 0);
        ArcCache some = edgesInUse();
        due("flush() of two", some.flush(), 2);
        due("flush() of none", some.flush(), 0);
        ArcCache onePage = Checks.cacheOf(1);
        onePage.write(1, 5);
        onePage.read(2);
        due("flush() of a page that went", onePage.flush(), 0);
        ArcCache most = Checks.cacheOf(24);
        for (int address = 0; address < 64; address++) {
            most.write(address, 5);
        }
        due("flush() of all pages", most.flush(), 24);
    }

    private static void inWhichList() {
        ArcCache cache = Runs.twoInEachList();
        int[][] lists = {{41, 40}, {32, 31}, {35, 33}, {1, 34}};
        for (int list = 1; list <= 4; list++) {
            for (int address : lists[list - 1]) {
                due("whichList(" + address + ")", cache.whichList(address), list);
            }
        }
        ArcCache edges = edgesInUse();
        due("whichList(0)", edges.whichList(0), 1);
        due("whichList(63)", edges.whichList(63), 1);
    }

    /** 0 and 63 never came; 2 and 3 were dropped of list 4. What was dropped of lists 1 and 3, and of all, follows. */
    private static void zeroInNone() {
        ArcCache cache = Runs.twoInEachList();
        for (int address : new int[] {0, 63, 2, 3}) {
            due("whichList(" + address + ")", cache.whichList(address), 0);
        }
        ArcCache dropped = Checks.cacheOf(2);
        Checks.readAll(dropped, 1, 2, 3);
        due("whichList(1) dropped of list 1", dropped.whichList(1), 0);
        ArcCache name = Runs.oneInList3();
        name.read(4);
        due("whichList(2) dropped of list 3", name.whichList(2), 0);
        // "- | 2 | 1 | - : 0", and 3 finds |3| at C: 1 is dropped, 2 goes of list 2, and list 3 is empty.
        ArcCache onePage = Checks.cacheOf(1);
        Checks.readAll(onePage, 2, 2, 1, 2, 3);
        due("whichList(1), the last of list 3", onePage.whichList(1), 0);
        cache.init();
        for (int address = 0; address < 64; address++) {
            due("whichList(" + address + ") after init()", cache.whichList(address), 0);
        }
        ArcCache edges = edgesInUse();
        for (int address : NO_ADDRESSES) {
            due("whichList(" + address + ")", edges.whichList(address), 0);
            due("whichList(" + address + ") of a new object", Checks.cacheOf(1).whichList(address), 0);
        }
    }

    private static void addressFromTheNewEndOn() {
        ArcCache most = Runs.fullList3(24);
        due("at(2, 0)", most.at(2, 0), 1);
        due("at(2, 1)", most.at(2, 1), 54);
        due("at(2, 23)", most.at(2, 23), 2);
        due("at(3, 0)", most.at(3, 0), 55);
        due("at(3, 1)", most.at(3, 1), 53);
        due("at(3, 23)", most.at(3, 23), 31);
        ArcCache two = Runs.twoInEachList();
        due("at(1, 1)", two.at(1, 1), 40);
        due("at(4, 1)", two.at(4, 1), 34);
        ArcCache edges = edgesInUse();
        due("at(1, 0)", edges.at(1, 0), 63);
        due("at(1, 1)", edges.at(1, 1), 0);
    }

    /** Lists of two addresses, of none, and of as many as there are pages. */
    private static void noneSuchAddress() {
        ArcCache two = Runs.twoInEachList();
        ArcCache empty = Checks.cacheOf(4);
        for (int list = 1; list <= 4; list++) {
            for (int i : new int[] {-1, 2, 3, -2, 63, 64, MIN, MIN + 1, MAX - 1, MAX}) {
                due("at(" + list + ", " + i + ")", two.at(list, i), -1);
            }
            due("at(" + list + ", 0) of an empty list", empty.at(list, 0), -1);
            due("at(" + list + ", -1) of an empty list", empty.at(list, -1), -1);
        }
        ArcCache most = Runs.fullList3(24);
        due("at(2, 24)", most.at(2, 24), -1);
        due("at(3, 24)", most.at(3, 24), -1);
    }

    private static void noneSuchList() {
        ArcCache cache = Runs.twoInEachList();
        for (int list : NO_LISTS) {
            due("at(" + list + ", 0)", cache.at(list, 0), -1);
            due("at(" + list + ", 1)", cache.at(list, 1), -1);
            due("at(" + list + ", -1)", cache.at(list, -1), -1);
        }
    }

    /** 0, 2 in each, and as many as can be. */
    private static void howManyAListHas() {
        ArcCache two = Runs.twoInEachList();
        ArcCache empty = Checks.cacheOf(4);
        for (int list = 1; list <= 4; list++) {
            due("length(" + list + ")", two.length(list), 2);
            due("length(" + list + ") of an empty list", empty.length(list), 0);
        }
        ArcCache most = Runs.fullList3(24);
        due("length(2)", most.length(2), 24);
        due("length(3)", most.length(3), 24);
        // 54 is in list 2 meanwhile; all the others are in list 3.
        for (int address = 31; address <= 53; address++) {
            most.read(address);
        }
        most.read(55);
        due("length(3) when all came back", most.length(3), 0);
        due("length(4) when all came back", most.length(4), 24);
    }

    private static void lengthOfAnotherList() {
        ArcCache cache = Runs.twoInEachList();
        for (int list : NO_LISTS) {
            due("length(" + list + ")", cache.length(list), -1);
        }
    }

    private static void storesWord() {
        ArcCache cache = edgesInUse();
        due("store(0) before flush()", cache.store(0), 0);
        due("store(63) before flush()", cache.store(63), 0);
        cache.flush();
        due("store(0)", cache.store(0), 23);
        due("store(63)", cache.store(63), 24);
        ArcCache ends = Checks.cacheOf(2);
        ends.write(0, MIN);
        ends.write(63, MAX);
        ends.flush();
        due("store(0) of the least word", ends.store(0), MIN);
        due("store(63) of the greatest word", ends.store(63), MAX);
    }

    private static void storeOfNone() {
        ArcCache cache = Checks.cacheOf(24);
        for (int address = 0; address < 64; address++) {
            cache.write(address, 5);
        }
        cache.flush();
        for (int address : NO_ADDRESSES) {
            due("store(" + address + ")", cache.store(address), 0);
        }
    }

    private static void hasADirtyPage() {
        ArcCache cache = edgesInUse();
        due("isDirty(0)", cache.isDirty(0), true);
        due("isDirty(63)", cache.isDirty(63), true);
        cache.read(63);
        due("isDirty(63) in list 2", cache.isDirty(63), true);
        due("isDirty(1), which was flushed", cache.isDirty(1), false);
        due("isDirty(2), which never came", cache.isDirty(2), false);
        Checks.readAll(cache, 0, 5, 6);
        due("whichList(62)", cache.whichList(62), 3);
        due("isDirty(62), which went clean", cache.isDirty(62), false);
        due("isDirty(5), which was read", cache.isDirty(5), false);
        ArcCache onePage = Checks.cacheOf(1);
        onePage.write(1, 5);
        onePage.read(2);
        due("isDirty(1), which went dirty", onePage.isDirty(1), false);
    }

    private static void isDirtyOfNone() {
        ArcCache cache = Checks.cacheOf(24);
        for (int address : new int[] {0, 1, 2, 62, 63}) {
            cache.write(address, 5);
        }
        for (int address : NO_ADDRESSES) {
            due("isDirty(" + address + ")", cache.isDirty(address), false);
        }
    }

    private static void targetFrom0ToC() {
        ArcCache cache = Checks.cacheOf(1);
        Checks.readAll(cache, 2, 2, 1, 2);
        due("C 1: target() at 0", cache.target(), 0);
        cache.write(1, 5);
        due("C 1: target() at C", cache.target(), 1);
        due("C 3: target() at C", Runs.targetAtC().target(), 3);
    }

    private static void howManyHits() {
        ArcCache cache = Runs.oneInList4();
        due("hits() before", cache.hits(), 1);
        askWithoutARequest(cache);
        due("hits() when no request was made", cache.hits(), 1);
        cache.read(3);
        cache.write(3, 1);
        due("hits() of both lists", cache.hits(), 3);
        Checks.readAll(cache, 1, 9);
        due("hits() after misses", cache.hits(), 3);
    }

    private static void howManyMisses() {
        ArcCache cache = Runs.oneInList4();
        due("misses() before", cache.misses(), 4);
        askWithoutARequest(cache);
        due("misses() when no request was made", cache.misses(), 4);
        cache.read(3);
        due("misses() after a hit", cache.misses(), 4);
        cache.write(1, 1);
        cache.read(9);
        due("misses() of list 4 and none", cache.misses(), 6);
    }

    /** Names that are dropped of lists 3 and 4 had no page. */
    private static void howManyPagesWent() {
        due("gone() of a new object", Checks.cacheOf(1).gone(), 0);
        ArcCache cache = Checks.cacheOf(2);
        Checks.readAll(cache, 1, 2);
        due("gone() when all pages are there", cache.gone(), 0);
        cache.read(3);
        due("gone() of list 1 to no list", cache.gone(), 1);
        ArcCache names = Runs.oneInList3();
        due("gone() to list 3", names.gone(), 1);
        names.read(4);
        due("gone() with a name dropped of list 3", names.gone(), 2);
        ArcCache allFour = Runs.allFour();
        due("gone() to lists 3 and 4", allFour.gone(), 4);
        askWithoutARequest(allFour);
        due("gone() when no request was made", allFour.gone(), 4);
        allFour.read(5);
        due("gone() with a name dropped of list 4", allFour.gone(), 5);
    }

    private static void askWithoutARequest(ArcCache cache) {
        cache.read(-1);
        cache.read(64);
        cache.write(-1, 1);
        cache.write(64, 1);
        cache.flush();
        Checks.everything(cache);
    }
}
