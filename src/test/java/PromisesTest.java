/** The promises one by one, with ordinary inputs above all; what is due was worked out by hand from the document. */
public final class PromisesTest {
    private static final Checks CHECKS = new Checks();
    private static final int[] NO_ADDRESSES = {-1, 64, 65, -64, 100, Integer.MIN_VALUE, Integer.MAX_VALUE};
    private static final int[] NO_LISTS = {0, 5, -1, 6, Integer.MIN_VALUE, Integer.MAX_VALUE};

    public static void main(String[] args) {
        newObject();
        init();
        read();
        write();
        flush();
        requestsThroughAllLists();
        requestsWithSmallTarget();
        onePage();
        target();
        whichList();
        at();
        length();
        hitsAndMisses();
        storeAndDirty();
        gone();
        CHECKS.end();
    }

    private static void due(String what, Object got, Object want) {
        CHECKS.due(what, got, want);
    }

    private static void dueState(String what, ArcCache cache, String want) {
        CHECKS.dueState(what, cache, want);
    }

    private static void readAll(ArcCache cache, int... addresses) {
        Checks.readAll(cache, addresses);
    }

    private static void readDue(ArcCache cache, int address, String want) {
        CHECKS.readDue(cache, address, want);
    }

    private static void dueFresh(String what, ArcCache cache) {
        dueState(what, cache, "- | - | - | - : 0");
        due(what + ": hits", cache.hits(), 0);
        due(what + ": misses", cache.misses(), 0);
        due(what + ": gone", cache.gone(), 0);
        for (int address = 0; address < 64; address++) {
            due(what + ": store(" + address + ")", cache.store(address), 0);
            due(what + ": isDirty(" + address + ")", cache.isDirty(address), false);
            due(what + ": whichList(" + address + ")", cache.whichList(address), 0);
        }
    }

    private static void newObject() {
        dueFresh("promise 1: new object", new ArcCache(5));
    }

    private static void init() {
        ArcCache cache = new ArcCache(2);
        for (int address = 0; address < 64; address++) {
            cache.write(address, address + 1);
        }
        cache.flush();
        readAll(cache, 1, 1, 2, 2, 3, 4, 3, 5, 6, 4);
        cache.write(1, 77);
        due("promise 2: target before init", cache.target() > 0, true);
        cache.init();
        dueFresh("promise 2: init", cache);
        due("promise 2: flush after init", cache.flush(), 0);
        due("promise 2: read(1) after init", cache.read(1), 0);
        readAll(cache, 2, 3, 4);
        dueState("promise 2: C stays", cache, "4 3 2 | - | - | - : 0");
    }

    private static void read() {
        ArcCache cache = new ArcCache(1);
        due("promise 3: read(0)", cache.read(0), 0);
        due("promise 3: read(63)", cache.read(63), 0);
        dueState("promise 3: both edges came", cache, "63 0 | - | - | - : 0");
        cache.write(63, -5);
        due("promise 3: read of a page", cache.read(63), -5);
        readAll(cache, 0, 1, 2, 3);
        due("promise 3: 63 went", cache.whichList(63), 4);
        due("promise 3: read of the store", cache.read(63), -5);
        due("promise 3: a page that comes is not dirty", cache.isDirty(63), false);
        due("promise 3: reading makes no page dirty", cache.flush(), 0);
    }

    private static void write() {
        ArcCache cache = new ArcCache(1);
        due("promise 4: write(0, MIN)", cache.write(0, Integer.MIN_VALUE), true);
        due("promise 4: write(63, MAX)", cache.write(63, Integer.MAX_VALUE), true);
        dueState("promise 4: a write is a request", cache, "63 0 | - | - | - : 0");
        due("promise 4: word of 0", cache.read(0), Integer.MIN_VALUE);
        due("promise 4: word of 63", cache.read(63), Integer.MAX_VALUE);
        due("promise 4: 63 is dirty", cache.isDirty(63), true);
        due("promise 4: the store has it not yet", cache.store(63), 0);
        cache.flush();
        due("promise 4: write of the same word", cache.write(63, Integer.MAX_VALUE), true);
        due("promise 4: dirty by the same word", cache.isDirty(63), true);
        cache.write(63, 3);
        due("promise 4: the later word", cache.read(63), 3);
    }

    private static void flush() {
        ArcCache cache = new ArcCache(3);
        due("promise 5: nothing to flush", cache.flush(), 0);
        cache.write(0, 10);
        cache.write(63, 11);
        cache.write(63, 12);
        cache.read(5);
        due("promise 5: dirty pages of lists 1 and 2", cache.flush(), 2);
        due("promise 5: store(0)", cache.store(0), 10);
        due("promise 5: store(63)", cache.store(63), 12);
        due("promise 5: 0 is not dirty", cache.isDirty(0), false);
        due("promise 5: 63 is not dirty", cache.isDirty(63), false);
        due("promise 5: flushed already", cache.flush(), 0);
        dueState("promise 5: the lists stay", cache, "5 0 | 63 | - | - : 0");
        due("promise 5: no page went", cache.gone(), 0);
        due("promise 5: the pages stay", cache.read(0), 10);
        cache.write(5, 1);
        cache.write(6, 2);
        cache.read(7);
        due("promise 5: 6 went", cache.whichList(6), 3);
        due("promise 5: a page that went is not flushed", cache.flush(), 1);
    }

    /** C is 3: both moves of TARGET by more than 1, the tie of |1| and TARGET, and each way to forget a name. */
    private static void requestsThroughAllLists() {
        ArcCache cache = new ArcCache(2);
        readAll(cache, 1, 1, 2, 2);
        readDue(cache, 3, "3 | 2 1 | - | - : 0");
        readDue(cache, 4, "4 | 2 1 | 3 | - : 0");
        readDue(cache, 3, "4 | 3 2 | - | 1 : 1");
        readDue(cache, 5, "5 4 | 3 | - | 2 1 : 1");
        readDue(cache, 6, "6 5 | 3 | 4 | 2 1 : 1");
        readDue(cache, 4, "6 5 | 4 | - | 3 2 1 : 3");
        readDue(cache, 1, "6 | 1 4 | 5 | 3 2 : 2");
        readDue(cache, 2, "- | 2 1 4 | 6 5 | 3 : 1");
        readDue(cache, 3, "- | 3 2 1 | 6 5 | 4 : 0");
        readDue(cache, 7, "7 | 3 2 | 6 5 | 1 : 0");
        readDue(cache, 8, "8 | 3 2 | 7 6 | 1 : 0");
        readDue(cache, 2, "8 | 2 3 | 7 6 | 1 : 0");
        readDue(cache, 8, "- | 8 2 3 | 7 6 | 1 : 0");
        due("hits", cache.hits(), 4);
        due("misses", cache.misses(), 13);
        due("gone", cache.gone(), 10);
    }

    /** C is 2: a list 4 hit that finds |1| above TARGET. */
    private static void requestsWithSmallTarget() {
        ArcCache cache = new ArcCache(1);
        readAll(cache, 1, 1, 2);
        readDue(cache, 3, "3 | 1 | 2 | - : 0");
        readDue(cache, 2, "3 | 2 | - | 1 : 1");
        readDue(cache, 1, "- | 1 2 | 3 | - : 0");
    }

    private static void target() {
        ArcCache cache = new ArcCache(1);
        due("promise 9: at first", cache.target(), 0);
        readAll(cache, 1, 1, 2, 3);
        due("promise 9: nothing came back yet", cache.target(), 0);
        cache.write(2, 8);
        due("promise 9: came back from list 3", cache.target(), 1);
        cache.read(2);
        cache.flush();
        due("promise 9: a hit does not move it", cache.target(), 1);
        cache.write(1, 8);
        due("promise 9: came back from list 4", cache.target(), 0);
    }

    /** C is 1: list 1 full, so that its oldest goes and is forgotten. */
    private static void onePage() {
        ArcCache cache = new ArcCache(0);
        readDue(cache, 1, "1 | - | - | - : 0");
        readDue(cache, 2, "2 | - | - | - : 0");
        readDue(cache, 2, "- | 2 | - | - : 0");
        readDue(cache, 1, "1 | - | - | 2 : 0");
        readDue(cache, 2, "- | 2 | 1 | - : 0");
        readDue(cache, 1, "- | 1 | - | 2 : 1");
        readDue(cache, 3, "3 | - | - | 1 : 1");
        readDue(cache, 1, "- | 1 | 3 | - : 0");
        readDue(cache, 4, "4 | - | - | 1 : 0");
    }

    private static void whichList() {
        ArcCache cache = new ArcCache(2);
        readAll(cache, 1, 1, 2, 2, 3, 4, 3, 5, 6);
        dueState("promise 6: before", cache, "6 5 | 3 | 4 | 2 1 : 1");
        int[] want = {0, 4, 4, 2, 3, 1, 1, 0};
        for (int address = 0; address < want.length; address++) {
            due("promise 6: whichList(" + address + ")", cache.whichList(address), want[address]);
        }
        for (int address : NO_ADDRESSES) {
            due("promise 6: whichList(" + address + ")", cache.whichList(address), 0);
        }
    }

    private static void at() {
        ArcCache cache = new ArcCache(2);
        readAll(cache, 1, 1, 2, 2, 3, 4, 3, 5, 6);
        due("promise 7: new end of list 1", cache.at(1, 0), 6);
        due("promise 7: old end of list 1", cache.at(1, 1), 5);
        due("promise 7: list 2", cache.at(2, 0), 3);
        due("promise 7: list 3", cache.at(3, 0), 4);
        due("promise 7: new end of list 4", cache.at(4, 0), 2);
        due("promise 7: old end of list 4", cache.at(4, 1), 1);
        int[] pastTheEnd = {2, 1, 1, 2};
        for (int list = 1; list <= 4; list++) {
            due("promise 7: past list " + list, cache.at(list, pastTheEnd[list - 1]), -1);
            for (int i : new int[] {-1, 63, 64, 1000, Integer.MIN_VALUE, Integer.MAX_VALUE}) {
                due("promise 7: at(" + list + ", " + i + ")", cache.at(list, i), -1);
            }
        }
        for (int list : NO_LISTS) {
            due("promise 7: at(" + list + ", 0)", cache.at(list, 0), -1);
            due("promise 7: at(" + list + ", -1)", cache.at(list, -1), -1);
        }
    }

    private static void length() {
        ArcCache cache = new ArcCache(2);
        readAll(cache, 1, 1, 2, 2, 3, 4, 3, 5, 6);
        due("promise 8: length(1)", cache.length(1), 2);
        due("promise 8: length(2)", cache.length(2), 1);
        due("promise 8: length(3)", cache.length(3), 1);
        due("promise 8: length(4)", cache.length(4), 2);
        for (int list : NO_LISTS) {
            due("promise 8: length(" + list + ")", cache.length(list), -1);
        }
    }

    private static void hitsAndMisses() {
        ArcCache cache = new ArcCache(1);
        readAll(cache, 1, 1, 1);
        cache.write(1, 4);
        due("promise 10: hits in lists 1 and 2", cache.hits(), 3);
        due("promise 11: a miss in no list", cache.misses(), 1);
        readAll(cache, 2, 3);
        cache.write(2, 5);
        due("promise 11: a miss in list 3", cache.misses(), 4);
        cache.read(1);
        due("promise 11: a miss in list 4", cache.misses(), 5);
        due("promise 10: no more hits", cache.hits(), 3);
        cache.flush();
        cache.store(1);
        cache.whichList(1);
        cache.isDirty(1);
        due("promise 10: looking is no request", cache.hits(), 3);
        due("promise 11: looking is no request", cache.misses(), 5);
    }

    private static void storeAndDirty() {
        ArcCache cache = new ArcCache(1);
        cache.write(0, 4);
        cache.write(63, 5);
        due("promise 12: not in the store yet", cache.store(0), 0);
        due("promise 13: dirty in list 1", cache.isDirty(0), true);
        cache.read(0);
        due("promise 13: dirty in list 2", cache.isDirty(0), true);
        cache.read(7);
        due("promise 12: 63 went to the store", cache.store(63), 5);
        due("promise 13: a page that went is not dirty", cache.isDirty(63), false);
        due("promise 12: 0 is still in the cache", cache.store(0), 0);
        cache.read(63);
        due("promise 12: 0 went of list 2", cache.store(0), 4);
        due("promise 13: 0 went of list 2", cache.isDirty(0), false);
        due("promise 13: 63 came back", cache.isDirty(63), false);
        ArcCache onePage = new ArcCache(0);
        onePage.write(1, 9);
        onePage.read(2);
        due("promise 12: 1 went of a full list 1", onePage.store(1), 9);
        due("promise 13: 1 went of a full list 1", onePage.isDirty(1), false);
        for (int address : NO_ADDRESSES) {
            due("promise 12: store(" + address + ")", cache.store(address), 0);
            due("promise 13: isDirty(" + address + ")", cache.isDirty(address), false);
        }
    }

    private static void gone() {
        ArcCache cache = new ArcCache(1);
        readAll(cache, 1, 2);
        due("promise 14: none went", cache.gone(), 0);
        cache.write(3, 1);
        due("promise 14: one went of a full list 1", cache.gone(), 1);
        due("promise 14: it is in no list", cache.whichList(1), 0);
        cache.read(3);
        due("promise 14: a hit lets none go", cache.gone(), 1);
        cache.read(4);
        due("promise 14: one went to list 3", cache.gone(), 2);
        cache.read(2);
        due("promise 14: one went to list 4", cache.gone(), 3);
        due("promise 14: the dirty one came to the store", cache.store(3), 1);
        cache.read(-1);
        cache.flush();
        due("promise 14: no request, none goes", cache.gone(), 3);
    }
}
