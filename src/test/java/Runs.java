/** Objects in states that several tests begin with; each way to them was worked out by hand. */
final class Runs {
    private Runs() {
    }

    /** C is 2: "3 | 1 | 2 | - : 0". */
    static ArcCache oneInList3() {
        ArcCache cache = Checks.cacheOf(2);
        // "- | 1 | - | - : 0", "2 | 1 | - | - : 0", and 3 lets 2 go, since |1| is above 0.
        Checks.readAll(cache, 1, 1, 2, 3);
        return cache;
    }

    /** C is 2: "3 | 2 | - | 1 : 1". */
    static ArcCache oneInList4() {
        ArcCache cache = oneInList3();
        // 2 is in list 3: TARGET 1, and 1 goes of list 2, since |1| is no longer above it.
        cache.read(2);
        return cache;
    }

    /** C is 2: "- | 4 1 | 3 | 2 : 0"; all four have 2 C, lists 1 and 3 less than C. */
    static ArcCache allFour() {
        ArcCache cache = oneInList4();
        // 1: "- | 1 2 | 3 | - : 0", 4: "4 | 1 | 3 | 2 : 0", and a hit.
        Checks.readAll(cache, 1, 4, 4);
        return cache;
    }

    /** C is 3: "6 5 | 4 | - | 3 2 1 : 3". */
    static ArcCache targetAtC() {
        ArcCache cache = Checks.cacheOf(3);
        // 3: "3 | 2 1 | - | - : 0", 4: "4 | 2 1 | 3 | - : 0".
        Checks.readAll(cache, 1, 1, 2, 2, 3, 4);
        // 3: "4 | 3 2 | - | 1 : 1", 5: "5 4 | 3 | - | 2 1 : 1", 6: "6 5 | 3 | 4 | 2 1 : 1", 4: TARGET by 2 / 1.
        Checks.readAll(cache, 3, 5, 6, 4);
        return cache;
    }

    /** C is 3: "6 | 5 1 | - | 4 3 2 : 3". */
    static ArcCache list1BelowTarget() {
        ArcCache cache = targetAtC();
        // 1: "6 | 1 4 | 5 | 3 2 : 2", 5: TARGET by 2 / 1, but C at most.
        Checks.readAll(cache, 1, 5);
        return cache;
    }

    /** C is 3: "- | 2 1 4 | 6 5 | 3 : 1". */
    static ArcCache list1Empty() {
        ArcCache cache = targetAtC();
        // 1: "6 | 1 4 | 5 | 3 2 : 2", 2: TARGET 1, and 6 goes of list 1, since |1| is TARGET and 2 in list 4.
        Checks.readAll(cache, 1, 2);
        return cache;
    }

    /**
     * Any C from 2 on: lists 1 and 4 empty, TARGET 0; list 2 has 1, 30 + C, and C - 1 down to 2; list 3 has 31 + C,
     * and 29 + C down to 31.
     * So with C 4: "- | 1 34 3 2 | 35 33 32 31 | - : 0".
     */
    static ArcCache fullList3(int pages) {
        ArcCache cache = Checks.cacheOf(pages);
        for (int address = 1; address < pages; address++) {
            Checks.readAll(cache, address, address);
        }
        // The first has a page left; each later one lets the one before go to list 3, until |1| + |3| is C.
        for (int address = 31; address <= 30 + pages; address++) {
            cache.read(address);
        }
        // A hit empties list 1; then 1 goes of list 2, and comes back while 31 + C goes of list 1.
        Checks.readAll(cache, 30 + pages, 31 + pages, 1);
        return cache;
    }

    /** C is 4: "41 40 | 32 31 | 35 33 | 1 34 : 2". */
    static ArcCache twoInEachList() {
        ArcCache cache = fullList3(4);
        // 31: "- | 31 1 34 3 | 35 33 32 | 2 : 1", 32: "- | 32 31 1 34 | 35 33 | 3 2 : 2".
        Checks.readAll(cache, 31, 32);
        // All have 2 C. 40: "40 | 32 31 1 | 35 33 | 34 3 : 2", and 41 likewise.
        Checks.readAll(cache, 40, 41);
        return cache;
    }
}
