/**
 * A test for each sentence on how a page goes, how room is made and what a request does that names a boundary.
 * What is due was worked out by hand; a state is written as list 1 | 2 | 3 | 4 : TARGET, from the new ends on.
 */
public final class RequestBoundariesTest {
    private static final Checks CHECKS = new Checks();

    public static void main(String[] args) {
        going();
        room();
        hitOrMiss();
        inList3();
        inList4();
        inNone();
        CHECKS.sentence("A page that comes has the store's word, and is not dirty",
                RequestBoundariesTest::pageThatComesHasTheStoresWord);
        CHECKS.end();
    }

    private static void going() {
        CHECKS.sentence("if it is dirty, its word comes to the store first",
                RequestBoundariesTest::dirtyWordComesToTheStoreFirst);
        CHECKS.sentence("if it is dirty [else the store stays]", RequestBoundariesTest::cleanPageLeavesTheStore);
    }

    private static void room() {
        CHECKS.sentence("if |1| is above TARGET .. the old end of list 1 goes and comes to the new end of list 3",
                RequestBoundariesTest::list1IsAboveTarget);
        CHECKS.sentence("or is TARGET, above 0, and a is in list 4", RequestBoundariesTest::list1IsTarget);
        CHECKS.sentence("is TARGET, above 0", RequestBoundariesTest::list1IsTargetButNotAbove0);
        CHECKS.sentence("and a is in list 4", RequestBoundariesTest::list1IsTargetButANotInList4);
        CHECKS.sentence("else the old end of list 2 goes and comes to the new end of list 4",
                RequestBoundariesTest::list1IsBelowTarget);
    }

    private static void hitOrMiss() {
        CHECKS.sentence("In list 1 or 2: it is a HIT; a comes to the new end of list 2",
                RequestBoundariesTest::inList1Or2ItIsAHit);
        CHECKS.sentence("Else it is a MISS", RequestBoundariesTest::elseItIsAMiss);
    }

    private static void inList3() {
        CHECKS.sentence("in list 3: TARGET becomes greater by |4| / |3|",
                RequestBoundariesTest::targetBecomesGreater);
        CHECKS.sentence("in list 3: .. (the rest left off)", RequestBoundariesTest::restLeftOffInList3);
        CHECKS.sentence("in list 3: .. at least 1", RequestBoundariesTest::greaterByAtLeast1);
        CHECKS.sentence("and is C at most", RequestBoundariesTest::isCAtMost);
        CHECKS.sentence("in list 3: TARGET becomes greater ..; "
                + "room is made; a comes to the new end of list 2, with a page",
                RequestBoundariesTest::orderInList3);
    }

    private static void inList4() {
        CHECKS.sentence("In list 4: TARGET becomes less by |3| / |4|", RequestBoundariesTest::targetBecomesLess);
        CHECKS.sentence("In list 4: TARGET becomes less by |3| / |4| [the rest left off as in list 3]",
                RequestBoundariesTest::restLeftOffInList4);
        CHECKS.sentence("In list 4: .. at least 1", RequestBoundariesTest::lessByAtLeast1);
        CHECKS.sentence("and is 0 at least", RequestBoundariesTest::is0AtLeast);
        CHECKS.sentence("In list 4: TARGET becomes less ..; room is made; likewise",
                RequestBoundariesTest::orderInList4);
    }

    private static void inNone() {
        CHECKS.sentence("if |1| + |3| is C: if |1| is less than C, "
                + "the old end of list 3 is in no list any more, and room is made",
                RequestBoundariesTest::oldEndOfList3IsInNoList);
        CHECKS.sentence("else the old end of list 1 goes, and is in no list",
                RequestBoundariesTest::oldEndOfList1GoesAndIsInNoList);
        CHECKS.sentence("If |1| + |3| is less than C", RequestBoundariesTest::lists1And3HaveLessThanC);
        CHECKS.sentence("and all four have C or more", RequestBoundariesTest::allFourHaveCOrMore);
        CHECKS.sentence("the old end of list 4 is in no list any more, if all have 2 C; and room is made",
                RequestBoundariesTest::allHave2C);
        CHECKS.sentence("Then a comes to the new end of list 1, with a page",
                RequestBoundariesTest::comesToTheNewEndOfList1);
    }

    private static void due(String what, Object got, Object want) {
        CHECKS.due(what, got, want);
    }

    private static void readDue(ArcCache cache, int address, String want) {
        CHECKS.readDue(cache, address, want);
    }

    private static void dirtyWordComesToTheStoreFirst() {
        ArcCache cache = Checks.cacheOf(2);
        cache.write(1, 11);
        cache.write(1, 12);
        cache.write(2, 22);
        due("store(2) before it goes", cache.store(2), 0);
        readDue(cache, 3, "3 | 1 | 2 | - : 0");
        due("store(2) of list 3", cache.store(2), 22);
        due("store(1) before it goes", cache.store(1), 0);
        readDue(cache, 2, "3 | 2 | - | 1 : 1");
        due("store(1) of list 4", cache.store(1), 12);
        ArcCache onePage = Checks.cacheOf(1);
        onePage.write(1, 9);
        readDue(onePage, 2, "2 | - | - | - : 0");
        due("store(1) of no list", onePage.store(1), 9);
        due("read(1)", onePage.read(1), 9);
    }

    /** The word in the store is the flushed one; of the page that was only read it stays 0. */
    private static void cleanPageLeavesTheStore() {
        ArcCache cache = Checks.cacheOf(2);
        cache.write(1, 11);
        cache.flush();
        Checks.readAll(cache, 2, 3, 4);
        due("gone()", cache.gone(), 2);
        due("store(1)", cache.store(1), 11);
        due("store(2)", cache.store(2), 0);
    }

    /** |1| is TARGET + 1 each time, counted after TARGET has moved. */
    private static void list1IsAboveTarget() {
        ArcCache none = Checks.cacheOf(2);
        Checks.readAll(none, 1, 1, 2);
        readDue(none, 3, "3 | 1 | 2 | - : 0");
        ArcCache three = Checks.cacheOf(3);
        Checks.readAll(three, 1, 1, 2, 3);
        readDue(three, 4, "4 3 | 1 | 2 | - : 0");
        readDue(three, 2, "4 | 2 1 | 3 | - : 1");
        ArcCache four = Runs.oneInList4();
        readDue(four, 1, "- | 1 2 | 3 | - : 0");
    }

    private static void list1IsTarget() {
        ArcCache cache = Runs.targetAtC();
        readDue(cache, 1, "6 | 1 4 | 5 | 3 2 : 2");
        readDue(cache, 2, "- | 2 1 4 | 6 5 | 3 : 1");
    }

    private static void list1IsTargetButNotAbove0() {
        ArcCache cache = Runs.list1Empty();
        readDue(cache, 3, "- | 3 2 1 | 6 5 | 4 : 0");
        readDue(cache, 4, "- | 4 3 2 | 6 5 | 1 : 0");
        due("gone()", cache.gone(), 9);
    }

    private static void list1IsTargetButANotInList4() {
        ArcCache cache = Runs.oneInList3();
        readDue(cache, 2, "3 | 2 | - | 1 : 1");
        readDue(cache, 4, "4 3 | - | - | 2 1 : 1");
    }

    /** a in list 4, in none, and in list 3; |1| is TARGET - 1 in the first. */
    private static void list1IsBelowTarget() {
        readDue(Runs.list1BelowTarget(), 4, "6 | 4 5 | - | 1 3 2 : 2");
        readDue(Runs.list1BelowTarget(), 7, "7 6 | 5 | - | 1 4 3 : 3");
        ArcCache three = Runs.targetAtC();
        three.read(1);
        readDue(three, 5, "6 | 5 1 | - | 4 3 2 : 3");
    }

    private static void inList1Or2ItIsAHit() {
        ArcCache cache = Checks.cacheOf(3);
        Checks.readAll(cache, 1, 2, 3);
        readDue(cache, 1, "3 2 | 1 | - | - : 0");
        readDue(cache, 3, "2 | 3 1 | - | - : 0");
        readDue(cache, 2, "- | 2 3 1 | - | - : 0");
        readDue(cache, 1, "- | 1 2 3 | - | - : 0");
        readDue(cache, 2, "- | 2 1 3 | - | - : 0");
        readDue(cache, 2, "- | 2 1 3 | - | - : 0");
        due("hits()", cache.hits(), 6);
        due("misses()", cache.misses(), 3);
        due("gone()", cache.gone(), 0);
        ArcCache withTarget = Runs.oneInList4();
        readDue(withTarget, 3, "- | 3 2 | - | 1 : 1");
    }

    private static void elseItIsAMiss() {
        ArcCache three = Runs.oneInList3();
        due("misses() before", three.misses(), 3);
        three.read(2);
        due("misses() of list 3", three.misses(), 4);
        three.read(1);
        due("misses() of list 4", three.misses(), 5);
        three.read(0);
        due("misses() of none", three.misses(), 6);
        due("hits()", three.hits(), 1);
    }

    private static void targetBecomesGreater() {
        ArcCache cache = Runs.fullList3(6);
        Checks.readAll(cache, 31, 32);
        readDue(cache, 33, "- | 33 32 31 1 36 5 | 37 35 34 | 4 3 2 : 3");
        readDue(cache, 34, "- | 34 33 32 31 1 36 | 37 35 | 5 4 3 2 : 4");
        readDue(cache, 35, "- | 35 34 33 32 31 1 | 37 | 36 5 4 3 2 : 6");
    }

    /** 3 / 2 is 1: TARGET would be C, which is 5, if the rest were not left off. */
    private static void restLeftOffInList3() {
        ArcCache cache = Runs.fullList3(5);
        Checks.readAll(cache, 31, 32);
        readDue(cache, 33, "- | 33 32 31 1 35 | 36 34 | 4 3 2 : 3");
        readDue(cache, 34, "- | 34 33 32 31 1 | 36 | 35 4 3 2 : 4");
    }

    /** 0 / 1, then 0 / 5, 1 / 4 and 2 / 3. */
    private static void greaterByAtLeast1() {
        readDue(Runs.oneInList3(), 2, "3 | 2 | - | 1 : 1");
        ArcCache cache = Runs.fullList3(5);
        readDue(cache, 31, "- | 31 1 35 4 3 | 36 34 33 32 | 2 : 1");
        readDue(cache, 32, "- | 32 31 1 35 4 | 36 34 33 | 3 2 : 2");
        readDue(cache, 33, "- | 33 32 31 1 35 | 36 34 | 4 3 2 : 3");
    }

    private static void isCAtMost() {
        ArcCache above = Runs.targetAtC();
        readDue(above, 1, "6 | 1 4 | 5 | 3 2 : 2");
        readDue(above, 5, "6 | 5 1 | - | 4 3 2 : 3");
        ArcCache at = Runs.fullList3(6);
        Checks.readAll(at, 31, 32, 33, 34, 35);
        due("C 6: target() at C", at.target(), 6);
        readDue(at, 37, "- | 37 35 34 33 32 31 | - | 1 36 5 4 3 2 : 6");
        ArcCache most = Runs.fullList3(24);
        for (int address = 31; address <= 49; address++) {
            most.read(address);
        }
        due("C 24: target() below C", most.target(), 23);
        for (int address : new int[] {50, 51, 52, 53, 55}) {
            most.read(address);
            due("C 24: target() after read(" + address + ")", most.target(), 24);
        }
    }

    /** With TARGET as it was, 3 would go of list 1. */
    private static void orderInList3() {
        ArcCache cache = Checks.cacheOf(2);
        Checks.readAll(cache, 1, 1);
        cache.write(2, 5);
        readDue(cache, 3, "3 | 1 | 2 | - : 0");
        due("read(2)", cache.read(2), 5);
        CHECKS.dueState("state after read(2)", cache, "3 | 2 | - | 1 : 1");
        due("gone()", cache.gone(), 2);
        due("read(2) again", cache.read(2), 5);
        due("hits()", cache.hits(), 2);
    }

    /** 6 / 3 is 2, where 31, 32 and 33 had come back by 1 each; 3 / 3 is 1. */
    private static void targetBecomesLess() {
        ArcCache cache = Runs.fullList3(9);
        Checks.readAll(cache, 31, 32);
        readDue(cache, 33, "- | 33 32 31 1 39 8 7 6 5 | 40 38 37 36 35 34 | 4 3 2 : 3");
        readDue(cache, 2, "- | 2 33 32 31 1 39 8 7 6 | 40 38 37 36 35 34 | 5 4 3 : 1");
        ArcCache byOne = Runs.fullList3(6);
        Checks.readAll(byOne, 31, 32, 33);
        readDue(byOne, 2, "- | 2 33 32 31 1 36 | 37 35 34 | 5 4 3 : 2");
    }

    /** 3 / 2 is 1: TARGET would be 0 if the rest were not left off. */
    private static void restLeftOffInList4() {
        ArcCache cache = Runs.fullList3(5);
        cache.read(31);
        readDue(cache, 32, "- | 32 31 1 35 4 | 36 34 33 | 3 2 : 2");
        readDue(cache, 2, "- | 2 32 31 1 35 | 36 34 33 | 4 3 : 1");
    }

    /** 0 / 3, then 1 / 2. */
    private static void lessByAtLeast1() {
        ArcCache cache = Runs.targetAtC();
        readDue(cache, 1, "6 | 1 4 | 5 | 3 2 : 2");
        readDue(cache, 2, "- | 2 1 4 | 6 5 | 3 : 1");
    }

    /** 1 less 2 / 1, 0 less 2 / 1, and 1 less 1. */
    private static void is0AtLeast() {
        ArcCache cache = Runs.list1Empty();
        readDue(cache, 3, "- | 3 2 1 | 6 5 | 4 : 0");
        readDue(cache, 4, "- | 4 3 2 | 6 5 | 1 : 0");
        readDue(Runs.oneInList4(), 1, "- | 1 2 | 3 | - : 0");
    }

    /** With TARGET as it was, or with 1 out of list 4 before room is made, 4 would go of list 2. */
    private static void orderInList4() {
        ArcCache cache = Checks.cacheOf(3);
        cache.write(1, 8);
        Checks.readAll(cache, 1, 2, 2, 3, 4, 3, 5, 6);
        readDue(cache, 4, "6 5 | 4 | - | 3 2 1 : 3");
        due("gone() before", cache.gone(), 5);
        due("read(1)", cache.read(1), 8);
        CHECKS.dueState("state after read(1)", cache, "6 | 1 4 | 5 | 3 2 : 2");
        due("gone()", cache.gone(), 6);
        due("hits() before", cache.hits(), 2);
        due("read(1) again", cache.read(1), 8);
        due("hits()", cache.hits(), 3);
    }

    /** |1| is C - 1, then 0; room is made in list 1, then in list 2. */
    private static void oldEndOfList3IsInNoList() {
        ArcCache one = Runs.oneInList3();
        readDue(one, 4, "4 | 1 | 3 | - : 0");
        due("whichList(2)", one.whichList(2), 0);
        due("gone()", one.gone(), 2);
        ArcCache none = Runs.fullList3(4);
        due("gone() before", none.gone(), 5);
        readDue(none, 40, "40 | 1 34 3 | 35 33 32 | 2 : 0");
        due("whichList(31)", none.whichList(31), 0);
        due("gone()", none.gone(), 6);
        ArcCache onePage = Checks.cacheOf(1);
        Checks.readAll(onePage, 2, 2, 1);
        readDue(onePage, 2, "- | 2 | 1 | - : 0");
        readDue(onePage, 3, "3 | - | - | 2 : 0");
        due("whichList(1)", onePage.whichList(1), 0);
    }

    /** Also when list 4 has names, of which none is dropped though all four have 2 C. */
    private static void oldEndOfList1GoesAndIsInNoList() {
        ArcCache onePage = Checks.cacheOf(1);
        readDue(onePage, 1, "1 | - | - | - : 0");
        readDue(onePage, 2, "2 | - | - | - : 0");
        due("C 1: whichList(1)", onePage.whichList(1), 0);
        due("C 1: gone()", onePage.gone(), 1);
        ArcCache names = Runs.oneInList4();
        readDue(names, 4, "4 3 | - | - | 2 1 : 1");
        due("C 2: gone() before", names.gone(), 3);
        readDue(names, 5, "5 4 | - | - | 2 1 : 1");
        due("C 2: whichList(3)", names.whichList(3), 0);
        due("C 2: gone()", names.gone(), 4);
        ArcCache most = Checks.cacheOf(24);
        for (int address = 0; address < 25; address++) {
            most.write(address, 50 + address);
        }
        due("C 24: whichList(0)", most.whichList(0), 0);
        due("C 24: store(0)", most.store(0), 50);
        due("C 24: at(1, 23)", most.at(1, 23), 1);
        due("C 24: gone()", most.gone(), 1);
    }

    /** |1| + |3| is C - 1, so that list 3 keeps its old end; the next finds C. */
    private static void lists1And3HaveLessThanC() {
        ArcCache cache = Checks.cacheOf(3);
        Checks.readAll(cache, 1, 1, 2, 2, 3);
        readDue(cache, 4, "4 | 2 1 | 3 | - : 0");
        readDue(cache, 5, "5 | 2 1 | 4 3 | - : 0");
        readDue(cache, 6, "6 | 2 1 | 5 4 | - : 0");
    }

    /** C - 1, then C, with pages in list 1 and without. */
    private static void allFourHaveCOrMore() {
        ArcCache cache = Checks.cacheOf(3);
        Checks.readAll(cache, 1, 1, 2);
        readDue(cache, 3, "3 2 | 1 | - | - : 0");
        due("gone() of C - 1", cache.gone(), 0);
        readDue(cache, 4, "4 3 | 1 | 2 | - : 0");
        due("gone() of C", cache.gone(), 1);
        ArcCache again = Checks.cacheOf(2);
        Checks.readAll(again, 1, 1);
        readDue(again, 2, "2 | 1 | - | - : 0");
        again.read(2);
        readDue(again, 3, "3 | 2 | - | 1 : 0");
        ArcCache onePage = Checks.cacheOf(1);
        Checks.readAll(onePage, 1, 1);
        readDue(onePage, 2, "2 | - | - | 1 : 0");
    }

    /** 2 C - 1, where list 4 keeps its old end, then 2 C. */
    private static void allHave2C() {
        ArcCache below = Runs.oneInList4();
        readDue(below, 4, "4 3 | - | - | 2 1 : 1");
        readDue(below, 3, "4 | 3 | - | 2 1 : 1");
        readDue(below, 5, "5 4 | - | - | 3 2 : 1");
        due("whichList(1)", below.whichList(1), 0);
        ArcCache allFour = Runs.allFour();
        due("gone() before", allFour.gone(), 4);
        readDue(allFour, 5, "5 | 4 | 3 | 1 : 0");
        due("whichList(2)", allFour.whichList(2), 0);
        due("gone()", allFour.gone(), 5);
    }

    private static void comesToTheNewEndOfList1() {
        ArcCache cache = Checks.cacheOf(2);
        readDue(cache, 0, "0 | - | - | - : 0");
        readDue(cache, 63, "63 0 | - | - | - : 0");
        due("write(5, 6)", cache.write(5, 6), true);
        CHECKS.dueState("state after write(5, 6)", cache, "5 63 | - | - | - : 0");
        due("read(5)", cache.read(5), 6);
        due("hits()", cache.hits(), 1);
    }

    /** 5 comes back of no list, 2 of list 3 and 1 of list 4. */
    private static void pageThatComesHasTheStoresWord() {
        ArcCache onePage = Checks.cacheOf(1);
        onePage.write(5, -7);
        onePage.read(6);
        due("whichList(5)", onePage.whichList(5), 0);
        due("read(5)", onePage.read(5), -7);
        due("isDirty(5)", onePage.isDirty(5), false);
        ArcCache cache = Checks.cacheOf(2);
        cache.write(1, 11);
        cache.read(1);
        cache.write(2, 22);
        cache.read(3);
        due("whichList(2)", cache.whichList(2), 3);
        due("read(2)", cache.read(2), 22);
        due("isDirty(2)", cache.isDirty(2), false);
        due("whichList(1)", cache.whichList(1), 4);
        due("read(1)", cache.read(1), 11);
        due("isDirty(1)", cache.isDirty(1), false);
        due("flush()", cache.flush(), 0);
    }
}
