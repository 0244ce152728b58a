import java.util.Arrays;

/** A cache before a store of 64 words, with four lists of addresses and a moving target for the first. */
public final class ArcCache {
    private static final int ADDRESSES = 64;
    private static final int MOST_PAGES = 24;
    private static final int NO_ADDRESS = -1;

    private static final int IN_NONE = 0;
    private static final int CAME_ONCE = 1;
    private static final int CAME_AGAIN = 2;
    private static final int WENT_ONCE = 3;
    private static final int WENT_AGAIN = 4;

    private final int pages;
    private final AddressList cameOnce = new AddressList();
    private final AddressList cameAgain = new AddressList();
    private final AddressList wentOnce = new AddressList();
    private final AddressList wentAgain = new AddressList();

    // A page's word and mark lie under its address. Without a page the word is left over and the mark is
    // false, so that flush and isDirty need not ask the lists.
    private final int[] pageWords = new int[ADDRESSES];
    private final boolean[] dirtyPages = new boolean[ADDRESSES];
    private final int[] storeWords = new int[ADDRESSES];

    private int targetCount;
    private int hitCount;
    private int missCount;
    private int goneCount;

    public ArcCache(int c) {
        pages = Math.floorMod(c, MOST_PAGES) + 1;
    }

    public void init() {
        cameOnce.empty();
        cameAgain.empty();
        wentOnce.empty();
        wentAgain.empty();
        Arrays.fill(pageWords, 0);
        Arrays.fill(storeWords, 0);
        for (int address = 0; address < ADDRESSES; address++) {
            dirtyPages[address] = false;
        }
        targetCount = 0;
        hitCount = 0;
        missCount = 0;
        goneCount = 0;
    }

    public int read(int address) {
        if (!isAddress(address)) {
            return 0;
        }
        request(address);
        return pageWords[address];
    }

    public boolean write(int address, int word) {
        if (!isAddress(address)) {
            return false;
        }
        request(address);
        pageWords[address] = word;
        dirtyPages[address] = true;
        return true;
    }

    public int flush() {
        int flushed = 0;
        for (int address = 0; address < ADDRESSES; address++) {
            if (dirtyPages[address]) {
                writeBack(address);
                flushed++;
            }
        }
        return flushed;
    }

    public int whichList(int address) {
        for (int number = CAME_ONCE; number <= WENT_AGAIN; number++) {
            if (listNumbered(number).has(address)) {
                return number;
            }
        }
        return IN_NONE;
    }

    public int at(int list, int i) {
        return isList(list) ? listNumbered(list).fromNewest(i) : NO_ADDRESS;
    }

    public int length(int list) {
        return isList(list) ? listNumbered(list).size() : -1;
    }

    public int target() {
        return targetCount;
    }

    public int hits() {
        return hitCount;
    }

    public int misses() {
        return missCount;
    }

    public int store(int address) {
        return isAddress(address) ? storeWords[address] : 0;
    }

    public boolean isDirty(int address) {
        return isAddress(address) && dirtyPages[address];
    }

    public int gone() {
        return goneCount;
    }

    private static boolean isAddress(int address) {
        return address >= 0 && address < ADDRESSES;
    }

    private static boolean isList(int number) {
        return number >= CAME_ONCE && number <= WENT_AGAIN;
    }

    private AddressList listNumbered(int number) {
        switch (number) {
            case CAME_ONCE:
                return cameOnce;
            case CAME_AGAIN:
                return cameAgain;
            case WENT_ONCE:
                return wentOnce;
            default:
                return wentAgain;
        }
    }

    private void request(int address) {
        int list = whichList(address);
        if (list == CAME_ONCE || list == CAME_AGAIN) {
            hitCount++;
            moveToCameAgain(address, list);
            return;
        }
        missCount++;
        if (list == IN_NONE) {
            makeRoomForUnknown(address);
            cameOnce.addNewest(address);
        } else {
            moveTarget(list);
            makeRoom(address);
            moveToCameAgain(address, list);
        }
        bringPage(address);
    }

    private void moveToCameAgain(int address, int from) {
        listNumbered(from).remove(address);
        cameAgain.addNewest(address);
    }

    private void bringPage(int address) {
        pageWords[address] = storeWords[address];
        dirtyPages[address] = false;
    }

    private void moveTarget(int list) {
        if (list == WENT_ONCE) {
            int step = stepOf(wentAgain.size(), wentOnce.size());
            targetCount = Math.min(pages, targetCount + step);
        } else {
            int step = stepOf(wentOnce.size(), wentAgain.size());
            targetCount = Math.max(0, targetCount - step);
        }
    }

    private static int stepOf(int other, int own) {
        return own == 0 ? 1 : Math.max(1, other / own);
    }

    private void makeRoom(int address) {
        int once = cameOnce.size();
        boolean tie = once == targetCount && once > 0 && wentAgain.has(address);
        if (once > targetCount || tie) {
            oldestGoes(cameOnce, wentOnce);
        } else {
            oldestGoes(cameAgain, wentAgain);
        }
    }

    private void makeRoomForUnknown(int address) {
        int firstPair = cameOnce.size() + wentOnce.size();
        int all = firstPair + cameAgain.size() + wentAgain.size();
        if (firstPair == pages && cameOnce.size() == pages) {
            pageGoes(cameOnce.oldest());
            cameOnce.dropOldest();
        } else if (firstPair == pages) {
            wentOnce.dropOldest();
            makeRoom(address);
        } else if (all >= pages) {
            if (all == 2 * pages) {
                wentAgain.dropOldest();
            }
            makeRoom(address);
        }
    }

    private void oldestGoes(AddressList from, AddressList names) {
        int oldest = from.oldest();
        pageGoes(oldest);
        from.remove(oldest);
        names.addNewest(oldest);
    }

    private void pageGoes(int address) {
        // An empty list has no oldest address; room is made only when there is one, but an index is looked at.
        if (!isAddress(address)) {
            return;
        }
        if (dirtyPages[address]) {
            writeBack(address);
        }
        goneCount++;
    }

    private void writeBack(int address) {
        storeWords[address] = pageWords[address];
        dirtyPages[address] = false;
    }

    /** Addresses in the order in which they came; an address is there at most once. */
    private static final class AddressList {
        private final int[] oldestFirst = new int[ADDRESSES];
        private int count;

        int size() {
            return count;
        }

        void empty() {
            count = 0;
        }

        boolean has(int address) {
            return placeOf(address) >= 0;
        }

        int fromNewest(int i) {
            return i >= 0 && i < count ? oldestFirst[count - 1 - i] : NO_ADDRESS;
        }

        void addNewest(int address) {
            if (isAddress(address) && count < ADDRESSES) {
                oldestFirst[count] = address;
                count++;
            }
        }

        int oldest() {
            return fromNewest(count - 1);
        }

        void dropOldest() {
            remove(oldest());
        }

        void remove(int address) {
            int place = placeOf(address);
            if (place >= 0) {
                count--;
                System.arraycopy(oldestFirst, place + 1, oldestFirst, place, count - place);
            }
        }

        private int placeOf(int address) {
            for (int place = 0; place < count; place++) {
                if (oldestFirst[place] == address) {
                    return place;
                }
            }
            return -1;
        }
    }
}
