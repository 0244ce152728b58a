import java.util.ArrayList;
import java.util.HashMap;
import java.util.List;
import java.util.Map;
import java.util.Random;
import java.util.TreeMap;

/** Runs of as many calls as the document allows, beside a model that follows its sentences word by word. */
public final class ModelTest {
    private static final int RUNS = 4000;
    private static final int CALLS = 512;

    /** One fault fails many runs alike; the first few tell enough. */
    private static final int MOST_FAILED_RUNS = 5;

    /** Every branch of a request; a run of tests that never takes one of them proves too little. */
    private static final String[] BRANCHES = {
        "hit in 1", "hit in 2", "miss in 3", "miss in 4", "miss in none",
        "up by 1 at least", "up by more", "up to C", "down by 1 at least", "down by more", "down to 0",
        "room: 1 above target", "room: tie", "room: tie of 0", "room: tie, not in 4", "room: 1 below target",
        "none: 3 forgets", "none: 1 forgets", "none: 4 forgets", "none: room alone", "none: no room",
        "dirty went", "clean went"
    };

    public static void main(String[] args) {
        Checks checks = new Checks();
        Map<String, Integer> taken = new TreeMap<>();
        int failedRuns = 0;
        for (int run = 0; run < RUNS && failedRuns < MOST_FAILED_RUNS; run++) {
            failedRuns += oneRun(checks, run, taken) ? 0 : 1;
        }
        for (String branch : BRANCHES) {
            checks.due("branch taken: " + branch, taken.containsKey(branch), true);
        }
        checks.end();
    }

    /** Whether all answers were as due; what comes after a wrong one tells nothing more. */
    private static boolean oneRun(Checks checks, int run, Map<String, Integer> taken) {
        Random random = new Random(run);
        int c = run < 72 ? run - 24 : random.nextInt();
        ArcCache cache = new ArcCache(c);
        Model model = new Model(c, taken);
        int spread = 1 + random.nextInt(64);
        int requests = 20 + random.nextInt(70);
        boolean asDue = true;
        for (int call = 0; call < CALLS && asDue; call++) {
            String what = "run " + run + " ArcCache(" + c + ") call " + call;
            int address = pickAddress(model, random, spread);
            asDue = random.nextInt(100) < requests
                    ? oneChange(checks, what, cache, model, random, address)
                    : oneLook(checks, what, cache, model, random, address);
        }
        return asDue;
    }

    private static boolean oneChange(
            Checks checks, String what, ArcCache cache, Model model, Random random, int address) {
        int kind = random.nextInt(500);
        if (kind == 0) {
            cache.init();
            model.init();
            return true;
        }
        if (kind < 20) {
            return checks.due(what + " flush()", cache.flush(), model.flush());
        }
        if (kind < 180) {
            // Of few words, so that some are written that are there already.
            int word = random.nextBoolean() ? random.nextInt(3) : random.nextInt();
            return checks.due(what + " write(" + address + ", " + word + ")",
                    cache.write(address, word), model.write(address, word));
        }
        return checks.due(what + " read(" + address + ")", cache.read(address), model.read(address));
    }

    private static boolean oneLook(
            Checks checks, String what, ArcCache cache, Model model, Random random, int address) {
        int list = random.nextInt(20) == 0 ? near(random, -4, 8) : 1 + random.nextInt(4);
        int ends = Math.max(1, model.length(list)) + 2;
        int i = random.nextInt(20) == 0 ? near(random, -4, 68) : random.nextInt(ends) - 1;
        return switch (random.nextInt(12)) {
            case 0 -> checks.due(what + " whichList(" + address + ")",
                    cache.whichList(address), model.whichList(address));
            case 1 -> checks.due(what + " store(" + address + ")", cache.store(address), model.store(address));
            case 2 -> checks.due(what + " isDirty(" + address + ")", cache.isDirty(address), model.isDirty(address));
            case 3 -> checks.due(what + " hits()", cache.hits(), model.hits);
            case 4 -> checks.due(what + " misses()", cache.misses(), model.misses);
            case 5 -> checks.due(what + " gone()", cache.gone(), model.gone);
            case 6, 7 -> checks.due(what + " target()", cache.target(), model.target);
            case 8 -> checks.due(what + " length(" + list + ")", cache.length(list), model.length(list));
            default -> checks.due(what + " at(" + list + ", " + i + ")", cache.at(list, i), model.at(list, i));
        };
    }

    /** Names of lists 3 and 4 are asked for often, since chance alone seldom moves TARGET far. */
    private static int pickAddress(Model model, Random random, int spread) {
        int kind = random.nextInt(10);
        if (kind < 4) {
            List<Integer> names = model.lists.get(1 + random.nextInt(4));
            if (!names.isEmpty()) {
                return names.get(random.nextInt(names.size()));
            }
        }
        return kind == 9 ? near(random, -2, 66) : random.nextInt(spread);
    }

    /** Mostly from low to below high, else any number at all: no call may throw, whatever it is given. */
    private static int near(Random random, int low, int high) {
        return random.nextInt(4) == 0 ? random.nextInt() : low + random.nextInt(high - low);
    }

    private static final class Page {
        int word;
        boolean dirty;
    }

    /** Lists have their new end at index 0; list 0 stays empty, so that numbers are the document's. */
    private static final class Model {
        final int c;
        final Map<String, Integer> taken;
        final List<List<Integer>> lists = new ArrayList<>();
        final Map<Integer, Page> pages = new HashMap<>();
        final Map<Integer, Integer> store = new HashMap<>();
        int target;
        int hits;
        int misses;
        int gone;

        Model(int given, Map<String, Integer> taken) {
            this.c = 1 + ((given % 24) + 24) % 24;
            this.taken = taken;
            init();
        }

        void init() {
            lists.clear();
            for (int k = 0; k <= 4; k++) {
                lists.add(new ArrayList<>());
            }
            pages.clear();
            store.clear();
            target = 0;
            hits = 0;
            misses = 0;
            gone = 0;
        }

        int read(int a) {
            if (a < 0 || a > 63) {
                return 0;
            }
            request(a);
            return pages.get(a).word;
        }

        boolean write(int a, int word) {
            if (a < 0 || a > 63) {
                return false;
            }
            request(a);
            pages.get(a).word = word;
            pages.get(a).dirty = true;
            return true;
        }

        int flush() {
            int were = 0;
            for (Map.Entry<Integer, Page> entry : pages.entrySet()) {
                if (entry.getValue().dirty) {
                    were++;
                    store.put(entry.getKey(), entry.getValue().word);
                    entry.getValue().dirty = false;
                }
            }
            return were;
        }

        int whichList(int a) {
            for (int k = 1; k <= 4; k++) {
                if (lists.get(k).contains(a)) {
                    return k;
                }
            }
            return 0;
        }

        boolean isDirty(int a) {
            return pages.containsKey(a) && pages.get(a).dirty;
        }

        int store(int a) {
            return store.getOrDefault(a, 0);
        }

        int length(int k) {
            return k >= 1 && k <= 4 ? size(k) : -1;
        }

        int at(int k, int i) {
            return i >= 0 && i < length(k) ? lists.get(k).get(i) : -1;
        }

        private int size(int k) {
            return lists.get(k).size();
        }

        private void took(String branch) {
            taken.merge(branch, 1, Integer::sum);
        }

        private int forgetOldEnd(int k) {
            return lists.get(k).remove(size(k) - 1);
        }

        private void comeTo(int k, int a) {
            for (List<Integer> list : lists) {
                list.remove(Integer.valueOf(a));
            }
            lists.get(k).add(0, a);
        }

        private void goes(int a) {
            Page page = pages.remove(a);
            took(page.dirty ? "dirty went" : "clean went");
            if (page.dirty) {
                store.put(a, page.word);
            }
            gone++;
        }

        private void comesWithPage(int k, int a) {
            Page page = new Page();
            page.word = store.getOrDefault(a, 0);
            pages.put(a, page);
            comeTo(k, a);
        }

        private void makeRoom(int a) {
            boolean in4 = lists.get(4).contains(a);
            boolean tie = size(1) == target && size(1) > 0 && in4;
            took(size(1) > target ? "room: 1 above target" : tie ? "room: tie"
                    : size(1) < target ? "room: 1 below target"
                    : in4 ? "room: tie of 0" : "room: tie, not in 4");
            int from = size(1) > target || tie ? 1 : 2;
            int old = lists.get(from).get(size(from) - 1);
            goes(old);
            comeTo(from + 2, old);
        }

        private void request(int a) {
            int k = whichList(a);
            took(k == 0 ? "miss in none" : (k < 3 ? "hit in " : "miss in ") + k);
            if (k == 1 || k == 2) {
                hits++;
                comeTo(2, a);
                return;
            }
            misses++;
            if (k == 3) {
                int by = size(4) / size(3);
                took(by < 1 ? "up by 1 at least" : by > 1 ? "up by more" : "up by 1");
                target += by < 1 ? 1 : by;
                if (target > c) {
                    took("up to C");
                    target = c;
                }
                makeRoom(a);
                comesWithPage(2, a);
            } else if (k == 4) {
                int by = size(3) / size(4);
                took(by < 1 ? "down by 1 at least" : by > 1 ? "down by more" : "down by 1");
                target -= by < 1 ? 1 : by;
                if (target < 0) {
                    took("down to 0");
                    target = 0;
                }
                makeRoom(a);
                comesWithPage(2, a);
            } else {
                inNone(a);
                comesWithPage(1, a);
            }
        }

        private void inNone(int a) {
            int all = size(1) + size(2) + size(3) + size(4);
            if (size(1) + size(3) == c) {
                if (size(1) < c) {
                    took("none: 3 forgets");
                    forgetOldEnd(3);
                    makeRoom(a);
                } else {
                    took("none: 1 forgets");
                    goes(forgetOldEnd(1));
                }
            } else if (size(1) + size(3) < c && all >= c) {
                took(all == 2 * c ? "none: 4 forgets" : "none: room alone");
                if (all == 2 * c) {
                    forgetOldEnd(4);
                }
                makeRoom(a);
            } else {
                took("none: no room");
            }
        }
    }
}
