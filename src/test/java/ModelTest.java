import java.util.ArrayList;
import java.util.HashMap;
import java.util.List;
import java.util.Map;
import java.util.Random;
import java.util.TreeMap;

/** Long runs of calls beside a model that follows the document's sentences word by word. */
public final class ModelTest {
    private static final int RUNS = 300;
    private static final int CALLS = 512;

    /** Every branch of a request; a run of tests that never takes one of them proves too little. */
    private static final String[] BRANCHES = {
        "hit in 1", "hit in 2", "miss in 3", "miss in 4", "miss in none",
        "up by 1 at least", "up by more", "up to C", "down by 1 at least", "down by more", "down to 0",
        "room: 1 above target", "room: tie", "room: tie of 0", "room: tie, not in 4", "room: 1 below target",
        "none: 3 forgets", "none: 1 forgets", "none: 4 forgets", "none: room alone", "none: no room",
        "dirty went", "clean went"
    };

    public static void main(String[] args) {
        Checks checks = new Checks();
        Map<String, Integer> taken = new TreeMap<>();
        for (int run = 0; run < RUNS; run++) {
            oneRun(checks, run, taken);
        }
        for (String branch : BRANCHES) {
            checks.due("branch taken: " + branch, taken.containsKey(branch), true);
        }
        checks.end();
    }

    private static void oneRun(Checks checks, int run, Map<String, Integer> taken) {
        Random random = new Random(run);
        int c = run < 72 ? run - 24 : random.nextInt();
        ArcCache cache = new ArcCache(c);
        Model model = new Model(c, taken);
        int spread = 1 + random.nextInt(64);
        for (int call = 0; call < CALLS; call++) {
            String what = "run " + run + " ArcCache(" + c + ") call " + call;
            oneCall(checks, what, cache, model, random, spread);
        }
    }

    private static void oneCall(
            Checks checks, String what, ArcCache cache, Model model, Random random, int spread) {
        int address = pickAddress(model, random, spread);
        int word = random.nextInt();
        switch (random.nextInt(40)) {
            case 0 -> checks.due(what + " flush()", cache.flush(), model.flush());
            case 1 -> {
                if (random.nextInt(20) == 0) {
                    cache.init();
                    model.init();
                }
            }
            case 2, 3, 4, 5, 6, 7, 8, 9, 10, 11, 12, 13 -> checks.due(
                    what + " write(" + address + ", " + word + ")",
                    cache.write(address, word), model.write(address, word));
            default -> checks.due(what + " read(" + address + ")", cache.read(address), model.read(address));
        }
        checks.due(what + " state", Checks.state(cache), model.state());
        checks.due(what + " counts",
                List.of(cache.hits(), cache.misses(), cache.gone()),
                List.of(model.hits, model.misses, model.gone));
        for (int a = -1; a <= 64; a++) {
            checks.due(what + " whichList(" + a + ")", cache.whichList(a), model.whichList(a));
            checks.due(what + " store(" + a + ")", cache.store(a), model.store.getOrDefault(a, 0));
            checks.due(what + " isDirty(" + a + ")", cache.isDirty(a), model.isDirty(a));
        }
    }

    /** Names of lists 3 and 4 are asked for often, since chance alone seldom moves TARGET far. */
    private static int pickAddress(Model model, Random random, int spread) {
        int kind = random.nextInt(10);
        if (kind < 4) {
            List<Integer> names = model.lists.get(1 + random.nextInt(4));
            if (!names.isEmpty()) {
                return names.get(random.nextInt(names.size()));
            }
        }
        return kind == 9 ? random.nextInt(68) - 2 : random.nextInt(spread);
    }

    private static final class Page {
        int word;
        boolean dirty;
    }

    /** Lists have their new end at index 0; list 0 stays empty, so that numbers are the document's. */
    private static final class Model {
        final int c;
        final Map<String, Integer> taken;
        final List<List<Integer>> lists = new ArrayList<>();
        final Map<Integer, Page> pages = new HashMap<>();
        final Map<Integer, Integer> store = new HashMap<>();
        int target;
        int hits;
        int misses;
        int gone;

        Model(int given, Map<String, Integer> taken) {
            this.c = 1 + ((given % 24) + 24) % 24;
            this.taken = taken;
            init();
        }

        void init() {
            lists.clear();
            for (int k = 0; k <= 4; k++) {
                lists.add(new ArrayList<>());
            }
            pages.clear();
            store.clear();
            target = 0;
            hits = 0;
            misses = 0;
            gone = 0;
        }

        int read(int a) {
            if (a < 0 || a > 63) {
                return 0;
            }
            request(a);
            return pages.get(a).word;
        }

        boolean write(int a, int word) {
            if (a < 0 || a > 63) {
                return false;
            }
            request(a);
            pages.get(a).word = word;
            pages.get(a).dirty = true;
            return true;
        }

        int flush() {
            int were = 0;
            for (Map.Entry<Integer, Page> entry : pages.entrySet()) {
                if (entry.getValue().dirty) {
                    were++;
                    store.put(entry.getKey(), entry.getValue().word);
                    entry.getValue().dirty = false;
                }
            }
            return were;
        }

        int whichList(int a) {
            for (int k = 1; k <= 4; k++) {
                if (lists.get(k).contains(a)) {
                    return k;
                }
            }
            return 0;
        }

        boolean isDirty(int a) {
            return pages.containsKey(a) && pages.get(a).dirty;
        }

        String state() {
            StringBuilder text = new StringBuilder();
            for (int k = 1; k <= 4; k++) {
                String all = lists.get(k).toString().replace(",", "").replace("[", "").replace("]", "");
                text.append(k == 1 ? "" : " | ").append(all.isEmpty() ? "-" : all);
            }
            return text.append(" : ").append(target).toString();
        }

        private int size(int k) {
            return lists.get(k).size();
        }

        private void took(String branch) {
            taken.merge(branch, 1, Integer::sum);
        }

        private int forgetOldEnd(int k) {
            return lists.get(k).remove(size(k) - 1);
        }

        private void comeTo(int k, int a) {
            for (List<Integer> list : lists) {
                list.remove(Integer.valueOf(a));
            }
            lists.get(k).add(0, a);
        }

        private void goes(int a) {
            Page page = pages.remove(a);
            took(page.dirty ? "dirty went" : "clean went");
            if (page.dirty) {
                store.put(a, page.word);
            }
            gone++;
        }

        private void comesWithPage(int k, int a) {
            Page page = new Page();
            page.word = store.getOrDefault(a, 0);
            pages.put(a, page);
            comeTo(k, a);
        }

        private void makeRoom(int a) {
            boolean in4 = lists.get(4).contains(a);
            boolean tie = size(1) == target && size(1) > 0 && in4;
            took(size(1) > target ? "room: 1 above target" : tie ? "room: tie"
                    : size(1) < target ? "room: 1 below target"
                    : in4 ? "room: tie of 0" : "room: tie, not in 4");
            int from = size(1) > target || tie ? 1 : 2;
            int old = lists.get(from).get(size(from) - 1);
            goes(old);
            comeTo(from + 2, old);
        }

        private void request(int a) {
            int k = whichList(a);
            took(k == 0 ? "miss in none" : (k < 3 ? "hit in " : "miss in ") + k);
            if (k == 1 || k == 2) {
                hits++;
                comeTo(2, a);
                return;
            }
            misses++;
            if (k == 3) {
                int by = size(4) / size(3);
                took(by < 1 ? "up by 1 at least" : by > 1 ? "up by more" : "up by 1");
                target += by < 1 ? 1 : by;
                if (target > c) {
                    took("up to C");
                    target = c;
                }
                makeRoom(a);
                comesWithPage(2, a);
            } else if (k == 4) {
                int by = size(3) / size(4);
                took(by < 1 ? "down by 1 at least" : by > 1 ? "down by more" : "down by 1");
                target -= by < 1 ? 1 : by;
                if (target < 0) {
                    took("down to 0");
                    target = 0;
                }
                makeRoom(a);
                comesWithPage(2, a);
            } else {
                inNone(a);
                comesWithPage(1, a);
            }
        }

        private void inNone(int a) {
            int all = size(1) + size(2) + size(3) + size(4);
            if (size(1) + size(3) == c) {
                if (size(1) < c) {
                    took("none: 3 forgets");
                    forgetOldEnd(3);
                    makeRoom(a);
                } else {
                    took("none: 1 forgets");
                    goes(forgetOldEnd(1));
                }
            } else if (size(1) + size(3) < c && all >= c) {
                took(all == 2 * c ? "none: 4 forgets" : "none: room alone");
                if (all == 2 * c) {
                    forgetOldEnd(4);
                }
                makeRoom(a);
            } else {
                took("none: no room");
            }
        }
    }
}
