import java.util.ArrayList;
import java.util.Collections;
import java.util.HashSet;
import java.util.LinkedHashMap;
import java.util.List;
import java.util.Map;
import java.util.Set;
import java.util.TreeMap;
import java.util.TreeSet;

/**
 * The document put into Java once more, word by word and without any thought of
 * speed, so that RandomRuns can hold PackWright against it. It shares no code with
 * PackWright, and where the two could do something in one way, it does it in another.
 */
final class NaiveWright {
    record Range(int kind, int major, int minor, int patch) {
        boolean letsIn(Version v) {
            int[] x = {major, minor, patch};
            int order = 0;
            for (int i = 0; i < 3 && order == 0; i++) {
                order = Integer.compare(v.numbers[i], x[i]);
            }
            boolean sameMajor = v.numbers[0] == major;
            boolean sameMinor = v.numbers[1] == minor;
            return switch (kind) {
                case 0 -> true;
                case 1 -> order == 0;
                case 2 -> order >= 0;
                case 3 -> order < 0;
                case 4 -> order >= 0 && sameMajor && (major != 0 || sameMinor);
                default -> order >= 0 && sameMajor && sameMinor;
            };
        }
    }

    record Need(int of, int condition, int features, Range range) { }

    record Wish(int of, int features, Range range) { }

    record Step(int kind, int of, int before, int behind) { }

    static final class Version {
        int of;
        int number;
        int[] numbers;
        int size;
        boolean withdrawn;
        List<Need> needs = new ArrayList<>();
        List<Need> clashes = new ArrayList<>();
    }

    static final class TooHard extends Exception {
        private static final long serialVersionUID = 1L;
    }

    final List<List<Version>> registry = new ArrayList<>();
    final List<Wish> wishRow = new ArrayList<>();
    Map<Integer, Integer> lock = new TreeMap<>();
    Map<Integer, Integer> installedMap = new TreeMap<>();
    List<Step> planRow = null;
    int done = 0;
    int disk = 5000;
    int cacheRoom = 2000;
    List<Version> cacheOldestFirst = new ArrayList<>();
    int fetchedCount = 0;
    int latestTries = 0;

    private static void index(boolean ok) {
        if (!ok) {
            throw new IndexOutOfBoundsException();
        }
    }

    private static void argument(boolean ok) {
        if (!ok) {
            throw new IllegalArgumentException();
        }
    }

    private static void state(boolean ok) {
        if (!ok) {
            throw new IllegalStateException();
        }
    }

    private void pack(int of) {
        index(0 <= of && of < registry.size());
    }

    private static boolean within(int x, int least, int most) {
        return least <= x && x <= most;
    }

    private static void triple(int major, int minor, int patch) {
        argument(within(major, 0, 99) && within(minor, 0, 99) && within(patch, 0, 99));
    }

    private static void range(int kind, int major, int minor, int patch) {
        argument(within(kind, 0, 5));
        triple(major, minor, patch);
    }

    Version version(int of, int number) {
        return registry.get(of).get(number);
    }

    // ---- the registry

    int addPackage() {
        state(registry.size() < 12);
        registry.add(new ArrayList<>());
        return registry.size() - 1;
    }

    int publish(int of, int major, int minor, int patch, int size) {
        pack(of);
        triple(major, minor, patch);
        argument(within(size, 1, 999));
        List<Version> versions = registry.get(of);
        state(versions.size() < 8);
        for (Version v : versions) {
            state(!(v.numbers[0] == major && v.numbers[1] == minor && v.numbers[2] == patch));
        }
        Version v = new Version();
        v.of = of;
        v.number = versions.size();
        v.numbers = new int[] {major, minor, patch};
        v.size = size;
        versions.add(v);
        return v.number;
    }

    int need(int of, int needed, int condition, int features, int kind, int major, int minor, int patch) {
        pack(of);
        pack(needed);
        argument(of != needed && within(condition, -1, 3) && within(features, 0, 15));
        range(kind, major, minor, patch);
        List<Version> versions = registry.get(of);
        state(!versions.isEmpty());
        Version latest = versions.get(versions.size() - 1);
        state(latest.needs.size() < 5);
        latest.needs.add(new Need(needed, condition, features, new Range(kind, major, minor, patch)));
        return latest.needs.size() - 1;
    }

    int clash(int of, int other, int kind, int major, int minor, int patch) {
        pack(of);
        pack(other);
        argument(of != other);
        range(kind, major, minor, patch);
        List<Version> versions = registry.get(of);
        state(!versions.isEmpty());
        Version latest = versions.get(versions.size() - 1);
        state(latest.clashes.size() < 3);
        latest.clashes.add(new Need(other, -1, 0, new Range(kind, major, minor, patch)));
        return latest.clashes.size() - 1;
    }

    boolean withdraw(int of, int number, boolean isWithdrawn) {
        pack(of);
        index(within(number, 0, registry.get(of).size() - 1));
        boolean was = version(of, number).withdrawn;
        version(of, number).withdrawn = isWithdrawn;
        return was;
    }

    int packages() {
        return registry.size();
    }

    int versions(int of) {
        pack(of);
        return registry.get(of).size();
    }

    List<Version> greatestFirst(int of) {
        List<Version> row = new ArrayList<>(registry.get(of));
        row.sort((a, b) -> {
            for (int i = 0; i < 3; i++) {
                if (a.numbers[i] != b.numbers[i]) {
                    return b.numbers[i] - a.numbers[i];
                }
            }
            return 0;
        });
        return row;
    }

    int versionAt(int of, int place) {
        pack(of);
        index(within(place, 0, registry.get(of).size() - 1));
        return greatestFirst(of).get(place).number;
    }

    int letIn(int of, int kind, int major, int minor, int patch) {
        pack(of);
        range(kind, major, minor, patch);
        Range r = new Range(kind, major, minor, patch);
        return (int) registry.get(of).stream().filter(r::letsIn).count();
    }

    // ---- the project

    int wish(int of, int features, int kind, int major, int minor, int patch) {
        pack(of);
        argument(within(features, 0, 15));
        range(kind, major, minor, patch);
        state(wishRow.size() < 6);
        wishRow.add(new Wish(of, features, new Range(kind, major, minor, patch)));
        return wishRow.size() - 1;
    }

    int dropWish(int wish) {
        index(within(wish, 0, wishRow.size() - 1));
        wishRow.remove(wish);
        return wishRow.size();
    }

    int wishes() {
        return wishRow.size();
    }

    /** The pairs (package, feature), as package * 4 + feature, that are ON. */
    Set<Integer> on(Map<Integer, Integer> choice, List<Wish> wishes) {
        Set<Integer> on = new HashSet<>();
        for (Wish w : wishes) {
            addFeatures(on, choice, w.of, w.features);
        }
        for (boolean again = true; again;) {
            int before = on.size();
            for (int of : choice.keySet()) {
                for (Need n : counting(of, choice, on)) {
                    addFeatures(on, choice, n.of, n.features);
                }
            }
            again = on.size() != before;
        }
        return on;
    }

    private static void addFeatures(Set<Integer> on, Map<Integer, Integer> choice, int of, int features) {
        for (int f = 0; f < 4; f++) {
            if ((features & 1 << f) != 0 && choice.containsKey(of)) {
                on.add(of * 4 + f);
            }
        }
    }

    List<Need> counting(int of, Map<Integer, Integer> choice, Set<Integer> on) {
        List<Need> counting = new ArrayList<>();
        if (choice.containsKey(of)) {
            for (Need n : version(of, choice.get(of)).needs) {
                if (n.condition == -1 || on.contains(of * 4 + n.condition)) {
                    counting.add(n);
                }
            }
        }
        return counting;
    }

    boolean needs(int of, int needed, Map<Integer, Integer> choice, List<Wish> wishes) {
        return counting(of, choice, on(choice, wishes)).stream().anyMatch(n -> n.of == needed);
    }

    /** Whether each WISH and each NEED that COUNTS is met, or waits, if waiting is allowed; and nothing clashes. */
    boolean good(Map<Integer, Integer> choice, List<Wish> wishes, boolean mayWait) {
        Set<Integer> on = on(choice, wishes);
        for (Wish w : wishes) {
            if (!met(w.of, w.range, choice, mayWait)) {
                return false;
            }
        }
        for (int of : choice.keySet()) {
            for (Need n : counting(of, choice, on)) {
                if (!met(n.of, n.range, choice, mayWait)) {
                    return false;
                }
            }
            for (Need c : version(of, choice.get(of)).clashes) {
                if (choice.containsKey(c.of) && c.range.letsIn(version(c.of, choice.get(c.of)))) {
                    return false;
                }
            }
        }
        return true;
    }

    private boolean met(int of, Range range, Map<Integer, Integer> choice, boolean mayWait) {
        return choice.containsKey(of) ? range.letsIn(version(of, choice.get(of))) : mayWait;
    }

    List<Integer> asked(Map<Integer, Integer> choice, List<Wish> wishes) {
        List<Integer> row = new ArrayList<>();
        for (Wish w : wishes) {
            if (!row.contains(w.of)) {
                row.add(w.of);
            }
        }
        Set<Integer> on = on(choice, wishes);
        while (true) {
            Integer next = null;
            for (int of : row) {
                for (Need n : counting(of, choice, on)) {
                    if (next == null && !row.contains(n.of)) {
                        next = n.of;
                    }
                }
            }
            if (next == null) {
                return row;
            }
            row.add(next);
        }
    }

    private int tryCount;

    /** The choice that is found, or null. */
    Map<Integer, Integer> search(List<Wish> wishes, Map<Integer, Integer> held) throws TooHard {
        tryCount = 0;
        Map<Integer, Integer> choice = new LinkedHashMap<>();
        return goOn(choice, wishes, held) ? new TreeMap<>(choice) : null;
    }

    private boolean goOn(Map<Integer, Integer> choice, List<Wish> wishes, Map<Integer, Integer> held) throws TooHard {
        Integer of = null;
        for (int p : asked(choice, wishes)) {
            if (of == null && !choice.containsKey(p)) {
                of = p;
            }
        }
        if (of == null) {
            return true;
        }
        List<Integer> candidates = new ArrayList<>();
        if (held.containsKey(of)) {
            candidates.add(held.get(of));
        }
        for (Version v : greatestFirst(of)) {
            if (!v.withdrawn && !candidates.contains(v.number)) {
                candidates.add(v.number);
            }
        }
        for (int candidate : candidates) {
            tryCount++;
            if (tryCount > 5000) {
                throw new TooHard();
            }
            choice.put(of, candidate);
            if (good(choice, wishes, true) && goOn(choice, wishes, held)) {
                return true;
            }
            choice.remove(of);
        }
        return false;
    }

    Map<Integer, Integer> held(int open, int of) {
        Set<Integer> opened = new TreeSet<>();
        if (open == 1) {
            opened.addAll(lock.keySet());
        } else if (open == 2) {
            opened.add(of);
        } else if (open == 3) {
            Set<Integer> on = on(lock, wishRow);
            List<Integer> reached = new ArrayList<>(List.of(of));
            for (int i = 0; i < reached.size(); i++) {
                for (Need n : counting(reached.get(i), lock, on)) {
                    if (!reached.contains(n.of)) {
                        reached.add(n.of);
                    }
                }
            }
            opened.addAll(reached);
        }
        Map<Integer, Integer> held = new TreeMap<>(lock);
        held.keySet().removeAll(opened);
        return held;
    }

    private int differences(Map<Integer, Integer> a, Map<Integer, Integer> b) {
        Set<Integer> all = new TreeSet<>(a.keySet());
        all.addAll(b.keySet());
        int differences = 0;
        for (int of : all) {
            if (!java.util.Objects.equals(a.get(of), b.get(of))) {
                differences++;
            }
        }
        return differences;
    }

    int resolve(int open, int of) {
        argument(within(open, 0, 3));
        if (open >= 2) {
            pack(of);
        }
        try {
            Map<Integer, Integer> found = search(wishRow, held(open, of));
            latestTries = tryCount;
            if (found == null) {
                return -1;
            }
            int differences = differences(lock, found);
            lock = found;
            planRow = null;
            done = 0;
            return differences;
        } catch (TooHard e) {
            latestTries = tryCount;
            return -2;
        }
    }

    int wouldChange(int of) {
        pack(of);
        try {
            Map<Integer, Integer> found = search(wishRow, held(2, of));
            return found == null ? -1 : differences(lock, found);
        } catch (TooHard e) {
            return -2;
        }
    }

    int tries() {
        return latestTries;
    }

    int locked(int of) {
        pack(of);
        return lock.getOrDefault(of, -1);
    }

    int lockedPackages() {
        return lock.size();
    }

    int featuresOf(int of) {
        pack(of);
        int sum = 0;
        for (int pair : on(lock, wishRow)) {
            sum += pair / 4 == of ? 1 << pair % 4 : 0;
        }
        return sum;
    }

    boolean isSound() {
        return good(lock, wishRow, false);
    }

    int idle() {
        Map<Integer, List<Integer>> chains = chains();
        int idle = 0;
        for (int of : lock.keySet()) {
            idle += chains.containsKey(of) ? 0 : 1;
        }
        return idle;
    }

    private boolean cannot(List<Wish> wishes) {
        try {
            return search(wishes, Map.of()) == null;
        } catch (TooHard e) {
            return false;
        }
    }

    int core() {
        if (!cannot(wishRow)) {
            return 0;
        }
        List<Integer> left = new ArrayList<>();
        for (int i = 0; i < wishRow.size(); i++) {
            left.add(i);
        }
        for (int i = 0; i < wishRow.size(); i++) {
            List<Wish> without = new ArrayList<>();
            for (int j : left) {
                if (j != i) {
                    without.add(wishRow.get(j));
                }
            }
            if (cannot(without)) {
                left.remove(Integer.valueOf(i));
            }
        }
        return left.stream().mapToInt(i -> 1 << i).sum();
    }

    private static boolean better(List<Integer> a, List<Integer> b) {
        if (b == null || a.size() != b.size()) {
            return b == null || a.size() < b.size();
        }
        for (int i = 0; i < a.size(); i++) {
            if (!a.get(i).equals(b.get(i))) {
                return a.get(i) < b.get(i);
            }
        }
        return false;
    }

    /** The chain that is told for each locked package that has one, bettered until nothing is better. */
    Map<Integer, List<Integer>> chains() {
        Map<Integer, List<Integer>> best = new TreeMap<>();
        Set<Integer> on = on(lock, wishRow);
        for (Wish w : wishRow) {
            if (lock.containsKey(w.of)) {
                best.put(w.of, List.of(w.of));
            }
        }
        for (boolean again = true; again;) {
            again = false;
            for (int of : new ArrayList<>(best.keySet())) {
                for (Need n : counting(of, lock, on)) {
                    List<Integer> longer = new ArrayList<>(best.get(of));
                    longer.add(n.of);
                    if (lock.containsKey(n.of) && better(longer, best.get(n.of))) {
                        best.put(n.of, longer);
                        again = true;
                    }
                }
            }
        }
        return best;
    }

    int depth(int of) {
        pack(of);
        return chains().getOrDefault(of, List.of()).size();
    }

    int chainAt(int of, int place) {
        pack(of);
        argument(place >= 0);
        List<Integer> chain = chains().getOrDefault(of, List.of());
        return place < chain.size() ? chain.get(place) : -1;
    }

    int neededBy(int of) {
        pack(of);
        int count = 0;
        for (int p : lock.keySet()) {
            count += needs(p, of, lock, wishRow) ? 1 : 0;
        }
        return count;
    }

    int newer(int of) {
        pack(of);
        if (!lock.containsKey(of)) {
            return -1;
        }
        for (Version v : greatestFirst(of)) {
            if (v.number == lock.get(of)) {
                return -1;
            }
            if (!v.withdrawn) {
                return v.number;
            }
        }
        return -1;
    }

    // ---- installing

    int setDisk(int room) {
        argument(within(room, 0, 20000));
        int before = disk;
        disk = room;
        return before;
    }

    int setCache(int room) {
        argument(within(room, 0, 20000));
        int before = cacheRoom;
        cacheRoom = room;
        letGo(cacheOldestFirst);
        return before;
    }

    private static int sizes(List<Version> row) {
        return row.stream().mapToInt(v -> v.size).sum();
    }

    private void letGo(List<Version> row) {
        while (sizes(row) > cacheRoom) {
            row.remove(0);
        }
    }

    /** Whether the version is FETCHED as it is used by way of that cache. */
    private boolean use(Version v, List<Version> row) {
        if (row.remove(v)) {
            row.add(v);
            return false;
        }
        if (v.size <= cacheRoom) {
            row.add(v);
            letGo(row);
        }
        return true;
    }

    int plan() {
        List<Integer> toRemove = new ArrayList<>();
        List<Integer> others = new ArrayList<>();
        for (int of = 0; of < registry.size(); of++) {
            int from = installedMap.getOrDefault(of, -1);
            int to = lock.getOrDefault(of, -1);
            if (from != -1 && to == -1) {
                toRemove.add(of);
            } else if (from != to) {
                others.add(of);
            }
        }
        planRow = new ArrayList<>();
        done = 0;
        while (!toRemove.isEmpty()) {
            List<Integer> unneeded = new ArrayList<>();
            for (int of : toRemove) {
                if (toRemove.stream().noneMatch(p -> needs(p, of, installedMap, wishRow))) {
                    unneeded.add(of);
                }
            }
            Integer of = Collections.min(unneeded.isEmpty() ? toRemove : unneeded);
            toRemove.remove(of);
            planRow.add(new Step(0, of, installedMap.get(of), -1));
        }
        while (!others.isEmpty()) {
            List<Integer> ready = new ArrayList<>();
            for (int of : others) {
                if (others.stream().noneMatch(p -> needs(of, p, lock, wishRow))) {
                    ready.add(of);
                }
            }
            Integer of = Collections.min(ready.isEmpty() ? others : ready);
            others.remove(of);
            int before = installedMap.getOrDefault(of, -1);
            planRow.add(new Step(before == -1 ? 2 : 1, of, before, lock.get(of)));
        }
        return planRow.size();
    }

    int steps() {
        return planRow == null ? 0 : planRow.size();
    }

    int kindOf(int step) {
        index(within(step, 0, steps() - 1));
        return planRow.get(step).kind;
    }

    int packageOf(int step) {
        index(within(step, 0, steps() - 1));
        return planRow.get(step).of;
    }

    int run(int most) {
        argument(most >= 0);
        state(planRow != null);
        for (int i = 0; i < most && done < planRow.size(); i++) {
            Step step = planRow.get(done);
            Map<Integer, Integer> behind = new TreeMap<>(installedMap);
            behind.remove(step.of);
            if (step.kind != 0) {
                behind.put(step.of, step.behind);
                if (onDisk(behind) > disk) {
                    return done;
                }
                fetchedCount += use(version(step.of, step.behind), cacheOldestFirst) ? 1 : 0;
            }
            installedMap = behind;
            done++;
        }
        return done;
    }

    int rollBack() {
        state(planRow != null);
        int undone = done;
        while (done > 0) {
            done--;
            Step step = planRow.get(done);
            installedMap.remove(step.of);
            if (step.before != -1) {
                installedMap.put(step.of, step.before);
            }
        }
        planRow = null;
        return undone;
    }

    int installed(int of) {
        pack(of);
        return installedMap.getOrDefault(of, -1);
    }

    private int onDisk(Map<Integer, Integer> choice) {
        int sum = 0;
        for (int of : choice.keySet()) {
            sum += version(of, choice.get(of)).size;
        }
        return sum;
    }

    int taken() {
        return onDisk(installedMap);
    }

    int cached() {
        return sizes(cacheOldestFirst);
    }

    int ageOf(int of, int number) {
        pack(of);
        index(within(number, 0, registry.get(of).size() - 1));
        int place = cacheOldestFirst.indexOf(version(of, number));
        return place == -1 ? -1 : cacheOldestFirst.size() - 1 - place;
    }

    int fetched() {
        return fetchedCount;
    }

    int wouldFetch() {
        int sum = 0;
        List<Version> row = new ArrayList<>(cacheOldestFirst);
        for (int i = done; i < steps(); i++) {
            Step step = planRow.get(i);
            if (step.kind != 0 && use(version(step.of, step.behind), row)) {
                sum += version(step.of, step.behind).size;
            }
        }
        return sum;
    }

    int roomNeeded() {
        Map<Integer, Integer> now = new TreeMap<>(installedMap);
        int most = onDisk(now);
        for (int i = done; i < steps(); i++) {
            Step step = planRow.get(i);
            now.remove(step.of);
            if (step.kind != 0) {
                now.put(step.of, step.behind);
            }
            most = Math.max(most, onDisk(now));
        }
        return most;
    }

    boolean isInstalled() {
        return installedMap.equals(lock);
    }

    double meanSize() {
        long sum = 0;
        long count = 0;
        for (List<Version> versions : registry) {
            sum += sizes(versions);
            count += versions.size();
        }
        return count == 0 ? 0 : sum / (double) count;
    }

    long digest() {
        List<Integer> row = new ArrayList<>(List.of(packages(), wishes(), tries(), lockedPackages(),
                isSound() ? 1 : 0, idle(), steps(), taken(), cached(), fetched()));
        row.addAll(List.of(wouldFetch(), roomNeeded(), isInstalled() ? 1 : 0));
        for (int of = 0; of < packages(); of++) {
            row.add(versions(of));
            for (int place = 0; place < versions(of); place++) {
                row.add(versionAt(of, place));
            }
            row.addAll(List.of(locked(of), featuresOf(of), depth(of)));
            row.addAll(chains().getOrDefault(of, List.of()));
            row.addAll(List.of(neededBy(of), newer(of), installed(of)));
            for (int number = 0; number < versions(of); number++) {
                row.add(ageOf(of, number));
            }
        }
        for (int step = 0; step < steps(); step++) {
            row.addAll(List.of(kindOf(step), packageOf(step)));
        }
        long d = 58044;
        for (int x : row) {
            d = d * 31 + x;
        }
        return d;
    }
}
