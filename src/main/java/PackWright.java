/**
 * A package manager: a registry of packages, a project with wishes, a resolver
 * that locks versions which go together, and the installing of what is locked.
 */
public final class PackWright {
    private static final int MOST_PACKAGES = 12;
    private static final int MOST_VERSIONS = 8;
    private static final int MOST_NEEDS = 5;
    private static final int MOST_CLASHES = 3;
    private static final int MOST_WISHES = 6;
    private static final int MOST_TRIES = 5000;
    private static final int MOST_SIZE = 999;
    private static final int MOST_ROOM = 20000;

    private static final int FEATURES = 4;
    private static final int ALL_FEATURES = (1 << FEATURES) - 1;
    private static final int ALL_PACKAGES = (1 << MOST_PACKAGES) - 1;
    private static final int NO_CONDITION = -1;

    // The three numbers of a version are kept as one, its mark, which has their order.
    private static final int NUMBER_END = 100;
    private static final int MINOR_STEP = NUMBER_END;
    private static final int MAJOR_STEP = NUMBER_END * NUMBER_END;
    private static final int MARKS_END = NUMBER_END * NUMBER_END * NUMBER_END;

    private static final int ALWAYS = 0;
    private static final int EXACTLY = 1;
    private static final int LESS = 3;
    private static final int SAME_MAJOR = 4;
    private static final int SAME_MINOR = 5;

    private static final int OPEN_ALL = 1;
    private static final int OPEN_ONE = 2;
    private static final int OPEN_CHAINS = 3;

    private static final int FOUND = 0;
    private static final int NOTHING_FOUND = -1;
    private static final int TOO_HARD = -2;

    private static final int REMOVE = 0;
    private static final int CHANGE = 1;
    private static final int ADD = 2;

    private static final int NONE = -1;
    private static final long DIGEST_START = 58044L;
    private static final int DIGEST_FACTOR = 31;

    private final Pack[] packs;
    private int packCount;
    private final Wishes wished;
    private final Choice lock;
    private final Choice onDisk;
    private final Resolver resolver;
    private final Chains chains;
    private final Plan planned;
    private final Cache cache;
    private final Cache trialCache;
    private int diskRoom;
    private int latestTries;
    private int fetchCount;

    public PackWright() {
        packs = new Pack[MOST_PACKAGES];
        wished = new Wishes();
        lock = new Choice();
        onDisk = new Choice();
        resolver = new Resolver();
        chains = new Chains();
        planned = new Plan();
        cache = new Cache();
        trialCache = new Cache();
        diskRoom = 5000;
    }

    // ---- the registry

    public int addPackage() throws IllegalStateException {
        if (packCount >= MOST_PACKAGES) {
            throw new IllegalStateException("there are 12 packages");
        }
        packs[packCount] = new Pack();
        packCount++;
        return packCount - 1;
    }

    public int publish(int of, int major, int minor, int patch, int size)
            throws IndexOutOfBoundsException, IllegalArgumentException, IllegalStateException {
        Pack pack = packThatIs(of);
        requireNumbers(major, minor, patch);
        if (size < 1 || size > MOST_SIZE) {
            throw new IllegalArgumentException("a size is 1 to 999");
        }
        int mark = markOf(major, minor, patch);
        if (pack.count >= MOST_VERSIONS || pack.hasMark(mark)) {
            throw new IllegalStateException("the package is full, or has this version");
        }
        return pack.add(mark, size);
    }

    public int need(int of, int needed, int condition, int features, int kind, int major, int minor, int patch)
            throws IndexOutOfBoundsException, IllegalArgumentException, IllegalStateException {
        Pack pack = packThatIs(of);
        requireOther(of, needed);
        if (condition < NO_CONDITION || condition >= FEATURES) {
            throw new IllegalArgumentException("a condition is -1 to 3");
        }
        requireFeatures(features);
        requireRange(kind, major, minor, patch);
        Version latest = pack.latest();
        if (latest == null || latest.needCount >= MOST_NEEDS) {
            throw new IllegalStateException("there is no version, or it has 5 needs");
        }
        Range range = new Range(kind, markOf(major, minor, patch));
        return latest.addNeed(new Claim(needed, condition, features, range));
    }

    public int clash(int of, int other, int kind, int major, int minor, int patch)
            throws IndexOutOfBoundsException, IllegalArgumentException, IllegalStateException {
        Pack pack = packThatIs(of);
        requireOther(of, other);
        requireRange(kind, major, minor, patch);
        Version latest = pack.latest();
        if (latest == null || latest.clashCount >= MOST_CLASHES) {
            throw new IllegalStateException("there is no version, or it has 3 clashes");
        }
        Range range = new Range(kind, markOf(major, minor, patch));
        return latest.addClash(new Claim(other, NO_CONDITION, 0, range));
    }

    public boolean withdraw(int of, int version, boolean isWithdrawn) throws IndexOutOfBoundsException {
        Version told = versionThatIs(of, version);
        boolean was = told.isWithdrawn;
        told.isWithdrawn = isWithdrawn;
        return was;
    }

    public int packages() {
        return packCount;
    }

    public int versions(int of) throws IndexOutOfBoundsException {
        return packThatIs(of).count;
    }

    public int versionAt(int of, int place) throws IndexOutOfBoundsException {
        Version version = packThatIs(of).ranked(place);
        if (version == null) {
            throw new IndexOutOfBoundsException("no such place");
        }
        return version.number;
    }

    public int letIn(int of, int kind, int major, int minor, int patch)
            throws IndexOutOfBoundsException, IllegalArgumentException {
        Pack pack = packThatIs(of);
        requireRange(kind, major, minor, patch);
        return pack.countIn(new Range(kind, markOf(major, minor, patch)));
    }

    // ---- the project

    public int wish(int of, int features, int kind, int major, int minor, int patch)
            throws IndexOutOfBoundsException, IllegalArgumentException, IllegalStateException {
        packThatIs(of);
        requireFeatures(features);
        requireRange(kind, major, minor, patch);
        if (wished.count >= MOST_WISHES) {
            throw new IllegalStateException("there are 6 wishes");
        }
        Range range = new Range(kind, markOf(major, minor, patch));
        wished.add(new Claim(of, NO_CONDITION, features, range));
        return wished.count - 1;
    }

    public int dropWish(int wish) throws IndexOutOfBoundsException {
        if (wish < 0 || wish >= wished.count) {
            throw new IndexOutOfBoundsException("no such wish");
        }
        wished.drop(wish);
        return wished.count;
    }

    public int wishes() {
        return wished.count;
    }

    public int resolve(int open, int of) throws IllegalArgumentException, IndexOutOfBoundsException {
        if (open < 0 || open > OPEN_CHAINS) {
            throw new IllegalArgumentException("open is 0 to 3");
        }
        if (open >= OPEN_ONE) {
            packThatIs(of);
        }
        int outcome = search(wished.all(), opened(open, of));
        latestTries = resolver.tryCount;
        if (outcome != FOUND) {
            return outcome;
        }
        int differences = lock.differencesFrom(resolver.choice);
        lock.become(resolver.choice);
        planned.forget();
        return differences;
    }

    public int tries() {
        return latestTries;
    }

    public int locked(int of) throws IndexOutOfBoundsException {
        packThatIs(of);
        return numberOf(lock.chosen[of]);
    }

    public int lockedPackages() {
        return lock.countIn();
    }

    public int featuresOf(int of) throws IndexOutOfBoundsException {
        packThatIs(of);
        lock.turnOnFeatures(wished);
        return lock.on[of];
    }

    public boolean isSound() {
        lock.turnOnFeatures(wished);
        return lock.meets(wished, true);
    }

    public int idle() {
        layChains();
        int without = 0;
        for (int p = 0; p < MOST_PACKAGES; p++) {
            if (lock.chosen[p] != null && chains.lengths[p] == 0) {
                without++;
            }
        }
        return without;
    }

    public int core() {
        int left = wished.all();
        if (!isHopeless(left)) {
            return 0;
        }
        for (int i = 0; i < wished.count; i++) {
            int fewer = left & ~(1 << i);
            if (isHopeless(fewer)) {
                left = fewer;
            }
        }
        return left;
    }

    public int depth(int of) throws IndexOutOfBoundsException {
        packThatIs(of);
        layChains();
        return chains.lengths[of];
    }

    public int chainAt(int of, int place) throws IndexOutOfBoundsException, IllegalArgumentException {
        packThatIs(of);
        if (place < 0) {
            throw new IllegalArgumentException("a place is 0 or more");
        }
        layChains();
        return chains.linkAt(of, place);
    }

    public int neededBy(int of) throws IndexOutOfBoundsException {
        packThatIs(of);
        lock.turnOnFeatures(wished);
        int needing = 0;
        for (int p = 0; p < MOST_PACKAGES; p++) {
            if (isIn(lock.neededFrom(p), of)) {
                needing++;
            }
        }
        return needing;
    }

    public int newer(int of) throws IndexOutOfBoundsException {
        Version greatest = packThatIs(of).greatestOffered();
        Version old = lock.chosen[of];
        if (old == null || greatest == null || greatest.mark <= old.mark) {
            return NONE;
        }
        return greatest.number;
    }

    public int wouldChange(int of) throws IndexOutOfBoundsException {
        packThatIs(of);
        int outcome = search(wished.all(), opened(OPEN_ONE, of));
        return outcome == FOUND ? lock.differencesFrom(resolver.choice) : outcome;
    }

    // ---- installing

    public int setDisk(int room) throws IllegalArgumentException {
        requireRoom(room);
        int before = diskRoom;
        diskRoom = room;
        return before;
    }

    public int setCache(int room) throws IllegalArgumentException {
        requireRoom(room);
        int before = cache.room;
        cache.room = room;
        cache.letOldestGo();
        return before;
    }

    public int plan() {
        lock.turnOnFeatures(wished);
        onDisk.turnOnFeatures(wished);
        planned.lead(onDisk, lock);
        return planned.count;
    }

    public int steps() {
        return planned.count;
    }

    public int kindOf(int step) throws IndexOutOfBoundsException {
        requireStep(step);
        return planned.kinds[step];
    }

    public int packageOf(int step) throws IndexOutOfBoundsException {
        requireStep(step);
        return planned.packs[step];
    }

    public int run(int most) throws IllegalArgumentException, IllegalStateException {
        if (most < 0) {
            throw new IllegalArgumentException("most is 0 or more");
        }
        requirePlan();
        int left = Math.min(most, planned.count - planned.done);
        while (left > 0 && doNextStep()) {
            left--;
        }
        return planned.done;
    }

    public int rollBack() throws IllegalStateException {
        requirePlan();
        int undone = planned.done;
        planned.undo(onDisk);
        planned.forget();
        return undone;
    }

    public int installed(int of) throws IndexOutOfBoundsException {
        packThatIs(of);
        return numberOf(onDisk.chosen[of]);
    }

    public int taken() {
        return onDisk.sizes();
    }

    public int cached() {
        return cache.used;
    }

    public int ageOf(int of, int version) throws IndexOutOfBoundsException {
        return cache.placeOf(versionThatIs(of, version));
    }

    public int fetched() {
        return fetchCount;
    }

    public int wouldFetch() {
        trialCache.become(cache);
        int sizes = 0;
        for (int step = planned.done; step < planned.count; step++) {
            Version wanted = lock.chosen[planned.packs[step]];
            if (wanted != null && trialCache.mustFetch(wanted)) {
                sizes += wanted.size;
            }
        }
        return sizes;
    }

    public int roomNeeded() {
        int now = onDisk.sizes();
        int greatest = now;
        for (int step = planned.done; step < planned.count; step++) {
            int p = planned.packs[step];
            now += sizeOf(lock.chosen[p]) - sizeOf(onDisk.chosen[p]);
            greatest = Math.max(greatest, now);
        }
        return greatest;
    }

    public boolean isInstalled() {
        return lock.differencesFrom(onDisk) == 0;
    }

    public double meanSize() {
        int sizes = 0;
        int count = 0;
        for (int p = 0; p < packCount; p++) {
            sizes += packs[p].sizes();
            count += packs[p].count;
        }
        return count == 0 ? 0.0 : (double) sizes / count;
    }

    public long digest() {
        long d = DIGEST_START;
        d = mix(d, packages());
        d = mix(d, wishes());
        d = mix(d, tries());
        d = mix(d, lockedPackages());
        d = mix(d, isSound() ? 1 : 0);
        d = mix(d, idle());
        d = mix(d, steps());
        d = mix(d, taken());
        d = mix(d, cached());
        d = mix(d, fetched());
        d = mix(d, wouldFetch());
        d = mix(d, roomNeeded());
        d = mix(d, isInstalled() ? 1 : 0);
        for (int p = 0; p < packCount; p++) {
            d = mixPackage(d, p);
        }
        for (int step = 0; step < planned.count; step++) {
            d = mix(d, kindOf(step));
            d = mix(d, packageOf(step));
        }
        return d;
    }

    private static long mix(long d, int x) {
        return d * DIGEST_FACTOR + x;
    }

    private long mixPackage(long start, int of) {
        int count = versions(of);
        long d = mix(start, count);
        for (int place = 0; place < count; place++) {
            d = mix(d, versionAt(of, place));
        }
        d = mix(d, locked(of));
        d = mix(d, featuresOf(of));
        int length = depth(of);
        d = mix(d, length);
        for (int place = 0; place < length; place++) {
            d = mix(d, chains.linkAt(of, place));
        }
        d = mix(d, neededBy(of));
        d = mix(d, newer(of));
        d = mix(d, installed(of));
        for (int version = 0; version < count; version++) {
            d = mix(d, ageOf(of, version));
        }
        return d;
    }

    private Pack packThatIs(int of) {
        if (of < 0 || of >= packCount) {
            throw new IndexOutOfBoundsException("no such package");
        }
        return packs[of];
    }

    private Version versionThatIs(int of, int version) {
        Pack pack = packThatIs(of);
        if (version < 0 || version >= pack.count) {
            throw new IndexOutOfBoundsException("no such version");
        }
        return pack.versions[version];
    }

    private void requireOther(int of, int other) {
        packThatIs(other);
        if (of == other) {
            throw new IllegalArgumentException("the other package is the same one");
        }
    }

    private static void requireNumbers(int major, int minor, int patch) {
        if (!isNumber(major) || !isNumber(minor) || !isNumber(patch)) {
            throw new IllegalArgumentException("a number is 0 to 99");
        }
    }

    private static boolean isNumber(int number) {
        return number >= 0 && number < NUMBER_END;
    }

    private static void requireRange(int kind, int major, int minor, int patch) {
        if (kind < ALWAYS || kind > SAME_MINOR) {
            throw new IllegalArgumentException("a kind is 0 to 5");
        }
        requireNumbers(major, minor, patch);
    }

    private static void requireFeatures(int features) {
        if (features < 0 || features > ALL_FEATURES) {
            throw new IllegalArgumentException("features are 0 to 15");
        }
    }

    private static void requireRoom(int room) {
        if (room < 0 || room > MOST_ROOM) {
            throw new IllegalArgumentException("a room is 0 to 20000");
        }
    }

    private void requireStep(int step) {
        if (step < 0 || step >= planned.count) {
            throw new IndexOutOfBoundsException("no such step");
        }
    }

    private void requirePlan() {
        if (!planned.isThere) {
            throw new IllegalStateException("there is no plan");
        }
    }

    private int opened(int open, int of) {
        if (open == OPEN_ALL) {
            return ALL_PACKAGES;
        }
        if (open == OPEN_ONE) {
            return 1 << of;
        }
        if (open == OPEN_CHAINS) {
            lock.turnOnFeatures(wished);
            return lock.reachedFrom(of);
        }
        return 0;
    }

    /** Without a LOCK is the same as with all packages OPEN: nothing is HELD. */
    private boolean isHopeless(int wishSet) {
        return search(wishSet, ALL_PACKAGES) == NOTHING_FOUND;
    }

    private int search(int wishSet, int open) {
        resolver.begin(wished, wishSet);
        for (int p = 0; p < packCount; p++) {
            resolver.listCandidates(p, packs[p], isIn(open, p) ? null : lock.chosen[p]);
        }
        return resolver.search();
    }

    private void layChains() {
        lock.turnOnFeatures(wished);
        chains.lay(lock, wished);
    }

    private boolean doNextStep() {
        if (planned.done >= planned.count) {
            return false;
        }
        int p = planned.packs[planned.done];
        Version wanted = lock.chosen[p];
        if (wanted != null) {
            int behind = onDisk.sizes() - sizeOf(onDisk.chosen[p]) + wanted.size;
            if (behind > diskRoom) {
                return false;
            }
            if (cache.mustFetch(wanted)) {
                fetchCount++;
            }
        }
        onDisk.chosen[p] = wanted;
        planned.done++;
        return true;
    }

    private static int markOf(int major, int minor, int patch) {
        return major * MAJOR_STEP + minor * MINOR_STEP + patch;
    }

    private static int numberOf(Version version) {
        return version == null ? NONE : version.number;
    }

    private static int sizeOf(Version version) {
        return version == null ? 0 : version.size;
    }

    private static boolean isIn(int set, int p) {
        return (set >> p & 1) != 0;
    }

    private static int smallestOf(int set) {
        for (int p = 0; p < MOST_PACKAGES; p++) {
            if (isIn(set, p)) {
                return p;
            }
        }
        return NONE;
    }

    /** The marks that a range lets in stand side by side, whatever its kind. */
    private static final class Range {
        private final int first;
        private final int end;

        Range(int kind, int mark) {
            first = kind == ALWAYS || kind == LESS ? 0 : mark;
            end = endOf(kind, mark);
        }

        private static int endOf(int kind, int mark) {
            int endOfMinor = (mark / MINOR_STEP + 1) * MINOR_STEP;
            switch (kind) {
                case EXACTLY:
                    return mark + 1;
                case LESS:
                    return mark;
                case SAME_MAJOR:
                    return mark < MAJOR_STEP ? endOfMinor : (mark / MAJOR_STEP + 1) * MAJOR_STEP;
                case SAME_MINOR:
                    return endOfMinor;
                default:
                    return MARKS_END;
            }
        }

        boolean admits(Version version) {
            return version.mark >= first && version.mark < end;
        }
    }

    /** What a NEED, a CLASH or a WISH says of a package; those of a version make a chain. */
    private static final class Claim {
        final int target;
        final int condition;
        final int features;
        final Range range;
        Claim next;

        Claim(int target, int condition, int features, Range range) {
            this.target = target;
            this.condition = condition;
            this.features = features;
            this.range = range;
        }

        boolean countsWith(int featuresOn) {
            return condition < 0 || (featuresOn >> condition & 1) != 0;
        }
    }

    private static final class Version {
        final int number;
        final int mark;
        final int size;
        boolean isWithdrawn;
        Claim firstNeed;
        int needCount;
        Claim firstClash;
        int clashCount;

        Version(int number, int mark, int size) {
            this.number = number;
            this.mark = mark;
            this.size = size;
        }

        int addNeed(Claim need) {
            firstNeed = joined(firstNeed, need);
            needCount++;
            return needCount - 1;
        }

        int addClash(Claim clash) {
            firstClash = joined(firstClash, clash);
            clashCount++;
            return clashCount - 1;
        }

        /** The chain with the claim at its end: they are asked in the order in which they were added. */
        private static Claim joined(Claim first, Claim added) {
            if (first == null) {
                return added;
            }
            Claim last = first;
            while (last.next != null) {
                last = last.next;
            }
            last.next = added;
            return first;
        }
    }

    private static final class Pack {
        final Version[] versions = new Version[MOST_VERSIONS];
        private final Version[] greatestFirst = new Version[MOST_VERSIONS];
        int count;

        boolean hasMark(int mark) {
            for (int i = 0; i < count; i++) {
                if (versions[i].mark == mark) {
                    return true;
                }
            }
            return false;
        }

        int add(int mark, int size) {
            Version added = new Version(count, mark, size);
            int place = count;
            while (place > 0 && greatestFirst[place - 1].mark < mark) {
                greatestFirst[place] = greatestFirst[place - 1];
                place--;
            }
            greatestFirst[place] = added;
            versions[count] = added;
            count++;
            return added.number;
        }

        Version latest() {
            return count == 0 ? null : versions[count - 1];
        }

        Version ranked(int place) {
            return place < 0 || place >= count ? null : greatestFirst[place];
        }

        Version greatestOffered() {
            for (int i = 0; i < count; i++) {
                if (!greatestFirst[i].isWithdrawn) {
                    return greatestFirst[i];
                }
            }
            return null;
        }

        int countIn(Range range) {
            int in = 0;
            for (int i = 0; i < count; i++) {
                if (range.admits(versions[i])) {
                    in++;
                }
            }
            return in;
        }

        int sizes() {
            int sum = 0;
            for (int i = 0; i < count; i++) {
                sum += versions[i].size;
            }
            return sum;
        }
    }

    private static final class Wishes {
        final Claim[] row = new Claim[MOST_WISHES];
        int count;

        void add(Claim wish) {
            if (count < MOST_WISHES) {
                row[count] = wish;
                count++;
            }
        }

        void drop(int number) {
            for (int i = number + 1; i < count; i++) {
                row[i - 1] = row[i];
            }
            count--;
        }

        int all() {
            return (1 << count) - 1;
        }

        void take(Wishes others, int set) {
            count = 0;
            for (int i = 0; i < others.count; i++) {
                if (isIn(set, i)) {
                    add(others.row[i]);
                }
            }
        }
    }

    /** A version, or null, for each package; and the features that are ON by that. */
    private static final class Choice {
        final Version[] chosen = new Version[MOST_PACKAGES];
        final int[] on = new int[MOST_PACKAGES];

        void clear() {
            for (int p = 0; p < MOST_PACKAGES; p++) {
                chosen[p] = null;
            }
        }

        void become(Choice other) {
            for (int p = 0; p < MOST_PACKAGES; p++) {
                chosen[p] = other.chosen[p];
            }
        }

        int differencesFrom(Choice other) {
            int differences = 0;
            for (int p = 0; p < MOST_PACKAGES; p++) {
                if (chosen[p] != other.chosen[p]) {
                    differences++;
                }
            }
            return differences;
        }

        int countIn() {
            int in = 0;
            for (int p = 0; p < MOST_PACKAGES; p++) {
                if (chosen[p] != null) {
                    in++;
                }
            }
            return in;
        }

        int sizes() {
            int sum = 0;
            for (int p = 0; p < MOST_PACKAGES; p++) {
                sum += sizeOf(chosen[p]);
            }
            return sum;
        }

        /** Begins with the WISHES and only adds, so that a ring alone turns nothing on. */
        void turnOnFeatures(Wishes wishes) {
            for (int p = 0; p < MOST_PACKAGES; p++) {
                on[p] = 0;
            }
            for (int i = 0; i < wishes.count; i++) {
                turnOn(wishes.row[i]);
            }
            boolean grew = true;
            // Each round but the last turns on at least one feature of a package.
            for (int round = 0; grew && round <= MOST_PACKAGES * FEATURES; round++) {
                grew = turnOnByNeeds();
            }
        }

        private boolean turnOnByNeeds() {
            boolean grew = false;
            for (int p = 0; p < MOST_PACKAGES; p++) {
                Claim need = chosen[p] == null ? null : chosen[p].firstNeed;
                for (; need != null; need = need.next) {
                    if (need.countsWith(on[p]) && turnOn(need)) {
                        grew = true;
                    }
                }
            }
            return grew;
        }

        private boolean turnOn(Claim claim) {
            int before = on[claim.target];
            if (chosen[claim.target] != null) {
                on[claim.target] = before | claim.features;
            }
            return on[claim.target] != before;
        }

        /** Whether this goes together; if it is to be whole, also whether nothing asked for is missing. */
        boolean meets(Wishes wishes, boolean isWhole) {
            for (int i = 0; i < wishes.count; i++) {
                if (!grants(wishes.row[i], isWhole)) {
                    return false;
                }
            }
            for (int p = 0; p < MOST_PACKAGES; p++) {
                Version version = chosen[p];
                if (version != null && !(grantsNeeds(version, on[p], isWhole) && isFreeOfClashes(version))) {
                    return false;
                }
            }
            return true;
        }

        private boolean grants(Claim claim, boolean isWhole) {
            Version version = chosen[claim.target];
            return version == null ? !isWhole : claim.range.admits(version);
        }

        private boolean grantsNeeds(Version version, int featuresOn, boolean isWhole) {
            for (Claim need = version.firstNeed; need != null; need = need.next) {
                if (need.countsWith(featuresOn) && !grants(need, isWhole)) {
                    return false;
                }
            }
            return true;
        }

        private boolean isFreeOfClashes(Version version) {
            for (Claim clash = version.firstClash; clash != null; clash = clash.next) {
                Version other = chosen[clash.target];
                if (other != null && clash.range.admits(other)) {
                    return false;
                }
            }
            return true;
        }

        /** The set of the packages for which a package has NEEDS that COUNT. */
        int neededFrom(int p) {
            int set = 0;
            Claim need = chosen[p] == null ? null : chosen[p].firstNeed;
            for (; need != null; need = need.next) {
                if (need.countsWith(on[p])) {
                    set |= 1 << need.target;
                }
            }
            return set;
        }

        int neededFromAny(int set) {
            int needed = 0;
            for (int p = 0; p < MOST_PACKAGES; p++) {
                if (isIn(set, p)) {
                    needed |= neededFrom(p);
                }
            }
            return needed;
        }

        int reachedFrom(int p) {
            int set = 1 << p;
            for (int links = 1; links < MOST_PACKAGES; links++) {
                set |= neededFromAny(set);
            }
            return set;
        }
    }

    private static final class Resolver {
        // Each try opens at most one level and each level is closed once, so twice the tries is enough.
        private static final int MOST_MOVES = 2 * (MOST_TRIES + 2);

        private final Wishes asked = new Wishes();
        final Choice choice = new Choice();
        int tryCount;

        private final Version[] candidates = new Version[MOST_PACKAGES * MOST_VERSIONS];
        private final int[] candidateCounts = new int[MOST_PACKAGES];
        private final int[] triedCounts = new int[MOST_PACKAGES];
        private final int[] row = new int[MOST_PACKAGES];
        private int rowLength;
        private int rowSet;
        private final int[] levels = new int[MOST_PACKAGES];
        private int levelCount;

        void begin(Wishes wishes, int wishSet) {
            asked.take(wishes, wishSet);
            choice.clear();
            tryCount = 0;
            levelCount = 0;
        }

        void listCandidates(int p, Pack pack, Version held) {
            candidateCounts[p] = 0;
            if (held != null) {
                addCandidate(p, held);
            }
            for (int place = 0; place < pack.count; place++) {
                Version version = pack.ranked(place);
                if (version != null && version != held && !version.isWithdrawn) {
                    addCandidate(p, version);
                }
            }
        }

        /** Tells FOUND, with the choice in the field of that name, or NOTHING_FOUND, or TOO_HARD. */
        int search() {
            if (!openLevel()) {
                return FOUND;
            }
            for (int move = 0; move < MOST_MOVES && levelCount > 0; move++) {
                int p = levels[levelCount - 1];
                choice.chosen[p] = nextCandidate(p);
                if (choice.chosen[p] == null) {
                    levelCount--;
                    continue;
                }
                tryCount++;
                if (tryCount > MOST_TRIES) {
                    return TOO_HARD;
                }
                choice.turnOnFeatures(asked);
                if (choice.meets(asked, false) && !openLevel()) {
                    return FOUND;
                }
            }
            return NOTHING_FOUND;
        }

        private void addCandidate(int p, Version version) {
            if (candidateCounts[p] < MOST_VERSIONS) {
                candidates[p * MOST_VERSIONS + candidateCounts[p]] = version;
                candidateCounts[p]++;
            }
        }

        private Version nextCandidate(int p) {
            if (triedCounts[p] >= candidateCounts[p]) {
                return null;
            }
            triedCounts[p]++;
            return candidates[p * MOST_VERSIONS + triedCounts[p] - 1];
        }

        /** Goes on with the first package ASKED for without a version; false if all have one. */
        private boolean openLevel() {
            int p = firstWithoutVersion();
            if (p == NONE || levelCount >= MOST_PACKAGES) {
                return false;
            }
            triedCounts[p] = 0;
            levels[levelCount] = p;
            levelCount++;
            return true;
        }

        /** Makes the row only up to that package: what would come behind it does not matter. */
        private int firstWithoutVersion() {
            rowLength = 0;
            rowSet = 0;
            for (int i = 0; i < asked.count; i++) {
                addToRow(asked.row[i].target);
            }
            for (int i = 0; i < MOST_PACKAGES && i < rowLength; i++) {
                int p = row[i];
                Version version = choice.chosen[p];
                if (version == null) {
                    return p;
                }
                for (Claim need = version.firstNeed; need != null; need = need.next) {
                    if (need.countsWith(choice.on[p])) {
                        addToRow(need.target);
                    }
                }
            }
            return NONE;
        }

        private void addToRow(int p) {
            if (!isIn(rowSet, p) && rowLength < MOST_PACKAGES) {
                row[rowLength] = p;
                rowLength++;
                rowSet |= 1 << p;
            }
        }
    }

    /** The chain that is told for each package, as its length and the package ahead in it. */
    private static final class Chains {
        final int[] lengths = new int[MOST_PACKAGES];
        private final int[] ahead = new int[MOST_PACKAGES];
        private final int[] queue = new int[MOST_PACKAGES];
        private int queued;

        /** By rising numbers at each length, so that the first chain to a package is the one to tell. */
        void lay(Choice lock, Wishes wishes) {
            queued = 0;
            for (int p = 0; p < MOST_PACKAGES; p++) {
                lengths[p] = 0;
            }
            int wishedSet = 0;
            for (int i = 0; i < wishes.count; i++) {
                wishedSet |= 1 << wishes.row[i].target;
            }
            link(lock, wishedSet, NONE, 1);
            for (int i = 0; i < MOST_PACKAGES && i < queued; i++) {
                int p = queue[i];
                link(lock, lock.neededFrom(p), p, lengths[p] + 1);
            }
        }

        private void link(Choice lock, int set, int from, int length) {
            for (int p = 0; p < MOST_PACKAGES; p++) {
                if (isIn(set, p) && lock.chosen[p] != null && lengths[p] == 0 && queued < MOST_PACKAGES) {
                    lengths[p] = length;
                    ahead[p] = from;
                    queue[queued] = p;
                    queued++;
                }
            }
        }

        int linkAt(int of, int place) {
            if (place >= lengths[of]) {
                return NONE;
            }
            int p = of;
            for (int back = lengths[of] - 1; back > place && p != NONE; back--) {
                p = ahead[p];
            }
            return p;
        }
    }

    private static final class Plan {
        boolean isThere;
        int count;
        int done;
        final int[] kinds = new int[MOST_PACKAGES];
        final int[] packs = new int[MOST_PACKAGES];
        private final Version[] before = new Version[MOST_PACKAGES];

        void forget() {
            isThere = false;
            count = 0;
            done = 0;
        }

        void lead(Choice from, Choice to) {
            forget();
            isThere = true;
            int toRemove = 0;
            int toPut = 0;
            for (int p = 0; p < MOST_PACKAGES; p++) {
                if (from.chosen[p] != to.chosen[p] && to.chosen[p] == null) {
                    toRemove |= 1 << p;
                } else if (from.chosen[p] != to.chosen[p]) {
                    toPut |= 1 << p;
                }
            }
            removeAll(from, toRemove);
            putAll(from, to, toPut);
        }

        private void removeAll(Choice from, int toRemove) {
            int left = toRemove;
            for (int turn = 0; turn < MOST_PACKAGES && left != 0; turn++) {
                int free = left & ~from.neededFromAny(left);
                int p = smallestOf(free != 0 ? free : left);
                addStep(REMOVE, p, from);
                left &= ~(1 << p);
            }
        }

        private void putAll(Choice from, Choice to, int toPut) {
            int left = toPut;
            for (int turn = 0; turn < MOST_PACKAGES && left != 0; turn++) {
                int free = needingNoneOf(left, to);
                int p = smallestOf(free != 0 ? free : left);
                addStep(p >= 0 && from.chosen[p] == null ? ADD : CHANGE, p, from);
                left &= ~(1 << p);
            }
        }

        private static int needingNoneOf(int left, Choice to) {
            int free = 0;
            for (int p = 0; p < MOST_PACKAGES; p++) {
                if (isIn(left, p) && (to.neededFrom(p) & left) == 0) {
                    free |= 1 << p;
                }
            }
            return free;
        }

        private void addStep(int kind, int p, Choice from) {
            if (p >= 0 && count < MOST_PACKAGES) {
                kinds[count] = kind;
                packs[count] = p;
                before[count] = from.chosen[p];
                count++;
            }
        }

        void undo(Choice onDisk) {
            for (int step = done - 1; step >= 0; step--) {
                onDisk.chosen[packs[step]] = before[step];
            }
        }
    }

    /** The versions in it, the newest first. */
    private static final class Cache {
        private final Version[] held = new Version[MOST_PACKAGES * MOST_VERSIONS];
        private int count;
        int used;
        int room = 2000;

        void become(Cache other) {
            for (int i = 0; i < other.count; i++) {
                held[i] = other.held[i];
            }
            count = other.count;
            used = other.used;
            room = other.room;
        }

        int placeOf(Version version) {
            for (int i = 0; i < count; i++) {
                if (held[i] == version) {
                    return i;
                }
            }
            return NONE;
        }

        /** Has a version used: it is the newest then, if it was here or comes here. */
        boolean mustFetch(Version version) {
            int place = placeOf(version);
            if (place != NONE) {
                putFirst(version, place);
                return false;
            }
            if (version.size <= room && count < held.length) {
                count++;
                used += version.size;
                putFirst(version, count - 1);
                letOldestGo();
            }
            return true;
        }

        private void putFirst(Version version, int fromPlace) {
            for (int i = fromPlace; i > 0; i--) {
                held[i] = held[i - 1];
            }
            held[0] = version;
        }

        void letOldestGo() {
            while (used > room && count > 0) {
                count--;
                used -= held[count].size;
            }
        }
    }
}
