import java.util.Random;
import java.util.function.Supplier;

/**
 * Runs of random calls, each answered by PackWright and by NaiveWright: both must tell
 * the same, exceptions as well. The seeds are fixed, so each run is the same every time.
 */
public final class RandomRuns {
    private static final int RUNS = 3000;
    /** What an object answers to a later call is free. */
    private static final int CALLS = 512;
    /** No turn of a run makes more calls than that. */
    private static final int CALLS_OF_A_TURN = 8;

    private static int wrong = 0;
    private static int compared = 0;
    private static int found = 0;
    private static int nothing = 0;
    private static int tooHard = 0;
    private static int backtracked = 0;
    private static int cores = 0;
    private static int stopped = 0;
    private static int rolledBack = 0;
    private static int partlyIn = 0;
    private static int unsound = 0;
    private static int idleSeen = 0;
    private static int conditionsOn = 0;

    private final int seed;
    private final Random random;
    private final PackWright real = new PackWright();
    private final NaiveWright naive = new NaiveWright();
    private final StringBuilder calls = new StringBuilder();
    private int made = 0;
    // How a run is made: how many packages, how wide its ranges, how many needs and clashes.
    private final int packs;
    private final int spread;
    private final int needs;
    private final int clashes;
    private final int wrongArguments;
    private final boolean isHard;

    private RandomRuns(int seed) {
        this.seed = seed;
        random = new Random(seed);
        isHard = seed % 8 == 0;
        packs = isHard ? 8 + random.nextInt(5) : 2 + random.nextInt(11);
        spread = isHard ? 4 : 1 + random.nextInt(4);
        needs = isHard ? random.nextInt(2) : random.nextInt(4);
        clashes = isHard ? random.nextInt(2) : random.nextInt(3);
        wrongArguments = random.nextInt(3) == 0 ? 12 : 400;
    }

    public static void main(String[] args) {
        for (int seed = 1; seed <= RUNS && wrong == 0; seed++) {
            new RandomRuns(seed).runCalls();
        }
        System.out.println(compared + " answers compared; found " + found + ", nothing " + nothing + ", too hard "
                + tooHard + ", with steps back " + backtracked + ", cores " + cores + ", stopped " + stopped
                + ", rolled back " + rolledBack + ", partly in the cache " + partlyIn + ", unsound " + unsound
                + ", idle " + idleSeen + ", conditions on " + conditionsOn);
        int least = Math.min(Math.min(Math.min(found, nothing), Math.min(tooHard, backtracked)),
                Math.min(Math.min(cores, stopped), Math.min(rolledBack, partlyIn)));
        least = Math.min(least, Math.min(unsound, Math.min(idleSeen, conditionsOn)));
        if (wrong == 0 && least < 20) {
            System.out.println("the runs leave something nearly untouched");
            System.exit(1);
        }
        System.out.println(wrong == 0 ? "all answers are as due" : wrong + " answers are not as due");
        if (wrong != 0) {
            System.exit(1);
        }
    }

    private void runCalls() {
        fillRegistry();
        while (made + CALLS_OF_A_TURN <= CALLS && wrong == 0) {
            anyCall();
            if (random.nextInt(6) == 0) {
                same("digest()", () -> real.digest(), () -> naive.digest());
            }
        }
        same("digest()", () -> real.digest(), () -> naive.digest());
    }

    /** Most runs begin with a registry that is worth resolving in. */
    private void fillRegistry() {
        for (int p = 0; p < packs; p++) {
            addPackage();
        }
        for (int p = 0; p < packs; p++) {
            int versions = random.nextInt(16) == 0 ? 0 : isHard ? 6 + random.nextInt(3) : 1 + random.nextInt(spread * 2);
            for (int v = 0; v < versions; v++) {
                publish(p);
                for (int n = random.nextInt(needs + 1); n > 0; n--) {
                    need(p);
                }
                for (int c = random.nextInt(clashes + 1) * random.nextInt(2); c > 0; c--) {
                    clash(p);
                }
            }
        }
        if (isHard) {
            wishTooMuch();
        } else {
            wishSome();
        }
    }

    private void wishSome() {
        for (int w = random.nextInt(4); w > 0; w--) {
            wish();
        }
    }

    /** Lets nothing in at last, but that is seen only behind all that is wished for ahead of it. */
    private void wishTooMuch() {
        int free = 3 + random.nextInt(3);
        for (int of = 0; of < free; of++) {
            int wished = of;
            same("wish(" + of + ", 0, 0, 0, 0, 0)",
                    () -> real.wish(wished, 0, 0, 0, 0, 0), () -> naive.wish(wished, 0, 0, 0, 0, 0));
        }
        hopelessWish();
    }

    private void anyCall() {
        switch (random.nextInt(34)) {
            case 0 -> addPackage();
            case 1 -> publish(pack());
            case 2 -> need(pack());
            case 3 -> clash(pack());
            case 4, 5 -> withdraw();
            case 6, 7 -> wish();
            case 8 -> wishOrHopeless();
            case 9, 10, 11, 12 -> resolve();
            case 13 -> core();
            case 14 -> wouldChange();
            case 15, 16, 17 -> plan();
            case 18, 19, 20, 21 -> run();
            case 22 -> rollBack();
            case 23 -> setDisk();
            case 24 -> setCache();
            case 25 -> askRegistry();
            case 26, 27 -> askLock();
            case 28, 29 -> askWhy();
            case 30, 31 -> askPlan();
            case 32 -> askDisk();
            default -> askWhole();
        }
    }

    private int pack() {
        return some(naive.packages());
    }

    /** Mostly 0 to end - 1, now and then just outside it, or far. */
    private int some(int end) {
        if (end <= 0 || random.nextInt(wrongArguments) == 0) {
            return new int[] {-1, end, Integer.MIN_VALUE, Integer.MAX_VALUE}[random.nextInt(4)];
        }
        return random.nextInt(end);
    }

    private int number() {
        if (random.nextInt(wrongArguments * 4) == 0) {
            return new int[] {-1, 100, Integer.MIN_VALUE, Integer.MAX_VALUE}[random.nextInt(4)];
        }
        return random.nextInt(spread + 1);
    }

    /** A range as four numbers, mostly one that has to do with a version of the package. */
    private int[] range(int of) {
        int kind = random.nextInt(3) == 0 ? 0 : some(6);
        int versions = of >= 0 && of < naive.packages() ? naive.versions(of) : 0;
        if (versions == 0 || random.nextInt(6) == 0) {
            return new int[] {kind, number(), number(), number()};
        }
        int[] numbers = naive.version(of, random.nextInt(versions)).numbers;
        return new int[] {kind, numbers[0], numbers[1], random.nextInt(4) == 0 ? number() : numbers[2]};
    }

    private static String told(int[] range) {
        return range[0] + ", " + range[1] + ", " + range[2] + ", " + range[3] + ")";
    }

    private int features() {
        return random.nextInt(3) == 0 ? 0 : some(16);
    }

    private void addPackage() {
        same("addPackage()", () -> real.addPackage(), () -> naive.addPackage());
    }

    private void publish(int of) {
        int major = number();
        int minor = number();
        int patch = number();
        int size = random.nextInt(wrongArguments) == 0 ? random.nextInt(2) * 1000 : 1 + random.nextInt(999);
        same("publish(" + of + ", " + major + ", " + minor + ", " + patch + ", " + size + ")",
                () -> real.publish(of, major, minor, patch, size),
                () -> naive.publish(of, major, minor, patch, size));
    }

    private void need(int of) {
        int needed = pack();
        int condition = random.nextInt(2) == 0 ? -1 : some(4);
        int features = features();
        int[] r = range(needed);
        same("need(" + of + ", " + needed + ", " + condition + ", " + features + ", " + told(r),
                () -> real.need(of, needed, condition, features, r[0], r[1], r[2], r[3]),
                () -> naive.need(of, needed, condition, features, r[0], r[1], r[2], r[3]));
    }

    private void clash(int of) {
        int other = pack();
        int[] r = range(other);
        if (r[0] == 0) {
            r[0] = random.nextInt(4);
        }
        same("clash(" + of + ", " + other + ", " + told(r),
                () -> real.clash(of, other, r[0], r[1], r[2], r[3]),
                () -> naive.clash(of, other, r[0], r[1], r[2], r[3]));
    }

    private void withdraw() {
        int of = pack();
        int version = version(of);
        boolean is = random.nextInt(3) == 0;
        same("withdraw(" + of + ", " + version + ", " + is + ")",
                () -> real.withdraw(of, version, is), () -> naive.withdraw(of, version, is));
    }

    private int version(int of) {
        return some(of >= 0 && of < naive.packages() ? naive.versions(of) : 0);
    }

    private void wish() {
        int of = pack();
        int features = features();
        int[] r = range(of);
        same("wish(" + of + ", " + features + ", " + told(r),
                () -> real.wish(of, features, r[0], r[1], r[2], r[3]),
                () -> naive.wish(of, features, r[0], r[1], r[2], r[3]));
    }

    private void wishOrHopeless() {
        if (isHard) {
            hopelessWish();
        } else {
            wish();
        }
    }

    private void hopelessWish() {
        int of = packs - 1;
        same("wish(" + of + ", 0, 3, 0, 0, 0)",
                () -> real.wish(of, 0, 3, 0, 0, 0), () -> naive.wish(of, 0, 3, 0, 0, 0));
    }

    private void dropWish() {
        int wish = some(naive.wishes());
        same("dropWish(" + wish + ")", () -> real.dropWish(wish), () -> naive.dropWish(wish));
    }

    private void resolve() {
        int open = some(4);
        int of = pack();
        Object got = same("resolve(" + open + ", " + of + ")", () -> real.resolve(open, of), () -> naive.resolve(open, of));
        same("tries()", () -> real.tries(), () -> naive.tries());
        found += got instanceof Integer n && n > 0 ? 1 : 0;
        nothing += Integer.valueOf(-1).equals(got) ? 1 : 0;
        tooHard += Integer.valueOf(-2).equals(got) ? 1 : 0;
        if (!(got instanceof Integer n) || n < 0 && random.nextInt(isHard ? 4 : 1) == 0) {
            dropWish();
        }
        backtracked += got instanceof Integer n && n > 0 && naive.tries() > naive.lockedPackages() ? 1 : 0;
    }

    private void core() {
        Object got = same("core()", () -> real.core(), () -> naive.core());
        cores += Integer.valueOf(0).equals(got) ? 0 : 1;
    }

    private void wouldChange() {
        int of = pack();
        same("wouldChange(" + of + ")", () -> real.wouldChange(of), () -> naive.wouldChange(of));
        same("tries()", () -> real.tries(), () -> naive.tries());
    }

    private void plan() {
        same("plan()", () -> real.plan(), () -> naive.plan());
        int fetching = naive.wouldFetch();
        partlyIn += fetching > 0 && naive.cached() > 0 && naive.steps() > 1 ? 1 : 0;
    }

    private void run() {
        int most = random.nextInt(4) == 0 ? some(4) : random.nextInt(13);
        Object got = same("run(" + most + ")", () -> real.run(most), () -> naive.run(most));
        stopped += got instanceof Integer n && n < Math.min(most, naive.steps()) ? 1 : 0;
    }

    private void rollBack() {
        Object got = same("rollBack()", () -> real.rollBack(), () -> naive.rollBack());
        rolledBack += got instanceof Integer n && n > 0 ? 1 : 0;
    }

    private void setDisk() {
        int room = random.nextInt(8) == 0 ? random.nextInt(2) * 20002 - 1 : random.nextInt(7) * 800;
        same("setDisk(" + room + ")", () -> real.setDisk(room), () -> naive.setDisk(room));
    }

    private void setCache() {
        int room = random.nextInt(8) == 0 ? random.nextInt(2) * 20002 - 1 : random.nextInt(7) * 500;
        same("setCache(" + room + ")", () -> real.setCache(room), () -> naive.setCache(room));
    }

    private void askRegistry() {
        int of = pack();
        int place = version(of);
        int[] r = range(of);
        same("packages()", () -> real.packages(), () -> naive.packages());
        same("versions(" + of + ")", () -> real.versions(of), () -> naive.versions(of));
        same("versionAt(" + of + ", " + place + ")", () -> real.versionAt(of, place), () -> naive.versionAt(of, place));
        same("letIn(" + of + ", " + told(r),
                () -> real.letIn(of, r[0], r[1], r[2], r[3]), () -> naive.letIn(of, r[0], r[1], r[2], r[3]));
        same("meanSize()", () -> real.meanSize(), () -> naive.meanSize());
    }

    private void askLock() {
        int of = pack();
        same("wishes()", () -> real.wishes(), () -> naive.wishes());
        same("locked(" + of + ")", () -> real.locked(of), () -> naive.locked(of));
        same("lockedPackages()", () -> real.lockedPackages(), () -> naive.lockedPackages());
        Object features = same("featuresOf(" + of + ")", () -> real.featuresOf(of), () -> naive.featuresOf(of));
        conditionsOn += features instanceof Integer n && n > 0 ? 1 : 0;
        Object sound = same("isSound()", () -> real.isSound(), () -> naive.isSound());
        unsound += Boolean.FALSE.equals(sound) ? 1 : 0;
        same("newer(" + of + ")", () -> real.newer(of), () -> naive.newer(of));
    }

    private void askWhy() {
        int of = pack();
        int place = some(5);
        Object idle = same("idle()", () -> real.idle(), () -> naive.idle());
        idleSeen += Integer.valueOf(0).equals(idle) ? 0 : 1;
        same("depth(" + of + ")", () -> real.depth(of), () -> naive.depth(of));
        same("chainAt(" + of + ", " + place + ")", () -> real.chainAt(of, place), () -> naive.chainAt(of, place));
        same("neededBy(" + of + ")", () -> real.neededBy(of), () -> naive.neededBy(of));
    }

    private void askPlan() {
        int step = some(naive.steps());
        same("steps()", () -> real.steps(), () -> naive.steps());
        same("kindOf(" + step + ")", () -> real.kindOf(step), () -> naive.kindOf(step));
        same("packageOf(" + step + ")", () -> real.packageOf(step), () -> naive.packageOf(step));
        same("wouldFetch()", () -> real.wouldFetch(), () -> naive.wouldFetch());
        same("roomNeeded()", () -> real.roomNeeded(), () -> naive.roomNeeded());
    }

    private void askDisk() {
        int of = pack();
        int version = version(of);
        same("installed(" + of + ")", () -> real.installed(of), () -> naive.installed(of));
        same("ageOf(" + of + ", " + version + ")", () -> real.ageOf(of, version), () -> naive.ageOf(of, version));
        same("taken()", () -> real.taken(), () -> naive.taken());
        same("cached()", () -> real.cached(), () -> naive.cached());
        same("fetched()", () -> real.fetched(), () -> naive.fetched());
    }

    private void askWhole() {
        same("isInstalled()", () -> real.isInstalled(), () -> naive.isInstalled());
        same("digest()", () -> real.digest(), () -> naive.digest());
    }

    private Object same(String call, Supplier<Object> ofReal, Supplier<Object> ofNaive) {
        compared++;
        made++;
        calls.append(call).append('\n');
        Object got = answer(ofReal);
        Object due = answer(ofNaive);
        if (!got.equals(due)) {
            wrong++;
            System.out.println(calls);
            System.out.println("seed " + seed + ": " + call + " answered " + got + ", due is " + due);
        }
        return got;
    }

    private static Object answer(Supplier<Object> call) {
        try {
            return call.get();
        } catch (RuntimeException e) {
            return "throws." + e.getClass().getSimpleName();
        }
    }
}
