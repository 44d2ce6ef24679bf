/** For each promise of the document: ordinary inputs, the edges that it names, and wrong inputs. */
public final class PromiseTests extends Projects {
    private static final Class<? extends RuntimeException> INDEX = IndexOutOfBoundsException.class;
    private static final Class<? extends RuntimeException> ARGUMENT = IllegalArgumentException.class;
    private static final Class<? extends RuntimeException> STATE = IllegalStateException.class;

    private static int promise = 0;
    private static int wrong = 0;

    private PromiseTests() { }

    private interface Call {
        void make();
    }

    private static void is(String what, Object got, Object due) {
        if (!got.equals(due)) {
            wrong++;
            System.out.println("promise " + promise + ": " + what + " is " + got + ", due is " + due);
        }
    }

    /** The call must throw just that, and change nothing. */
    private static void refuses(PackWright x, Class<? extends RuntimeException> due, String what, Call call) {
        long before = x.digest();
        Object got = "nothing";
        try {
            call.make();
        } catch (RuntimeException e) {
            got = e.getClass();
        }
        is(what + " throws", got, due);
        is("digest() behind " + what, x.digest(), before);
    }

    public static void main(String[] args) {
        Call[] tests = {
            PromiseTests::aNewObject, PromiseTests::addPackage, PromiseTests::publish, PromiseTests::need,
            PromiseTests::clash, PromiseTests::withdraw, PromiseTests::packages, PromiseTests::versions,
            PromiseTests::versionAt, PromiseTests::letIn, PromiseTests::wish, PromiseTests::dropWish,
            PromiseTests::wishes, PromiseTests::resolve, PromiseTests::tries, PromiseTests::locked,
            PromiseTests::lockedPackages, PromiseTests::featuresOf, PromiseTests::isSound, PromiseTests::idle,
            PromiseTests::core, PromiseTests::depth, PromiseTests::chainAt, PromiseTests::neededBy,
            PromiseTests::newer, PromiseTests::wouldChange, PromiseTests::setDisk, PromiseTests::setCache,
            PromiseTests::plan, PromiseTests::steps, PromiseTests::kindOf, PromiseTests::packageOf,
            PromiseTests::run, PromiseTests::rollBack, PromiseTests::installed, PromiseTests::taken,
            PromiseTests::cached, PromiseTests::ageOf, PromiseTests::fetched, PromiseTests::wouldFetch,
            PromiseTests::roomNeeded, PromiseTests::isInstalled, PromiseTests::meanSize, PromiseTests::digest,
        };
        for (Call test : tests) {
            promise++;
            test.make();
        }
        System.out.println(wrong == 0 ? "all answers are as due" : wrong + " answers are not as due");
        if (wrong != 0) {
            System.exit(1);
        }
    }

    // ---- the registry

    private static void aNewObject() {
        PackWright x = new PackWright();
        is("packages()", x.packages(), 0);
        is("wishes()", x.wishes(), 0);
        is("tries()", x.tries(), 0);
        is("lockedPackages()", x.lockedPackages(), 0);
        is("isSound()", x.isSound(), true);
        is("isInstalled()", x.isInstalled(), true);
        is("steps()", x.steps(), 0);
        refuses(x, STATE, "run(0) without a plan", () -> x.run(0));
        is("setDisk(1)", x.setDisk(1), 5000);
        is("setCache(1)", x.setCache(1), 2000);
        PackWright other = withPackages(1);
        is("packages() of one", x.packages(), 0);
        is("packages() of another", other.packages(), 1);
    }

    private static void addPackage() {
        PackWright x = new PackWright();
        for (int i = 0; i < 12; i++) {
            is("addPackage()", x.addPackage(), i);
            is("versions()", x.versions(i), 0);
        }
        refuses(x, STATE, "the 13th addPackage()", () -> x.addPackage());
        is("packages()", x.packages(), 12);
    }

    private static void publish() {
        PackWright x = withPackages(2);
        is("publish()", x.publish(0, 0, 0, 0, 1), 0);
        is("publish()", x.publish(0, 99, 99, 99, 999), 1);
        is("publish()", x.publish(1, 99, 99, 99, 7), 0);
        refuses(x, STATE, "publish() of a version that is there", () -> x.publish(0, 99, 99, 99, 5));
        refuses(x, INDEX, "publish(2, ..)", () -> x.publish(2, 1, 0, 0, 1));
        refuses(x, INDEX, "publish(-1, ..)", () -> x.publish(-1, 1, 0, 0, 1));
        refuses(x, INDEX, "publish(2, ..) with a wrong number", () -> x.publish(2, 100, 0, 0, 0));
        refuses(x, ARGUMENT, "major 100", () -> x.publish(0, 100, 0, 0, 1));
        refuses(x, ARGUMENT, "major -1", () -> x.publish(0, -1, 0, 0, 1));
        refuses(x, ARGUMENT, "minor 100", () -> x.publish(0, 0, 100, 0, 1));
        refuses(x, ARGUMENT, "minor -1", () -> x.publish(0, 1, -1, 0, 1));
        refuses(x, ARGUMENT, "patch 100", () -> x.publish(0, 0, 0, 100, 1));
        refuses(x, ARGUMENT, "patch -1", () -> x.publish(0, 0, 1, -1, 1));
        refuses(x, ARGUMENT, "size 0", () -> x.publish(0, 1, 0, 0, 0));
        refuses(x, ARGUMENT, "size 1000", () -> x.publish(0, 1, 0, 0, 1000));
        refuses(x, ARGUMENT, "size 0 of a version that is there", () -> x.publish(0, 0, 0, 0, 0));
        for (int i = 2; i < 8; i++) {
            is("publish()", x.publish(0, 1, i, 0, 10), i);
        }
        refuses(x, STATE, "the 9th publish()", () -> x.publish(0, 3, 0, 0, 1));
        refuses(x, ARGUMENT, "the 9th publish() with size 0", () -> x.publish(0, 3, 0, 0, 0));
        is("versions()", x.versions(0), 8);
    }

    private static void need() {
        PackWright x = withPackages(3);
        refuses(x, STATE, "need() without a version", () -> x.need(0, 1, -1, 0, 0, 0, 0, 0));
        refuses(x, ARGUMENT, "need() of itself without a version", () -> x.need(0, 0, -1, 0, 0, 0, 0, 0));
        x.publish(0, 5, 0, 0, 10);
        x.publish(0, 2, 0, 0, 10);
        refuses(x, INDEX, "of 3", () -> x.need(3, 0, -1, 0, 0, 0, 0, 0));
        refuses(x, INDEX, "of -1", () -> x.need(-1, 0, -1, 0, 0, 0, 0, 0));
        refuses(x, INDEX, "needed 3", () -> x.need(0, 3, -1, 0, 0, 0, 0, 0));
        refuses(x, INDEX, "needed -1 and a wrong kind", () -> x.need(0, -1, 9, 99, 9, 0, 0, 0));
        refuses(x, INDEX, "both 3", () -> x.need(3, 3, -1, 0, 0, 0, 0, 0));
        refuses(x, ARGUMENT, "both the same", () -> x.need(0, 0, -1, 0, 0, 0, 0, 0));
        refuses(x, ARGUMENT, "condition -2", () -> x.need(0, 1, -2, 0, 0, 0, 0, 0));
        refuses(x, ARGUMENT, "condition 4", () -> x.need(0, 1, 4, 0, 0, 0, 0, 0));
        refuses(x, ARGUMENT, "features -1", () -> x.need(0, 1, -1, -1, 0, 0, 0, 0));
        refuses(x, ARGUMENT, "features 16", () -> x.need(0, 1, -1, 16, 0, 0, 0, 0));
        refuses(x, ARGUMENT, "kind -1", () -> x.need(0, 1, -1, 0, -1, 0, 0, 0));
        refuses(x, ARGUMENT, "kind 6", () -> x.need(0, 1, -1, 0, 6, 0, 0, 0));
        refuses(x, ARGUMENT, "major 100, kind 0", () -> x.need(0, 1, -1, 0, 0, 100, 0, 0));
        refuses(x, ARGUMENT, "minor -1", () -> x.need(0, 1, -1, 0, 2, 0, -1, 0));
        refuses(x, ARGUMENT, "patch 100", () -> x.need(0, 1, -1, 0, 2, 0, 0, 100));
        refuses(x, ARGUMENT, "kind 6 without a version", () -> x.need(1, 0, -1, 0, 6, 0, 0, 0));
        is("need()", x.need(0, 1, 3, 15, 5, 99, 99, 99), 0);
        is("need()", x.need(0, 1, 0, 0, 0, 0, 0, 0), 1);
        for (int i = 2; i < 5; i++) {
            is("need()", x.need(0, 2, -1, 0, 3, 0, 0, 0), i);
        }
        refuses(x, STATE, "the 6th need()", () -> x.need(0, 1, -1, 0, 0, 0, 0, 0));
        refuses(x, ARGUMENT, "the 6th need(), wrong", () -> x.need(0, 1, -1, 16, 0, 0, 0, 0));
        // The needs went to version 1, the latest one, and not to the greatest.
        publishMajors(x, 2, 1);
        wishOnly(x, 0, 2);
        is("resolve() of the version with needs", x.resolve(0, 0), -1);
        x.dropWish(0);
        wishOnly(x, 0, 5);
        is("resolve() of the version without needs", x.resolve(0, 0), 1);
        x.publish(0, 1, 0, 0, 10);
        is("need() of the next version", x.need(0, 1, -1, 0, 0, 0, 0, 0), 0);
    }

    private static void clash() {
        PackWright x = withPackages(3);
        refuses(x, STATE, "clash() without a version", () -> x.clash(0, 1, 0, 0, 0, 0));
        x.publish(0, 5, 0, 0, 10);
        x.publish(0, 2, 0, 0, 10);
        refuses(x, INDEX, "of 3", () -> x.clash(3, 0, 0, 0, 0, 0));
        refuses(x, INDEX, "other 3 and a wrong kind", () -> x.clash(0, 3, 6, 0, 0, 0));
        refuses(x, INDEX, "other -1", () -> x.clash(0, -1, 0, 0, 0, 0));
        refuses(x, ARGUMENT, "both the same", () -> x.clash(0, 0, 0, 0, 0, 0));
        refuses(x, ARGUMENT, "kind 6", () -> x.clash(0, 1, 6, 0, 0, 0));
        refuses(x, ARGUMENT, "kind -1", () -> x.clash(0, 1, -1, 0, 0, 0));
        refuses(x, ARGUMENT, "major -1", () -> x.clash(0, 1, 1, -1, 0, 0));
        refuses(x, ARGUMENT, "minor 100", () -> x.clash(0, 1, 1, 0, 100, 0));
        refuses(x, ARGUMENT, "patch -1", () -> x.clash(0, 1, 1, 0, 0, -1));
        refuses(x, ARGUMENT, "kind 6 without a version", () -> x.clash(1, 0, 6, 0, 0, 0));
        is("clash()", x.clash(0, 1, 1, 2, 0, 0), 0);
        is("clash()", x.clash(0, 2, 0, 0, 0, 0), 1);
        is("clash()", x.clash(0, 2, 2, 9, 0, 0), 2);
        refuses(x, STATE, "the 4th clash()", () -> x.clash(0, 1, 0, 0, 0, 0));
        refuses(x, ARGUMENT, "the 4th clash(), wrong", () -> x.clash(0, 1, 0, 0, 0, 100));
        publishMajors(x, 1, 2);
        wishOnly(x, 0, 2);
        wishAny(x, 1);
        // Version 2.0.0 of 0 clashes with 2.0.0 of 1, but not with 1.0.0.
        is("resolve()", x.resolve(0, 0), 2);
        is("locked(1)", x.locked(1), 0);
        is("tries()", x.tries(), 4);
        wishAny(x, 2);
        publishMajors(x, 2, 1);
        is("resolve() with a clash of kind 0", x.resolve(0, 0), -1);
    }

    private static void withdraw() {
        PackWright x = withPackages(2);
        publishMajors(x, 0, 2);
        refuses(x, INDEX, "withdraw(2, ..)", () -> x.withdraw(2, 0, true));
        refuses(x, INDEX, "withdraw(-1, ..)", () -> x.withdraw(-1, 0, true));
        refuses(x, INDEX, "withdraw(0, 2, ..)", () -> x.withdraw(0, 2, true));
        refuses(x, INDEX, "withdraw(0, -1, ..)", () -> x.withdraw(0, -1, true));
        refuses(x, INDEX, "withdraw(1, 0, ..)", () -> x.withdraw(1, 0, true));
        is("withdraw() of one that is offered", x.withdraw(0, 1, true), false);
        is("withdraw() once more", x.withdraw(0, 1, true), true);
        wishAny(x, 0);
        x.resolve(0, 0);
        is("locked()", x.locked(0), 0);
        is("withdraw() back", x.withdraw(0, 1, false), true);
        is("withdraw() back once more", x.withdraw(0, 1, false), false);
        x.resolve(1, 0);
        is("locked() then", x.locked(0), 1);
        x.plan();
        x.withdraw(0, 1, true);
        is("locked() behind withdraw()", x.locked(0), 1);
        is("steps() behind withdraw()", x.steps(), 1);
    }

    private static void packages() {
        PackWright x = new PackWright();
        is("packages()", x.packages(), 0);
        x.addPackage();
        x.addPackage();
        x.publish(0, 1, 0, 0, 1);
        is("packages()", x.packages(), 2);
    }

    private static void versions() {
        PackWright x = withPackages(2);
        refuses(x, INDEX, "versions(2)", () -> x.versions(2));
        refuses(x, INDEX, "versions(-1)", () -> x.versions(-1));
        is("versions(0)", x.versions(0), 0);
        publishMajors(x, 1, 3);
        x.withdraw(1, 0, true);
        is("versions(1)", x.versions(1), 3);
        is("versions(0)", x.versions(0), 0);
    }

    private static void versionAt() {
        PackWright x = withPackages(2);
        x.publish(0, 1, 2, 3, 1);
        x.publish(0, 1, 2, 4, 1);
        x.publish(0, 2, 0, 0, 1);
        x.publish(0, 1, 10, 0, 1);
        x.publish(0, 0, 99, 99, 1);
        int[] due = {2, 3, 1, 0, 4};
        x.withdraw(0, 3, true);
        for (int place = 0; place < due.length; place++) {
            is("versionAt(0, " + place + ")", x.versionAt(0, place), due[place]);
        }
        refuses(x, INDEX, "versionAt(0, 5)", () -> x.versionAt(0, 5));
        refuses(x, INDEX, "versionAt(0, -1)", () -> x.versionAt(0, -1));
        refuses(x, INDEX, "versionAt(1, 0)", () -> x.versionAt(1, 0));
        refuses(x, INDEX, "versionAt(2, 0)", () -> x.versionAt(2, 0));
        publishMajors(x, 1, 8);
        is("versionAt(1, 0) of 8", x.versionAt(1, 0), 7);
        is("versionAt(1, 7) of 8", x.versionAt(1, 7), 0);
        refuses(x, INDEX, "versionAt(1, 8)", () -> x.versionAt(1, 8));
        refuses(x, INDEX, "versionAt(1, 2147483647)", () -> x.versionAt(1, Integer.MAX_VALUE));
        refuses(x, INDEX, "versionAt(1, -2147483648)", () -> x.versionAt(1, Integer.MIN_VALUE));
    }

    private static void letIn() {
        PackWright x = withPackages(2);
        int[][] numbers = {{0, 3, 0}, {0, 3, 9}, {0, 4, 0}, {1, 2, 3}, {1, 2, 4}, {1, 3, 0}, {1, 99, 99}, {2, 0, 0}};
        for (int[] v : numbers) {
            x.publish(0, v[0], v[1], v[2], 1);
        }
        is("always", x.letIn(0, 0, 50, 50, 50), 8);
        is("is", x.letIn(0, 1, 1, 2, 3), 1);
        is("is none", x.letIn(0, 1, 1, 2, 5), 0);
        is("or more", x.letIn(0, 2, 1, 2, 4), 4);
        is("all or more", x.letIn(0, 2, 0, 0, 0), 8);
        is("less", x.letIn(0, 3, 1, 2, 4), 4);
        is("less than the least", x.letIn(0, 3, 0, 3, 0), 0);
        is("same major", x.letIn(0, 4, 1, 2, 4), 3);
        is("same major 1", x.letIn(0, 4, 1, 0, 0), 4);
        is("same major 0", x.letIn(0, 4, 0, 3, 0), 2);
        is("same major 0, or more", x.letIn(0, 4, 0, 3, 1), 1);
        is("same major 0, minor 0", x.letIn(0, 4, 0, 0, 0), 0);
        is("same minor", x.letIn(0, 5, 1, 2, 0), 2);
        is("same minor, or more", x.letIn(0, 5, 1, 2, 4), 1);
        is("same minor 99", x.letIn(0, 5, 1, 99, 0), 1);
        is("of none", x.letIn(1, 0, 0, 0, 0), 0);
        x.withdraw(0, 3, true);
        is("a withdrawn one", x.letIn(0, 1, 1, 2, 3), 1);
        PackWright y = withPackages(1);
        y.publish(0, 99, 99, 99, 1);
        is("the last of all", y.letIn(0, 4, 99, 0, 0) + y.letIn(0, 5, 99, 99, 99) + y.letIn(0, 1, 99, 99, 99), 3);
        is("the last is not less", y.letIn(0, 3, 99, 99, 99), 0);
        refuses(x, INDEX, "letIn(2, ..)", () -> x.letIn(2, 0, 0, 0, 0));
        refuses(x, INDEX, "letIn(-1, 6, ..)", () -> x.letIn(-1, 6, 0, 0, 0));
        refuses(x, ARGUMENT, "kind 6", () -> x.letIn(0, 6, 0, 0, 0));
        refuses(x, ARGUMENT, "kind -1", () -> x.letIn(0, -1, 0, 0, 0));
        refuses(x, ARGUMENT, "major 100", () -> x.letIn(0, 0, 100, 0, 0));
        refuses(x, ARGUMENT, "minor 100", () -> x.letIn(0, 0, 0, 100, 0));
        refuses(x, ARGUMENT, "patch -1", () -> x.letIn(0, 0, 0, 0, -1));
    }

    // ---- the project

    private static void wish() {
        PackWright x = withPackages(2);
        refuses(x, INDEX, "wish(2, ..)", () -> x.wish(2, 0, 0, 0, 0, 0));
        refuses(x, INDEX, "wish(-1, 16, ..)", () -> x.wish(-1, 16, 0, 0, 0, 0));
        refuses(x, ARGUMENT, "features 16", () -> x.wish(0, 16, 0, 0, 0, 0));
        refuses(x, ARGUMENT, "features -1", () -> x.wish(0, -1, 0, 0, 0, 0));
        refuses(x, ARGUMENT, "kind 6", () -> x.wish(0, 0, 6, 0, 0, 0));
        refuses(x, ARGUMENT, "kind -1", () -> x.wish(0, 0, -1, 0, 0, 0));
        refuses(x, ARGUMENT, "major 100", () -> x.wish(0, 0, 0, 100, 0, 0));
        refuses(x, ARGUMENT, "minor -1", () -> x.wish(0, 0, 0, 0, -1, 0));
        refuses(x, ARGUMENT, "patch 100", () -> x.wish(0, 0, 0, 0, 0, 100));
        for (int i = 0; i < 6; i++) {
            is("wish()", x.wish(i % 2, 15, 5, 99, 99, 99), i);
        }
        refuses(x, STATE, "the 7th wish()", () -> x.wish(0, 0, 0, 0, 0, 0));
        refuses(x, ARGUMENT, "the 7th wish(), wrong", () -> x.wish(0, 0, 6, 0, 0, 0));
        refuses(x, INDEX, "the 7th wish() of no package", () -> x.wish(2, 0, 0, 0, 0, 0));
    }

    private static void dropWish() {
        PackWright x = withSingles(3);
        wishAny(x, 2);
        wishAny(x, 0);
        wishAny(x, 1);
        refuses(x, INDEX, "dropWish(3)", () -> x.dropWish(3));
        refuses(x, INDEX, "dropWish(-1)", () -> x.dropWish(-1));
        is("dropWish(0)", x.dropWish(0), 2);
        // Number 0 is the wish for package 0 now, and number 1 that for package 1.
        is("dropWish(1)", x.dropWish(1), 1);
        x.resolve(0, 0);
        is("locked(0)", x.locked(0), 0);
        is("lockedPackages()", x.lockedPackages(), 1);
        is("dropWish(0)", x.dropWish(0), 0);
        refuses(x, INDEX, "dropWish(0) of none", () -> x.dropWish(0));
        is("lockedPackages() behind it", x.lockedPackages(), 1);
    }

    private static void wishes() {
        PackWright x = withPackages(1);
        is("wishes()", x.wishes(), 0);
        wishAny(x, 0);
        wishAny(x, 0);
        is("wishes()", x.wishes(), 2);
        x.dropWish(0);
        is("wishes()", x.wishes(), 1);
    }

    private static void resolve() {
        resolveRefuses();
        resolveHoldsAndOpens();
        resolveOpensChains();
        resolveAsksInOrder();
        resolveCountsDifferences();
        resolveTurnsFeaturesOn();
        resolveAll();
        resolveGivesUp();
    }

    private static void resolveRefuses() {
        PackWright x = withSingles(2);
        wishAny(x, 0);
        refuses(x, ARGUMENT, "resolve(4, 0)", () -> x.resolve(4, 0));
        refuses(x, ARGUMENT, "resolve(-1, 0)", () -> x.resolve(-1, 0));
        refuses(x, ARGUMENT, "resolve(4, 2)", () -> x.resolve(4, 2));
        refuses(x, INDEX, "resolve(2, 2)", () -> x.resolve(2, 2));
        refuses(x, INDEX, "resolve(3, -1)", () -> x.resolve(3, -1));
        is("resolve(0, 99)", x.resolve(0, 99), 1);
        is("resolve(1, -99)", x.resolve(1, -99), 0);
    }

    private static void resolveHoldsAndOpens() {
        PackWright x = withPackages(2);
        publishMajors(x, 0, 1);
        publishMajors(x, 1, 1);
        wishAny(x, 0);
        wishAny(x, 1);
        is("resolve(0, 0)", x.resolve(0, 0), 2);
        x.publish(0, 2, 0, 0, 10);
        x.publish(1, 2, 0, 0, 10);
        is("resolve(0, 0), all held", x.resolve(0, 0), 0);
        x.withdraw(0, 0, true);
        is("resolve(0, 0), one withdrawn and held", x.resolve(0, 0), 0);
        is("resolve(2, 0), one open", x.resolve(2, 0), 1);
        is("locked(0)", x.locked(0), 1);
        is("locked(1)", x.locked(1), 0);
        is("resolve(1, 0), all open", x.resolve(1, 0), 1);
        is("locked(1)", x.locked(1), 1);
        x.withdraw(1, 1, true);
        x.withdraw(1, 0, true);
        is("resolve(2, 1), all withdrawn", x.resolve(2, 1), -1);
        is("locked(1) stays", x.locked(1), 1);
        is("resolve(0, 0), withdrawn but held", x.resolve(0, 0), 0);
        // If the held one does not do, the others come, the greatest first.
        x.withdraw(0, 0, false);
        x.publish(0, 3, 0, 0, 10);
        x.publish(0, 4, 0, 0, 10);
        x.wish(0, 0, 2, 3, 0, 0);
        is("resolve(0, 0) with another wish", x.resolve(0, 0), 1);
        is("locked(0)", x.locked(0), 3);
        is("tries()", x.tries(), 3);
    }

    private static void resolveOpensChains() {
        PackWright x = withPackages(4);
        for (int of = 0; of < 4; of++) {
            for (int major = 1; major <= 2; major++) {
                x.publish(of, major, 0, 0, 10);
                if (of < 2) {
                    needAny(x, of, of + 1);
                }
            }
            x.withdraw(of, 1, true);
        }
        wishAny(x, 0);
        wishAny(x, 3);
        is("resolve(0, 0)", x.resolve(0, 0), 4);
        for (int of = 0; of < 4; of++) {
            x.withdraw(of, 1, false);
        }
        is("wouldChange(1)", x.wouldChange(1), 1);
        is("resolve(3, 1)", x.resolve(3, 1), 2);
        is("locked(0)", x.locked(0), 0);
        is("locked(1)", x.locked(1), 1);
        is("locked(2)", x.locked(2), 1);
        is("locked(3)", x.locked(3), 0);
        is("resolve(3, 0)", x.resolve(3, 0), 1);
        is("resolve(3, 3)", x.resolve(3, 3), 1);
        PackWright y = withSingles(3);
        y.need(0, 1, 0, 0, 0, 0, 0, 0);
        y.need(0, 2, 1, 0, 0, 0, 0, 0);
        y.wish(0, 1, 0, 0, 0, 0);
        wishAny(y, 2);
        y.resolve(0, 0);
        y.publish(1, 2, 0, 0, 10);
        y.publish(2, 2, 0, 0, 10);
        y.dropWish(0);
        y.wish(0, 2, 0, 0, 0, 0);
        wishAny(y, 1);
        // By the wishes as they are now, 0 needs 2, and 1 no more.
        is("resolve(3, 0) by features", y.resolve(3, 0), 1);
        is("locked(1)", y.locked(1), 0);
        is("locked(2)", y.locked(2), 1);
    }

    /** All 12 packages: each NEED counts by a feature that the package behind it turns on. */
    private static void resolveAll() {
        PackWright x = withPackages(12);
        for (int of = 0; of < 12; of++) {
            publishMajors(x, of, 8);
            for (int i = 0; i < 5 && of > 0; i++) {
                x.need(of, of - 1, 0, i == 4 ? 1 : 0, 1, 8, 0, 0);
            }
        }
        x.wish(11, 1, 0, 0, 0, 0);
        is("resolve()", x.resolve(0, 0), 12);
        is("tries()", x.tries(), 12);
        is("depth(0)", x.depth(0), 12);
        is("chainAt(0, 0)", x.chainAt(0, 0), 11);
        is("chainAt(0, 11)", x.chainAt(0, 11), 0);
        is("chainAt(0, 12)", x.chainAt(0, 12), -1);
        for (int of = 0; of < 12; of++) {
            is("featuresOf(" + of + ")", x.featuresOf(of), 1);
        }
        is("plan()", x.plan(), 12);
        is("packageOf(11)", x.packageOf(11), 11);
        is("run(12)", x.run(12), 12);
        is("rollBack()", x.rollBack(), 12);
        is("taken()", x.taken(), 0);
        is("resolve(3, 11)", x.resolve(3, 11), 0);
        is("isSound()", x.isSound(), true);
    }

    private static void resolveAsksInOrder() {
        // 0 needs 3 and 2; 1 comes ahead of them, as it is wished for. 3 needs 1 below 2.
        PackWright x = withPackages(4);
        publishMajors(x, 0, 1);
        needAny(x, 0, 3);
        needAny(x, 0, 2);
        publishMajors(x, 1, 3);
        publishMajors(x, 2, 2);
        publishMajors(x, 3, 1);
        x.need(3, 1, -1, 0, 3, 3, 0, 0);
        wishAny(x, 0);
        wishAny(x, 1);
        wishAny(x, 0);
        is("resolve()", x.resolve(0, 0), 4);
        // 0; 1 as 3.0.0; 3 (no); 1 as 2.0.0; 3; 2.
        is("tries()", x.tries(), 6);
        is("locked(1)", x.locked(1), 1);
        is("locked(2)", x.locked(2), 1);
        ringOfAskedAhead();
    }

    /** A NEED that starts to COUNT brings its package into the row ahead of another one. */
    private static void ringOfAskedAhead() {
        PackWright x = withPackages(4);
        publishMajors(x, 0, 1);
        x.need(0, 3, 0, 0, 0, 0, 0, 0);
        needAny(x, 0, 1);
        publishMajors(x, 1, 1);
        x.need(1, 0, -1, 1, 0, 0, 0, 0);
        needAny(x, 1, 2);
        publishMajors(x, 2, 3);
        publishMajors(x, 3, 3);
        // With 1 chosen the feature of 0 is on: 3 is asked for ahead of 1, and so ahead of 2.
        x.publish(2, 4, 0, 0, 10);
        x.clash(2, 3, 2, 2, 0, 0);
        wishAny(x, 0);
        is("resolve()", x.resolve(0, 0), 4);
        // 0; 1; 3 as 3.0.0; 2 as 4.0.0 (no), 2 as 3.0.0. The other way round 3 would be 1.0.0.
        is("tries()", x.tries(), 5);
        is("locked(2)", x.locked(2), 2);
        is("locked(3)", x.locked(3), 2);
    }

    private static void resolveCountsDifferences() {
        PackWright x = withPackages(3);
        publishMajors(x, 0, 2);
        publishMajors(x, 1, 1);
        publishMajors(x, 2, 1);
        wishOnly(x, 0, 1);
        wishAny(x, 1);
        is("resolve()", x.resolve(0, 0), 2);
        x.dropWish(0);
        x.dropWish(0);
        wishOnly(x, 0, 2);
        wishAny(x, 2);
        // 0 is in another version, 1 was locked, 2 is locked now.
        is("resolve()", x.resolve(0, 0), 3);
        x.plan();
        is("resolve() to the same", x.resolve(0, 0), 0);
        is("steps() behind a lock that is the same", x.steps(), 0);
        x.plan();
        wishOnly(x, 0, 9);
        is("resolve() of what cannot be", x.resolve(0, 0), -1);
        is("steps() stay then", x.steps(), 2);
        is("locked(0)", x.locked(0), 1);
        x.dropWish(2);
        x.dropWish(1);
        x.dropWish(0);
        is("resolve() without wishes", x.resolve(0, 0), 2);
        is("tries() without wishes", x.tries(), 0);
        is("lockedPackages()", x.lockedPackages(), 0);
    }

    private static void resolveTurnsFeaturesOn() {
        PackWright x = withPackages(3);
        publishMajors(x, 0, 1);
        x.need(0, 1, 2, 8, 0, 0, 0, 0);
        publishMajors(x, 1, 1);
        x.need(1, 2, 3, 0, 3, 2, 0, 0);
        publishMajors(x, 2, 2);
        wishAny(x, 0);
        wishAny(x, 1);
        wishAny(x, 2);
        is("resolve() with the features off", x.resolve(0, 0), 3);
        is("locked(2)", x.locked(2), 1);
        x.dropWish(0);
        x.wish(0, 4, 0, 0, 0, 0);
        is("resolve() with the features on", x.resolve(0, 0), 1);
        is("locked(2)", x.locked(2), 0);
    }

    private static void resolveGivesUp() {
        PackWright found = hardProject(false);
        is("resolve() in 5000 tries", found.resolve(0, 0), 6);
        is("tries()", found.tries(), 5000);
        PackWright tooHard = hardProject(true);
        is("resolve() that would do with try 5001", tooHard.resolve(0, 0), -2);
        is("tries()", tooHard.tries(), 5001);
        is("lockedPackages()", tooHard.lockedPackages(), 0);
        PackWright none = withPackages(6);
        int[] counts = {8, 8, 7, 5, 1, 0};
        for (int of = 0; of < 6; of++) {
            publishMajors(none, of, counts[of]);
            wishAny(none, of);
        }
        is("resolve() of nothing in 5000 tries", none.resolve(0, 0), -1);
        is("tries()", none.tries(), 5000);
    }

    private static void tries() {
        PackWright x = withPackages(2);
        publishMajors(x, 0, 3);
        is("tries()", x.tries(), 0);
        wishOnly(x, 0, 1);
        x.resolve(0, 0);
        is("tries()", x.tries(), 3);
        x.wouldChange(0);
        x.core();
        is("tries() behind wouldChange() and core()", x.tries(), 3);
        x.resolve(0, 0);
        is("tries() with it held", x.tries(), 1);
        wishOnly(x, 0, 9);
        x.resolve(0, 0);
        is("tries() for nothing", x.tries(), 3);
    }

    private static void locked() {
        PackWright x = withPackages(2);
        publishMajors(x, 0, 2);
        publishMajors(x, 1, 1);
        is("locked(0)", x.locked(0), -1);
        wishOnly(x, 0, 2);
        x.resolve(0, 0);
        is("locked(0)", x.locked(0), 1);
        is("locked(1)", x.locked(1), -1);
        refuses(x, INDEX, "locked(2)", () -> x.locked(2));
        refuses(x, INDEX, "locked(-1)", () -> x.locked(-1));
    }

    private static void lockedPackages() {
        PackWright x = withSingles(3);
        wishAny(x, 1);
        is("lockedPackages()", x.lockedPackages(), 0);
        x.resolve(0, 0);
        is("lockedPackages()", x.lockedPackages(), 1);
        wishAny(x, 0);
        is("lockedPackages() ahead of resolve()", x.lockedPackages(), 1);
        x.resolve(0, 0);
        is("lockedPackages()", x.lockedPackages(), 2);
    }

    private static void featuresOf() {
        PackWright x = withSingles(4);
        // 0 and 1 turn a feature of one another on, if it is on: a ring.
        x.need(0, 1, 0, 1, 0, 0, 0, 0);
        x.need(1, 0, 0, 1, 0, 0, 0, 0);
        x.need(1, 2, -1, 6, 0, 0, 0, 0);
        wishAny(x, 0);
        wishAny(x, 1);
        x.resolve(0, 0);
        is("featuresOf(0) in a ring", x.featuresOf(0), 0);
        is("featuresOf(1) in a ring", x.featuresOf(1), 0);
        is("featuresOf(2) by a need", x.featuresOf(2), 6);
        x.wish(0, 9, 1, 7, 7, 7);
        is("featuresOf(0) by a wish that cannot be had", x.featuresOf(0), 9);
        is("featuresOf(1) by a need that counts now", x.featuresOf(1), 1);
        x.wish(3, 15, 0, 0, 0, 0);
        is("featuresOf(3), not locked", x.featuresOf(3), 0);
        x.dropWish(2);
        is("featuresOf(0) without it", x.featuresOf(0), 0);
        refuses(x, INDEX, "featuresOf(4)", () -> x.featuresOf(4));
        refuses(x, INDEX, "featuresOf(-1)", () -> x.featuresOf(-1));
    }

    private static void isSound() {
        PackWright x = withSingles(4);
        wishAny(x, 0);
        is("isSound() with a wish, not locked", x.isSound(), false);
        x.resolve(0, 0);
        is("isSound()", x.isSound(), true);
        wishOnly(x, 0, 2);
        is("isSound() with a wish that it does not meet", x.isSound(), false);
        x.dropWish(1);
        x.need(0, 1, 1, 0, 0, 0, 0, 0);
        is("isSound() with a need that does not count", x.isSound(), true);
        x.wish(0, 2, 0, 0, 0, 0);
        is("isSound() with a need that counts now", x.isSound(), false);
        x.resolve(0, 0);
        is("isSound()", x.isSound(), true);
        x.need(0, 1, -1, 0, 3, 1, 0, 0);
        is("isSound() with a need that lets another version in", x.isSound(), false);
        PackWright y = withSingles(2);
        wishAny(y, 0);
        wishAny(y, 1);
        y.resolve(0, 0);
        y.clash(1, 0, 3, 1, 0, 0);
        is("isSound() with a clash with another version", y.isSound(), true);
        y.clash(1, 0, 1, 1, 0, 0);
        is("isSound() with a clash", y.isSound(), false);
        y.dropWish(0);
        y.dropWish(0);
        is("isSound() with a clash, without wishes", y.isSound(), false);
    }

    private static void idle() {
        PackWright x = withSingles(4);
        needAny(x, 0, 1);
        x.need(1, 2, 0, 0, 0, 0, 0, 0);
        wishAny(x, 0);
        x.wish(1, 1, 0, 0, 0, 0);
        x.resolve(0, 0);
        is("idle()", x.idle(), 0);
        x.dropWish(1);
        is("idle() with a need that does not count any more", x.idle(), 1);
        x.dropWish(0);
        is("idle() without wishes", x.idle(), 3);
        wishAny(x, 1);
        wishAny(x, 3);
        is("idle() with other wishes", x.idle(), 2);
    }

    private static void core() {
        PackWright x = withPackages(3);
        publishMajors(x, 0, 2);
        publishMajors(x, 1, 1);
        publishMajors(x, 2, 1);
        is("core() without wishes", x.core(), 0);
        wishAny(x, 1);
        wishOnly(x, 0, 1);
        is("core() of what can be", x.core(), 0);
        wishAny(x, 2);
        wishOnly(x, 0, 2);
        is("core()", x.core(), 10);
        x.wish(0, 0, 3, 2, 0, 0);
        // Wish 1 is left out first, as 3 and 4 cannot be had either.
        is("core() of three", x.core(), 24);
        wishOnly(x, 1, 9);
        is("core() of one wish alone", x.core(), 32);
        PackWright held = withPackages(1);
        publishMajors(held, 0, 1);
        wishAny(held, 0);
        held.resolve(0, 0);
        held.withdraw(0, 0, true);
        is("resolve() with the lock", held.resolve(0, 0), 0);
        is("core() without the lock", held.core(), 1);
        is("locked() stays", held.locked(0), 0);
        coreThatIsTooHard();
    }

    private static void coreThatIsTooHard() {
        PackWright x = withPackages(7);
        int[] counts = {8, 8, 8, 8, 8, 1};
        for (int of = 0; of < 6; of++) {
            publishMajors(x, of, counts[of]);
        }
        for (int of = 0; of < 5; of++) {
            wishAny(x, of);
        }
        wishOnly(x, 5, 9);
        is("resolve()", x.resolve(0, 0), -2);
        is("core() of what is too hard", x.core(), 0);
        x.dropWish(0);
        // 4 wishes with 8 versions each, and one that cannot be: 4680 + 4096 tries are too many.
        is("core() of what is still too hard", x.core(), 0);
        x.dropWish(0);
        is("core() of what cannot be", x.core(), 8);
    }

    private static void depth() {
        PackWright x = chainProject();
        int[] due = {1, 1, 2, 2, 3, 0};
        for (int of = 0; of < 6; of++) {
            is("depth(" + of + ")", x.depth(of), due[of]);
        }
        refuses(x, INDEX, "depth(6)", () -> x.depth(6));
        refuses(x, INDEX, "depth(-1)", () -> x.depth(-1));
        x.dropWish(0);
        x.dropWish(0);
        is("depth(0) without wishes", x.depth(0), 0);
        wishAny(x, 4);
        is("depth(4) by a wish", x.depth(4), 1);
        is("depth(5) of a wish, not locked", x.wish(5, 0, 0, 0, 0, 0) - 1 + x.depth(5), 0);
    }

    /** 1 and 0 are wished for; 1 needs 2, 0 needs 3, both 2 and 3 need 4; 5 has nothing to do with them. */
    private static PackWright chainProject() {
        PackWright x = withSingles(6);
        needAny(x, 1, 2);
        needAny(x, 0, 3);
        needAny(x, 2, 4);
        needAny(x, 3, 4);
        needAny(x, 4, 0);
        wishAny(x, 1);
        wishAny(x, 0);
        x.resolve(0, 0);
        return x;
    }

    private static void chainAt() {
        PackWright x = chainProject();
        // 0 3 4 is told for package 4, and not 1 2 4.
        int[] due = {0, 3, 4, -1};
        for (int place = 0; place < due.length; place++) {
            is("chainAt(4, " + place + ")", x.chainAt(4, place), due[place]);
        }
        is("chainAt(2, 0)", x.chainAt(2, 0), 1);
        is("chainAt(2, 1)", x.chainAt(2, 1), 2);
        is("chainAt(0, 0)", x.chainAt(0, 0), 0);
        is("chainAt(5, 0)", x.chainAt(5, 0), -1);
        is("chainAt(4, 2147483647)", x.chainAt(4, Integer.MAX_VALUE), -1);
        refuses(x, ARGUMENT, "chainAt(0, -1)", () -> x.chainAt(0, -1));
        refuses(x, INDEX, "chainAt(6, 0)", () -> x.chainAt(6, 0));
        refuses(x, INDEX, "chainAt(-1, -1)", () -> x.chainAt(-1, -1));
    }

    private static void neededBy() {
        PackWright x = withSingles(4);
        needAny(x, 0, 2);
        needAny(x, 0, 2);
        x.need(1, 2, 0, 0, 0, 0, 0, 0);
        needAny(x, 3, 2);
        wishAny(x, 0);
        wishAny(x, 1);
        x.resolve(0, 0);
        is("neededBy(2)", x.neededBy(2), 1);
        x.wish(1, 1, 0, 0, 0, 0);
        is("neededBy(2) with a need that counts now", x.neededBy(2), 2);
        is("neededBy(0)", x.neededBy(0), 0);
        needAny(x, 0, 3);
        is("neededBy(3), not locked", x.neededBy(3), 1);
        refuses(x, INDEX, "neededBy(4)", () -> x.neededBy(4));
        refuses(x, INDEX, "neededBy(-1)", () -> x.neededBy(-1));
    }

    private static void newer() {
        PackWright x = withPackages(2);
        x.publish(0, 3, 0, 0, 10);
        x.publish(0, 1, 0, 0, 10);
        x.publish(0, 2, 0, 0, 10);
        is("newer(0), not locked", x.newer(0), -1);
        wishOnly(x, 0, 1);
        x.resolve(0, 0);
        is("newer(0)", x.newer(0), 0);
        x.withdraw(0, 0, true);
        is("newer(0) with one withdrawn", x.newer(0), 2);
        x.withdraw(0, 2, true);
        is("newer(0), the greatest one itself", x.newer(0), -1);
        x.withdraw(0, 1, true);
        is("newer(0), all withdrawn", x.newer(0), -1);
        x.dropWish(0);
        x.withdraw(0, 0, false);
        wishOnly(x, 0, 3);
        x.resolve(1, 0);
        x.withdraw(0, 0, true);
        x.withdraw(0, 1, false);
        is("newer(0) with less ones alone", x.newer(0), -1);
        refuses(x, INDEX, "newer(2)", () -> x.newer(2));
        refuses(x, INDEX, "newer(-1)", () -> x.newer(-1));
    }

    private static void wouldChange() {
        PackWright x = withPackages(2);
        publishMajors(x, 0, 1);
        publishMajors(x, 1, 1);
        wishAny(x, 0);
        wishAny(x, 1);
        is("wouldChange(0) ahead of all", x.wouldChange(0), 2);
        x.resolve(0, 0);
        publishMajors(withPackages(1), 0, 1);
        x.publish(0, 2, 0, 0, 10);
        x.publish(1, 2, 0, 0, 10);
        x.plan();
        long before = x.digest();
        is("wouldChange(0)", x.wouldChange(0), 1);
        is("digest() behind wouldChange()", x.digest(), before);
        x.withdraw(0, 0, true);
        x.withdraw(0, 1, true);
        is("wouldChange(0) of nothing", x.wouldChange(0), -1);
        is("wouldChange(1)", x.wouldChange(1), 1);
        is("wouldChange() that is too hard", hardProject(true).wouldChange(0), -2);
        refuses(x, INDEX, "wouldChange(2)", () -> x.wouldChange(2));
        refuses(x, INDEX, "wouldChange(-1)", () -> x.wouldChange(-1));
    }

    // ---- installing

    private static void setDisk() {
        PackWright x = withSingles(2);
        is("setDisk(20000)", x.setDisk(20000), 5000);
        is("setDisk(0)", x.setDisk(0), 20000);
        refuses(x, ARGUMENT, "setDisk(20001)", () -> x.setDisk(20001));
        refuses(x, ARGUMENT, "setDisk(-1)", () -> x.setDisk(-1));
        is("setDisk(10)", x.setDisk(10), 0);
        wishAny(x, 0);
        wishAny(x, 1);
        x.resolve(0, 0);
        x.plan();
        is("run()", x.run(2), 1);
        x.setDisk(5);
        is("taken() of a disk with less room", x.taken(), 10);
    }

    private static void setCache() {
        PackWright x = withSingles(3);
        for (int of = 0; of < 3; of++) {
            wishAny(x, of);
        }
        x.resolve(0, 0);
        x.plan();
        x.run(3);
        is("setCache(60)", x.setCache(60), 2000);
        is("cached()", x.cached(), 60);
        is("setCache(59)", x.setCache(59), 60);
        is("cached() without the oldest", x.cached(), 50);
        is("ageOf(0, 0)", x.ageOf(0, 0), -1);
        is("ageOf(1, 0)", x.ageOf(1, 0), 1);
        is("setCache(29)", x.setCache(29), 59);
        // The newest has 30 by itself: all go, the smaller old one first.
        is("cached() of none", x.cached(), 0);
        is("setCache(0)", x.setCache(0), 29);
        is("setCache(20000)", x.setCache(20000), 0);
        refuses(x, ARGUMENT, "setCache(20001)", () -> x.setCache(20001));
        refuses(x, ARGUMENT, "setCache(-1)", () -> x.setCache(-1));
        is("setCache(1)", x.setCache(1), 20000);
    }

    private static void plan() {
        PackWright x = withSingles(5);
        is("plan() of nothing", x.plan(), 0);
        is("run() of it", x.run(1), 0);
        // 0 needs 1, 1 needs 3, and 2 and 4 are a ring.
        needAny(x, 0, 1);
        needAny(x, 1, 3);
        needAny(x, 2, 4);
        needAny(x, 4, 2);
        wishAny(x, 0);
        wishAny(x, 2);
        x.resolve(0, 0);
        is("plan()", x.plan(), 5);
        isPlan(x, new int[] {3, 1, 0, 2, 4}, new int[] {2, 2, 2, 2, 2});
        x.run(9);
        is("plan() of what is installed", x.plan(), 0);
        x.dropWish(0);
        x.dropWish(0);
        x.resolve(0, 0);
        is("plan() to remove", x.plan(), 5);
        isPlan(x, new int[] {0, 1, 3, 2, 4}, new int[] {0, 0, 0, 0, 0});
        x.run(2);
        is("plan() in place of another one", x.plan(), 3);
        isPlan(x, new int[] {3, 2, 4}, new int[] {0, 0, 0});
        planOfAllKinds();
        planByFeatures();
    }

    private static void isPlan(PackWright x, int[] packs, int[] kinds) {
        for (int step = 0; step < packs.length; step++) {
            is("packageOf(" + step + ")", x.packageOf(step), packs[step]);
            is("kindOf(" + step + ")", x.kindOf(step), kinds[step]);
        }
        is("steps()", x.steps(), packs.length);
    }

    private static void planOfAllKinds() {
        PackWright x = withPackages(4);
        publishMajors(x, 0, 1);
        publishMajors(x, 1, 2);
        publishMajors(x, 2, 1);
        publishMajors(x, 3, 1);
        wishOnly(x, 1, 1);
        wishAny(x, 2);
        wishAny(x, 3);
        x.resolve(0, 0);
        x.plan();
        x.run(3);
        x.dropWish(0);
        x.dropWish(0);
        wishOnly(x, 1, 2);
        wishAny(x, 0);
        x.resolve(0, 0);
        is("plan()", x.plan(), 3);
        // 3 is installed and locked in the same version: no step.
        isPlan(x, new int[] {2, 0, 1}, new int[] {0, 2, 1});
    }

    /** A need orders the steps only if it counts, by the choice that the step has to do with. */
    private static void planByFeatures() {
        PackWright x = withSingles(3);
        x.need(0, 1, 0, 0, 0, 0, 0, 0);
        wishAny(x, 0);
        wishAny(x, 1);
        x.resolve(0, 0);
        x.plan();
        isPlan(x, new int[] {0, 1}, new int[] {2, 2});
        x.wish(0, 1, 0, 0, 0, 0);
        x.plan();
        isPlan(x, new int[] {1, 0}, new int[] {2, 2});
        x.run(2);
        PackWright y = withSingles(2);
        y.need(1, 0, 0, 0, 0, 0, 0, 0);
        y.wish(1, 1, 0, 0, 0, 0);
        y.resolve(0, 0);
        y.plan();
        y.run(2);
        y.dropWish(0);
        y.resolve(0, 0);
        y.plan();
        isPlan(y, new int[] {0, 1}, new int[] {0, 0});
        y.wish(1, 1, 0, 0, 0, 0);
        isPlan(y, new int[] {0, 1}, new int[] {0, 0});
        y.plan();
        isPlan(y, new int[] {1, 0}, new int[] {0, 0});
    }

    private static void steps() {
        PackWright x = withSingles(2);
        is("steps() without a plan", x.steps(), 0);
        wishAny(x, 0);
        wishAny(x, 1);
        x.resolve(0, 0);
        x.plan();
        is("steps()", x.steps(), 2);
        x.run(1);
        is("steps() with one done", x.steps(), 2);
        x.rollBack();
        is("steps() behind rollBack()", x.steps(), 0);
        x.plan();
        x.publish(0, 2, 0, 0, 10);
        x.wish(0, 1, 0, 0, 0, 0);
        x.withdraw(1, 0, true);
        is("steps() with other wishes and versions", x.steps(), 2);
        x.resolve(0, 0);
        is("steps() behind resolve()", x.steps(), 0);
    }

    private static void kindOf() {
        PackWright x = withPackages(3);
        publishMajors(x, 0, 2);
        publishMajors(x, 1, 1);
        publishMajors(x, 2, 1);
        refuses(x, INDEX, "kindOf(0) without a plan", () -> x.kindOf(0));
        wishOnly(x, 0, 1);
        wishAny(x, 1);
        x.resolve(0, 0);
        x.plan();
        is("kindOf(0)", x.kindOf(0), 2);
        x.run(2);
        x.dropWish(1);
        x.dropWish(0);
        wishOnly(x, 0, 2);
        wishAny(x, 2);
        x.resolve(0, 0);
        x.plan();
        isPlan(x, new int[] {1, 0, 2}, new int[] {0, 1, 2});
        x.run(3);
        isPlan(x, new int[] {1, 0, 2}, new int[] {0, 1, 2});
        refuses(x, INDEX, "kindOf(3)", () -> x.kindOf(3));
        refuses(x, INDEX, "kindOf(-1)", () -> x.kindOf(-1));
    }

    private static void packageOf() {
        PackWright x = withSingles(3);
        refuses(x, INDEX, "packageOf(0) without a plan", () -> x.packageOf(0));
        needAny(x, 0, 2);
        wishAny(x, 0);
        x.resolve(0, 0);
        x.plan();
        is("packageOf(0)", x.packageOf(0), 2);
        is("packageOf(1)", x.packageOf(1), 0);
        refuses(x, INDEX, "packageOf(2)", () -> x.packageOf(2));
        refuses(x, INDEX, "packageOf(-1)", () -> x.packageOf(-1));
        x.resolve(0, 0);
        refuses(x, INDEX, "packageOf(0) of a plan that is gone", () -> x.packageOf(0));
    }

    private static void run() {
        PackWright x = withPackages(2);
        refuses(x, ARGUMENT, "run(-1) without a plan", () -> x.run(-1));
        refuses(x, STATE, "run(0) without a plan", () -> x.run(0));
        x.publish(0, 1, 0, 0, 100);
        x.publish(0, 2, 0, 0, 60);
        x.publish(1, 1, 0, 0, 50);
        wishOnly(x, 0, 1);
        wishAny(x, 1);
        x.resolve(0, 0);
        x.plan();
        is("run(0)", x.run(0), 0);
        x.setDisk(149);
        is("run(9) without room", x.run(9), 1);
        is("fetched() then", x.fetched(), 1);
        is("installed(1)", x.installed(1), -1);
        x.setDisk(150);
        is("run(1) with just the room", x.run(1), 2);
        is("run(2147483647) of none", x.run(Integer.MAX_VALUE), 2);
        refuses(x, ARGUMENT, "run(-1)", () -> x.run(-1));
        x.dropWish(0);
        wishOnly(x, 0, 2);
        x.resolve(0, 0);
        x.plan();
        x.setDisk(109);
        is("run(1) of a change that takes less, without room", x.run(1), 0);
        is("installed(0)", x.installed(0), 0);
        is("fetched()", x.fetched(), 2);
        x.setDisk(110);
        is("run(1) of it with just the room", x.run(1), 1);
        is("installed(0)", x.installed(0), 1);
        x.dropWish(0);
        x.resolve(0, 0);
        x.setDisk(0);
        x.plan();
        is("run(1) that removes, without room", x.run(1), 1);
        is("taken()", x.taken(), 60);
        is("fetched()", x.fetched(), 3);
    }

    private static void rollBack() {
        PackWright x = withPackages(3);
        refuses(x, STATE, "rollBack() without a plan", () -> x.rollBack());
        publishMajors(x, 0, 2);
        publishMajors(x, 1, 1);
        publishMajors(x, 2, 1);
        wishOnly(x, 0, 1);
        wishAny(x, 1);
        x.resolve(0, 0);
        x.plan();
        is("rollBack() of none", x.rollBack(), 0);
        refuses(x, STATE, "rollBack() once more", () -> x.rollBack());
        x.plan();
        x.run(2);
        x.dropWish(1);
        x.dropWish(0);
        wishOnly(x, 0, 2);
        wishAny(x, 2);
        x.resolve(0, 0);
        refuses(x, STATE, "rollBack() behind resolve()", () -> x.rollBack());
        x.plan();
        x.run(3);
        is("installed(0)", x.installed(0), 1);
        x.setDisk(0);
        is("rollBack()", x.rollBack(), 3);
        is("installed(0)", x.installed(0), 0);
        is("installed(1)", x.installed(1), 0);
        is("installed(2)", x.installed(2), -1);
        is("fetched()", x.fetched(), 4);
        is("cached()", x.cached(), 40);
        is("ageOf(2, 0)", x.ageOf(2, 0), 0);
        is("locked(0)", x.locked(0), 1);
        refuses(x, STATE, "run(1) behind rollBack()", () -> x.run(1));
        x.setDisk(5000);
        x.plan();
        x.run(1);
        x.plan();
        x.run(1);
        // Only the steps of the last plan are undone.
        is("rollBack()", x.rollBack(), 1);
        is("installed(1) stays off", x.installed(1), -1);
        is("installed(0)", x.installed(0), 0);
        is("rollBack() of a plan without steps", withPlanOfNothing().rollBack(), 0);
    }

    private static PackWright withPlanOfNothing() {
        PackWright x = new PackWright();
        x.plan();
        return x;
    }

    private static void installed() {
        PackWright x = withPackages(2);
        publishMajors(x, 0, 2);
        is("installed(0)", x.installed(0), -1);
        wishAny(x, 0);
        x.resolve(0, 0);
        x.plan();
        is("installed(0) ahead of run()", x.installed(0), -1);
        x.run(1);
        is("installed(0)", x.installed(0), 1);
        is("installed(1)", x.installed(1), -1);
        refuses(x, INDEX, "installed(2)", () -> x.installed(2));
        refuses(x, INDEX, "installed(-1)", () -> x.installed(-1));
    }

    private static void taken() {
        PackWright x = withSingles(3);
        is("taken()", x.taken(), 0);
        wishAny(x, 0);
        wishAny(x, 2);
        x.resolve(0, 0);
        x.plan();
        is("taken() ahead of run()", x.taken(), 0);
        x.run(1);
        is("taken()", x.taken(), 10);
        x.run(1);
        is("taken()", x.taken(), 40);
        x.dropWish(0);
        x.resolve(0, 0);
        x.plan();
        x.run(1);
        is("taken()", x.taken(), 30);
    }

    /** Packages 0 to 2 with the sizes 10, 20, 30 are installed in that order, with a cache of some room. */
    private static PackWright withCache(int room) {
        PackWright x = withSingles(3);
        x.setCache(room);
        for (int of = 0; of < 3; of++) {
            wishAny(x, of);
        }
        x.resolve(0, 0);
        x.plan();
        x.run(3);
        return x;
    }

    private static void cached() {
        is("cached()", new PackWright().cached(), 0);
        is("cached() of all", withCache(60).cached(), 60);
        is("cached() without the oldest", withCache(59).cached(), 50);
        is("cached() of the newest", withCache(49).cached(), 30);
        // 30 does not come in, and nothing goes for it.
        is("cached() without what is too big", withCache(29).cached(), 20);
        is("cached() without room", withCache(0).cached(), 0);
        PackWright x = withCache(30);
        is("cached() with just the room", x.cached(), 30);
        is("ageOf(2, 0) with just the room", x.ageOf(2, 0), 0);
        is("ageOf(1, 0) with just the room", x.ageOf(1, 0), -1);
        x.rollBack();
        is("cached() behind rollBack()", x.cached(), 30);
    }

    private static void ageOf() {
        PackWright x = withCache(60);
        is("ageOf(0, 0)", x.ageOf(0, 0), 2);
        is("ageOf(1, 0)", x.ageOf(1, 0), 1);
        is("ageOf(2, 0)", x.ageOf(2, 0), 0);
        x.publish(2, 2, 0, 0, 10);
        is("ageOf(2, 1)", x.ageOf(2, 1), -1);
        x.rollBack();
        x.plan();
        x.run(1);
        is("ageOf(0, 0), used from the cache", x.ageOf(0, 0), 0);
        is("ageOf(2, 0) then", x.ageOf(2, 0), 1);
        is("ageOf(1, 0) then", x.ageOf(1, 0), 2);
        is("ageOf(0, 0) that has gone", withCache(59).ageOf(0, 0), -1);
        refuses(x, INDEX, "ageOf(3, 0)", () -> x.ageOf(3, 0));
        refuses(x, INDEX, "ageOf(-1, 0)", () -> x.ageOf(-1, 0));
        refuses(x, INDEX, "ageOf(0, 1)", () -> x.ageOf(0, 1));
        refuses(x, INDEX, "ageOf(0, -1)", () -> x.ageOf(0, -1));
    }

    private static void fetched() {
        PackWright x = withCache(60);
        is("fetched()", x.fetched(), 3);
        x.rollBack();
        is("fetched() behind rollBack()", x.fetched(), 3);
        x.plan();
        x.run(3);
        is("fetched() with all in the cache", x.fetched(), 3);
        PackWright y = withCache(59);
        y.rollBack();
        y.plan();
        // 0 is fetched and 1 goes for it; so 1 is fetched and 2 goes; so 2 is fetched.
        y.run(3);
        is("fetched() with the oldest gone", y.fetched(), 6);
        PackWright z = withCache(0);
        is("fetched() without a cache", z.fetched(), 3);
    }

    private static void wouldFetch() {
        PackWright x = withCache(59);
        is("wouldFetch() of what is done", x.wouldFetch(), 0);
        x.rollBack();
        is("wouldFetch() without a plan", x.wouldFetch(), 0);
        x.setDisk(0);
        x.plan();
        // The cache holds 1 and 2 (20 and 30), 1 the older one.
        is("wouldFetch() with what goes meanwhile", x.wouldFetch(), 60);
        x.setCache(60);
        long before = x.digest();
        is("wouldFetch() with room in the cache", x.wouldFetch(), 10);
        is("digest() behind wouldFetch()", x.digest(), before);
        x.setDisk(5000);
        x.run(1);
        is("wouldFetch() of the rest", x.wouldFetch(), 0);
        PackWright y = withCache(29);
        y.rollBack();
        y.plan();
        // 1 (20) is there and 0 (10) is not; 10 and 20 do not go together; 30 never comes in.
        is("wouldFetch() with what is too big", y.wouldFetch(), 60);
    }

    private static void roomNeeded() {
        PackWright x = withPackages(3);
        x.publish(0, 1, 0, 0, 100);
        x.publish(0, 2, 0, 0, 10);
        x.publish(1, 1, 0, 0, 30);
        x.publish(1, 2, 0, 0, 300);
        x.publish(2, 1, 0, 0, 50);
        is("roomNeeded() of nothing", x.roomNeeded(), 0);
        wishOnly(x, 1, 1);
        wishOnly(x, 0, 1);
        x.resolve(0, 0);
        is("roomNeeded() without a plan", x.roomNeeded(), 0);
        x.setDisk(0);
        x.plan();
        is("roomNeeded()", x.roomNeeded(), 130);
        x.setDisk(5000);
        x.run(2);
        is("roomNeeded() of what is done", x.roomNeeded(), 130);
        x.dropWish(0);
        x.dropWish(0);
        wishOnly(x, 1, 2);
        wishOnly(x, 0, 2);
        x.resolve(0, 0);
        x.plan();
        // 130 ahead, 40 between, 310 behind.
        is("roomNeeded() of changes", x.roomNeeded(), 310);
        x.run(2);
        x.dropWish(0);
        wishAny(x, 2);
        x.resolve(0, 0);
        x.plan();
        is("roomNeeded() ahead of a step that removes", x.roomNeeded(), 310);
        long before = x.digest();
        x.roomNeeded();
        is("digest() behind roomNeeded()", x.digest(), before);
        x.run(1);
        is("roomNeeded() of the steps that are left", x.roomNeeded(), 60);
    }

    private static void isInstalled() {
        PackWright x = withPackages(1);
        publishMajors(x, 0, 2);
        wishOnly(x, 0, 1);
        is("isInstalled() of nothing", x.isInstalled(), true);
        x.resolve(0, 0);
        is("isInstalled() ahead of the plan", x.isInstalled(), false);
        x.plan();
        x.run(1);
        is("isInstalled()", x.isInstalled(), true);
        x.dropWish(0);
        wishOnly(x, 0, 2);
        x.resolve(0, 0);
        is("isInstalled() in another version", x.isInstalled(), false);
        x.dropWish(0);
        x.resolve(0, 0);
        is("isInstalled() of what is not locked", x.isInstalled(), false);
    }

    private static void meanSize() {
        PackWright x = withPackages(3);
        is("meanSize() of none", x.meanSize(), 0.0);
        x.publish(0, 1, 0, 0, 1);
        is("meanSize()", x.meanSize(), 1.0);
        x.publish(2, 1, 0, 0, 2);
        is("meanSize(), not cut", x.meanSize(), 1.5);
        x.publish(2, 2, 0, 0, 2);
        x.withdraw(2, 1, true);
        is("meanSize() with a withdrawn one", x.meanSize(), 5.0 / 3.0);
    }

    private static void digest() {
        long d = 58044;
        for (int x : new int[] {0, 0, 0, 0, 1, 0, 0, 0, 0, 0, 0, 0, 1}) {
            d = d * 31 + x;
        }
        is("digest() of a new object", new PackWright().digest(), d);
        PackWright x = withPackages(2);
        x.publish(0, 1, 0, 0, 10);
        x.publish(0, 2, 0, 0, 20);
        x.need(0, 1, -1, 4, 0, 0, 0, 0);
        x.publish(1, 1, 0, 0, 30);
        x.wish(0, 3, 0, 0, 0, 0);
        x.resolve(0, 0);
        x.plan();
        x.run(1);
        int[] due = {
            2, 1, 2, 2, 1, 0, 2, 30, 30, 1, 20, 50, 0,
            2, 1, 0, 1, 3, 1, 0, 0, -1, -1, -1, -1,
            1, 0, 0, 4, 2, 0, 1, 1, -1, 0, 0,
            2, 1, 2, 0,
        };
        d = 58044;
        for (int number : due) {
            d = d * 31 + number;
        }
        is("digest()", x.digest(), d);
        is("digest() once more", x.digest(), d);
    }
}
