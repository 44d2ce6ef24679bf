import java.math.BigInteger;

/** What each promise returns: its least and its greatest answer, and that of what is empty or full. */
public final class AnswerTests extends SentenceTests {
    private AnswerTests() { }

    public static void main(String[] args) {
        ofTheRegistry();
        ofTheWishes();
        ofResolving();
        ofTheLock();
        ofChains();
        ofThePlan();
        ofTheDisk();
        ofTheCache();
        ofTheWhole();
        mustHaveNamedAll("Returns");
        end();
    }

    // ---- the registry

    private static void ofTheRegistry() {
        sentence(1, "Creates a registry without packages, and a project without wishes.", AnswerTests::newObject);
        sentence(2, "Returns its number.", () -> {
            PackWright x = new PackWright();
            is("the first", x.addPackage(), 0);
            PackWright y = withPackages(11);
            is("the last", y.addPackage(), 11);
            is("the first of an object that is made later", new PackWright().addPackage(), 0);
        });
        sentence(3, "Returns its number.", () -> {
            PackWright x = withPackages(12);
            publishMajors(x, 0, 7);
            is("the 8th", x.publish(0, 0, 0, 0, 1), 7);
            is("the first of another package", x.publish(11, 99, 99, 99, 999), 0);
        });
        sentence(3, "Publishes a version of a package, without NEEDS and CLASHES.", () -> {
            PackWright x = withSingles(2);
            needAny(x, 0, 1);
            x.clash(0, 1, 0, 0, 0, 0);
            wishAny(x, 0);
            is("resolve() of a version that needs what it clashes with", x.resolve(0, 0), -1);
            x.publish(0, 1, 0, 1, 10);
            is("resolve() with a version without them", x.resolve(0, 0), 1);
            is("neededBy(1)", x.neededBy(1), 0);
        });
        sentence(4, "Adds a NEED to the latest version of a package (the one with the greatest number).", () -> {
            PackWright x = withSingles(2);
            x.publish(0, 0, 1, 0, 10);
            needAny(x, 0, 1);
            wishOnly(x, 0, 1);
            is("resolve() of the greater version, not the latest", x.resolve(0, 0), 1);
            x.dropWish(0);
            x.wish(0, 0, 1, 0, 1, 0);
            is("resolve() of the latest version", x.resolve(0, 0), 2);
        });
        sentence(4, "Returns the number of the NEED.", () -> {
            PackWright x = withSingles(12);
            for (int need = 0; need < 5; need++) {
                is("need()", x.need(11, need, 3, 15, 5, 99, 99, 99), need);
            }
            is("need() of another one", x.need(0, 11, -1, 0, 0, 0, 0, 0), 0);
        });
        sentence(5, "Adds a CLASH to the latest version of a package.", () -> {
            PackWright x = withSingles(2);
            x.publish(0, 0, 1, 0, 10);
            x.clash(0, 1, 0, 0, 0, 0);
            wishAny(x, 1);
            wishOnly(x, 0, 1);
            is("resolve() of the greater version, not the latest", x.resolve(0, 0), 2);
            x.dropWish(1);
            x.wish(0, 0, 1, 0, 1, 0);
            is("resolve() of the latest version", x.resolve(0, 0), -1);
        });
        sentence(5, "Returns the number of the CLASH.", () -> {
            PackWright x = withSingles(12);
            for (int clash = 0; clash < 3; clash++) {
                is("clash()", x.clash(11, clash, 5, 99, 99, 99), clash);
            }
            is("clash() of another one", x.clash(0, 11, 0, 0, 0, 0), 0);
        });
        sentence(6, "Returns whether it was.", () -> {
            PackWright x = fullProject();
            for (int version : new int[] {0, 7}) {
                is("withdraw() back of one that was not", x.withdraw(11, version, false), false);
                is("withdraw()", x.withdraw(11, version, true), false);
                is("withdraw() once more", x.withdraw(11, version, true), true);
                is("withdraw() back", x.withdraw(11, version, false), true);
                is("withdraw() back once more", x.withdraw(11, version, false), false);
            }
            x.withdraw(11, 7, true);
            is("withdraw() of the one ahead of it", x.withdraw(11, 6, true), false);
            is("withdraw() of another package", x.withdraw(10, 7, true), false);
        });
        sentence(7, "Returns how many packages there are.", () -> {
            is("packages() of none", new PackWright().packages(), 0);
            is("packages() of one", withPackages(1).packages(), 1);
            is("packages() of all", withPackages(12).packages(), 12);
        });
        sentence(8, "Returns how many versions it has.", () -> {
            is("versions() of none", withPackages(12).versions(11), 0);
            is("versions() of one", withSingles(12).versions(11), 1);
            is("versions() of all", fullProject().versions(11), 8);
        });
        sentence(9, "Returns the number of the version there.", () -> {
            is("versionAt(11, 0) of one", withSingles(12).versionAt(11, 0), 0);
            PackWright x = withPackages(2);
            for (int version = 0; version < 8; version++) {
                x.publish(0, version, 0, 0, 10);
                x.publish(1, 8 - version, 0, 0, 10);
            }
            for (int place = 0; place < 8; place++) {
                is("versionAt() as they were published, the least first", x.versionAt(0, place), 7 - place);
                is("versionAt() as they were published, the greatest first", x.versionAt(1, place), place);
            }
        });
        sentence(10, "Returns how many versions of the package it lets in, WITHDRAWN ones as well.", () -> {
            is("letIn() of none", withPackages(1).letIn(0, 0, 0, 0, 0), 0);
            PackWright x = withPackages(12);
            publishMajors(x, 11, 8);
            for (int version = 0; version < 8; version++) {
                is("letIn() of all", x.letIn(11, 0, 0, 0, 0), 8);
                is("letIn() of the least", x.letIn(11, 3, 2, 0, 0), 1);
                is("letIn() of the greatest", x.letIn(11, 2, 8, 0, 0), 1);
                is("letIn() of none", x.letIn(11, 2, 8, 0, 1), 0);
                x.withdraw(11, version, true);
            }
            is("letIn() of all, WITHDRAWN", x.letIn(11, 0, 0, 0, 0), 8);
        });
    }

    private static void newObject() {
        PackWright x = new PackWright();
        int[] zeros = {
            x.packages(), x.wishes(), x.tries(), x.lockedPackages(), x.idle(), x.core(), x.steps(), x.taken(),
            x.cached(), x.fetched(), x.wouldFetch(), x.roomNeeded(),
        };
        for (int i = 0; i < zeros.length; i++) {
            is("number " + i + " of a new object", zeros[i], 0);
        }
        is("isSound()", x.isSound(), true);
        is("isInstalled()", x.isInstalled(), true);
        is("meanSize()", x.meanSize(), 0.0);
        is("resolve(0, 0)", x.resolve(0, 0), 0);
        is("resolve(1, 0)", x.resolve(1, 0), 0);
        Call[] refused = {
            y -> y.publish(0, 1, 0, 0, 1), y -> y.need(0, 1, -1, 0, 0, 0, 0, 0), y -> y.clash(0, 1, 0, 0, 0, 0),
            y -> y.withdraw(0, 0, true), y -> y.versions(0), y -> y.versionAt(0, 0), y -> y.letIn(0, 0, 0, 0, 0),
            y -> y.wish(0, 0, 0, 0, 0, 0), y -> y.dropWish(0), y -> y.resolve(2, 0), y -> y.resolve(3, 0),
            y -> y.locked(0), y -> y.featuresOf(0), y -> y.depth(0), y -> y.chainAt(0, 0), y -> y.neededBy(0),
            y -> y.newer(0), y -> y.wouldChange(0), y -> y.kindOf(0), y -> y.packageOf(0), y -> y.installed(0),
            y -> y.ageOf(0, 0),
        };
        for (int i = 0; i < refused.length; i++) {
            refuses(x, INDEX, "call " + i + " of what is not there", refused[i]);
        }
        is("plan()", x.plan(), 0);
    }

    // ---- the project

    private static void ofTheWishes() {
        sentence(11, "Returns its number.", () -> {
            PackWright x = withPackages(12);
            is("the first", x.wish(0, 0, 0, 0, 0, 0), 0);
            for (int wish = 1; wish < 5; wish++) {
                wishAny(x, 0);
            }
            is("the 6th", x.wish(11, 15, 5, 99, 99, 99), 5);
        });
        sentence(12, "Takes a WISH away; those with greater numbers have one less from then on.", () -> {
            for (int dropped = 0; dropped < 6; dropped++) {
                PackWright x = withSingles(6);
                for (int of = 0; of < 6; of++) {
                    wishAny(x, of);
                }
                x.dropWish(dropped);
                // The one that cannot be had tells in the core which number each one has.
                x.withdraw((dropped + 1) % 6, 0, true);
                is("core() behind dropWish(" + dropped + ")", x.core(), dropped == 5 ? 1 : 1 << dropped);
                x.withdraw((dropped + 1) % 6, 0, false);
                x.withdraw((dropped + 5) % 6, 0, true);
                is("core() behind it, of the one ahead", x.core(), dropped == 0 ? 16 : 1 << dropped - 1);
                x.withdraw((dropped + 5) % 6, 0, false);
                is("resolve()", x.resolve(0, 0), 5);
                is("locked() of the one that was dropped", x.locked(dropped), -1);
            }
        });
        sentence(12, "Returns how many there are then.", () -> {
            PackWright x = fullProject();
            for (int left = 5; left >= 0; left--) {
                is("dropWish()", x.dropWish(left % 2 == 0 ? 0 : left), left);
            }
            refuses(x, INDEX, "dropWish(0) of none", y -> y.dropWish(0));
        });
        sentence(13, "Returns how many WISHES there are.", () -> {
            is("wishes() of none", withPackages(12).wishes(), 0);
            is("wishes() of one", rowOfTwelve().wishes(), 1);
            is("wishes() of all", fullProject().wishes(), 6);
        });
    }

    private static void ofResolving() {
        sentence(14, "If a choice is found, it becomes the LOCK (also if that is the same); otherwise the LOCK stays.", () -> {
            PackWright x = rowOfTwelve();
            is("resolve()", x.resolve(0, 0), 12);
            is("resolve() to the same", x.resolve(0, 0), 0);
            is("lockedPackages()", x.lockedPackages(), 12);
            wishOnly(x, 11, 2);
            is("resolve() of nothing", x.resolve(0, 0), -1);
            is("resolve() of nothing, all OPEN", x.resolve(1, 0), -1);
            is("lockedPackages()", x.lockedPackages(), 12);
            PackWright tooHard = withWishedMajors(1, 8, 8, 8, 8);
            tooHard.resolve(0, 0);
            tooHard.wish(4, 0, 3, 0, 0, 0);
            tooHard.publish(0, 0, 0, 0, 10);
            tooHard.publish(0, 0, 0, 1, 10);
            is("resolve() that is TOO HARD", tooHard.resolve(1, 0), -2);
            is("lockedPackages()", tooHard.lockedPackages(), 5);
        });
        sentence(14, "0 none, 1 all, 2 only the one that is told, 3 that one, and all that have a CHAIN from it "
                + "by the LOCK as it is", AnswerTests::opened);
        sentence(14, "Returns how many packages are locked in other versions than before, or are locked now, or were before, "
                + "and not both; -1 if nothing is found, but -2 if it is TOO HARD.", () -> {
            PackWright x = rowsOfEight();
            wishOnly(x, 0, 1);
            is("resolve() of all 12 that were not locked", x.resolve(0, 0), 12);
            is("resolve() of none", x.resolve(0, 0), 0);
            x.dropWish(0);
            wishOnly(x, 0, 8);
            is("resolve() of all 12 in other versions", x.resolve(0, 0), 12);
            x.dropWish(0);
            wishOnly(x, 11, 8);
            is("resolve() of 11 that were locked", x.resolve(0, 0), 11);
            x.dropWish(0);
            wishOnly(x, 10, 7);
            is("resolve() of one in another version, and one that was not locked", x.resolve(0, 0), 2);
            x.dropWish(0);
            is("resolve() of two that were", x.resolve(0, 0), 2);
            wishOnly(x, 0, 9);
            is("resolve() of nothing", x.resolve(0, 0), -1);
            is("resolve() that is TOO HARD", hardProject(true).resolve(0, 0), -2);
        });
        sentence(15, "Returns how many TRIES the latest resolve() took (5001 if it was TOO HARD); 0 ahead of the first one.",
                AnswerTests::tries);
        sentence(26, "What resolve(2, of) would tell; nothing is changed.", () -> {
            PackWright x = halfwayProject();
            long before = x.digest();
            for (int of = 0; of < 5; of++) {
                x.wouldChange(of);
                is("digest() behind wouldChange(" + of + ")", x.digest(), before);
            }
            is("run(3)", x.run(3), 4);
        });
        sentence(26, "Returns that.", () -> {
            is("wouldChange() of all", rowOfTwelve().wouldChange(11), 12);
            is("wouldChange() of none", withPackages(1).wouldChange(0), 0);
            is("wouldChange() of nothing", withWishedMajors(0).wouldChange(0), -1);
            PackWright just = hopelessRegistry(false);
            wishForFive(just);
            is("wouldChange() of nothing with 5000 TRIES", just.wouldChange(6), -1);
            PackWright tooHard = hopelessRegistry(true);
            wishForFive(tooHard);
            is("wouldChange() with 5001 TRIES", tooHard.wouldChange(6), -2);
            is("wouldChange() found with 5000 TRIES", hardProject(false).wouldChange(0), 6);
            is("wouldChange() that would be found with 5001", hardProject(true).wouldChange(0), -2);
            PackWright x = withSingles(12);
            wishAny(x, 0);
            wishAny(x, 11);
            x.resolve(0, 0);
            x.publish(11, 2, 0, 0, 10);
            is("wouldChange(10), not locked", x.wouldChange(10), 0);
            is("wouldChange(11)", x.wouldChange(11), 1);
        });
    }

    private static void opened() {
        // 0 needs 1, and so on; 11 is wished for by itself. There is a greater version of each, later.
        PackWright x = withSingles(12);
        for (int of = 0; of < 10; of++) {
            needAny(x, of, of + 1);
        }
        wishAny(x, 0);
        wishAny(x, 11);
        x.resolve(0, 0);
        for (int of = 0; of < 12; of++) {
            x.publish(of, 2, 0, 0, 10);
            if (of < 10) {
                needAny(x, of, of + 1);
            }
        }
        is("resolve(0, 0)", x.resolve(0, 0), 0);
        is("resolve(2, 11), the last one", x.resolve(2, 11), 1);
        is("resolve(3, 10), that none is behind", x.resolve(3, 10), 1);
        is("resolve(3, 9), with one behind it", x.resolve(3, 9), 1);
        is("resolve(2, 0), the first one", x.resolve(2, 0), 1);
        is("resolve(3, 0), with ten behind it", x.resolve(3, 0), 8);
        is("resolve(1, 0), all", x.resolve(1, 0), 0);
        for (int of = 0; of < 12; of++) {
            is("locked(" + of + ")", x.locked(of), 1);
        }
        PackWright ring = ringOfTwelve();
        ring.resolve(0, 0);
        for (int of = 0; of < 12; of++) {
            publishNext(ring, of, (of + 1) % 12);
        }
        is("wouldChange(6) in a ring", ring.wouldChange(6), 1);
        is("resolve(3, 6) in a ring", ring.resolve(3, 6), 12);
        PackWright none = withWishedMajors(1, 1);
        is("resolve(3, 0) without a LOCK", none.resolve(3, 0), 2);
        openedByFeatures();
        PackWright all = rowOfTwelve();
        all.resolve(0, 0);
        for (int of = 0; of < 12; of++) {
            publishNext(all, of, of < 11 ? of + 1 : 0);
        }
        is("resolve(0, 0) with all HELD", all.resolve(0, 0), 0);
        is("resolve(1, 0) with none HELD", all.resolve(1, 0), 12);
    }

    private static void publishNext(PackWright x, int of, int needed) {
        x.publish(of, 2, 0, 0, 10);
        needAny(x, of, needed);
    }

    /** A CHAIN goes by the WISHES as they are now, also if nothing was asked behind the latest one. */
    private static void openedByFeatures() {
        for (int features = 0; features <= 8; features += 8) {
            PackWright x = withSingles(2);
            x.need(0, 1, 3, 0, 0, 0, 0, 0);
            wishAny(x, 0);
            wishAny(x, 1);
            x.resolve(0, 0);
            x.publish(1, 2, 0, 0, 10);
            x.isSound();
            x.wish(0, features, 0, 0, 0, 0);
            is("resolve(3, 0)", x.resolve(3, 0), features == 0 ? 0 : 1);
        }
    }

    private static void tries() {
        PackWright x = withWishedMajors(8);
        is("tries() ahead of the first", x.tries(), 0);
        x.wouldChange(0);
        x.core();
        is("tries() behind wouldChange() and core()", x.tries(), 0);
        x.resolve(0, 0);
        is("tries() of one", x.tries(), 1);
        wishOnly(x, 0, 9);
        x.resolve(0, 0);
        is("tries() of nothing", x.tries(), 8);
        refuses(x, INDEX, "resolve(2, 1)", y -> y.resolve(2, 1));
        refuses(x, ARGUMENT, "resolve(4, 0)", y -> y.resolve(4, 0));
        is("tries() behind one that was refused", x.tries(), 8);
        dropWishes(x);
        x.resolve(0, 0);
        is("tries() without WISHES", x.tries(), 0);
        PackWright just = hardProject(false);
        just.resolve(0, 0);
        is("tries() of what is just found", just.tries(), 5000);
        just.resolve(0, 0);
        is("tries() of what is locked", just.tries(), 6);
        PackWright tooHard = hardProject(true);
        tooHard.resolve(0, 0);
        is("tries() of what is TOO HARD", tooHard.tries(), 5001);
        PackWright farTooHard = withWishedMajors(8, 8, 8, 8, 8, 0);
        farTooHard.resolve(0, 0);
        is("tries() of what is far too hard", farTooHard.tries(), 5001);
    }

    private static void ofTheLock() {
        sentence(16, "Returns its locked version; -1 without one.", () -> {
            PackWright x = rowsOfEight();
            is("locked(0) at first", x.locked(0), -1);
            wishOnly(x, 0, 8);
            x.resolve(0, 0);
            is("locked(0)", x.locked(0), 7);
            is("locked(11)", x.locked(11), 7);
            x.dropWish(0);
            wishOnly(x, 11, 1);
            is("locked(0) ahead of resolve()", x.locked(0), 7);
            x.resolve(0, 0);
            is("locked(0)", x.locked(0), -1);
            is("locked(11)", x.locked(11), 0);
            is("locked() of a package without versions", withPackages(1).locked(0), -1);
        });
        sentence(17, "Returns how many packages are locked.", () -> {
            PackWright x = rowOfTwelve();
            is("lockedPackages() of none", x.lockedPackages(), 0);
            x.resolve(0, 0);
            is("lockedPackages() of all", x.lockedPackages(), 12);
            x.dropWish(0);
            wishAny(x, 11);
            x.resolve(0, 0);
            is("lockedPackages() of the last", x.lockedPackages(), 1);
            x.dropWish(0);
            x.resolve(0, 0);
            is("lockedPackages() of none again", x.lockedPackages(), 0);
        });
        sentence(18, "Returns its features that are ON by the LOCK and the WISHES as they are now "
                + "(all that is told of the LOCK goes by these); 0 if it is not locked.", AnswerTests::features);
        sentence(18, "(all that is told of the LOCK goes by these)", AnswerTests::allGoByTheWishes);
        sentence(19, "Returns whether the LOCK is a choice that is SOUND for the WISHES as they are now.", () -> {
            PackWright x = rowOfTwelve();
            is("isSound() of no LOCK with a WISH", x.isSound(), false);
            x.resolve(0, 0);
            is("isSound()", x.isSound(), true);
            for (int wish = 1; wish < 6; wish++) {
                x.wish(11, 15, 1, 1, 0, wish == 5 ? 1 : 0);
                is("isSound() with " + (wish + 1) + " WISHES", x.isSound(), wish < 5);
            }
            dropWishes(x);
            is("isSound() of a LOCK without WISHES", x.isSound(), true);
            x.clash(11, 0, 3, 1, 0, 0);
            is("isSound() with a CLASH that does not let it in", x.isSound(), true);
            x.clash(11, 0, 2, 1, 0, 0);
            is("isSound() with a CLASH", x.isSound(), false);
            is("isSound() of nothing", withSingles(12).isSound(), true);
            PackWright needs = withWishedMajors(1, 0);
            needs.dropWish(1);
            needs.resolve(0, 0);
            needs.need(0, 1, 0, 0, 0, 0, 0, 0);
            is("isSound() with a NEED that does not COUNT", needs.isSound(), true);
            needAny(needs, 0, 1);
            is("isSound() with a NEED of what is not IN", needs.isSound(), false);
        });
        sentence(20, "Returns how many locked packages no CHAIN leads to.", () -> {
            PackWright x = rowOfTwelve();
            is("idle() of none", x.idle(), 0);
            x.resolve(0, 0);
            is("idle() of all that are wished for or needed", x.idle(), 0);
            wishAny(x, 11);
            x.dropWish(0);
            is("idle() of all but the last", x.idle(), 11);
            x.dropWish(0);
            is("idle() of all", x.idle(), 12);
            wishOnly(x, 0, 2);
            is("idle() with a WISH that the LOCK does not meet", x.idle(), 0);
        });
        sentence(25, "Returns the greatest version that is not WITHDRAWN, if it is greater than the locked one; "
                + "-1 otherwise, or if it is not locked.", AnswerTests::newer);
    }

    private static void features() {
        PackWright x = withSingles(12);
        x.need(0, 11, -1, 8, 0, 0, 0, 0);
        x.need(0, 11, 3, 7, 0, 0, 0, 0);
        is("featuresOf(0), not locked", x.featuresOf(0), 0);
        x.wish(0, 0, 0, 0, 0, 0);
        is("featuresOf(0), not locked, with a WISH", x.featuresOf(0), 0);
        x.resolve(0, 0);
        is("featuresOf(0) of none", x.featuresOf(0), 0);
        is("featuresOf(11)", x.featuresOf(11), 8);
        x.wish(0, 8, 0, 0, 0, 0);
        is("featuresOf(11) of all", x.featuresOf(11), 15);
        is("featuresOf(0)", x.featuresOf(0), 8);
        x.wish(0, 15, 1, 2, 0, 0);
        is("featuresOf(0) of all, by a WISH that does not let it in", x.featuresOf(0), 15);
        x.wish(5, 15, 0, 0, 0, 0);
        is("featuresOf(5), not locked, with all of them wished for", x.featuresOf(5), 0);
        is("isSound() with that", x.isSound(), false);
        dropWishes(x);
        is("featuresOf(0) without WISHES", x.featuresOf(0), 0);
        is("featuresOf(11) without WISHES", x.featuresOf(11), 8);
        is("featuresOf() of a package without versions", withPackages(12).featuresOf(11), 0);
    }

    /** What is told of the LOCK, by each call as the first one behind a WISH that turns a feature on, or behind it. */
    private static void allGoByTheWishes() {
        Call[] calls = {
            x -> x.featuresOf(1), x -> x.isSound(), x -> x.idle(), x -> x.depth(2), x -> x.chainAt(2, 0), x -> x.neededBy(2),
        };
        Object[] off = {0, true, 1, 0, -1, 0};
        Object[] on = {3, false, 0, 3, 0, 1};
        for (int i = 0; i < calls.length; i++) {
            PackWright x = withSingles(4);
            needAny(x, 0, 1);
            x.need(0, 1, 0, 3, 0, 0, 0, 0);
            x.need(1, 2, 1, 0, 0, 0, 0, 0);
            wishAny(x, 0);
            wishAny(x, 2);
            x.resolve(0, 0);
            x.dropWish(1);
            x.need(1, 3, 0, 0, 0, 0, 0, 0);
            is("call " + i + " with the feature off", calls[i].on(x), off[i]);
            x.wish(0, 1, 0, 0, 0, 0);
            is("call " + i + " with the feature on", calls[i].on(x), on[i]);
            x.dropWish(1);
            is("call " + i + " with the feature off again", calls[i].on(x), off[i]);
        }
    }

    private static void newer() {
        PackWright x = withWishedMajors(8);
        is("newer() of what is not locked", x.newer(0), -1);
        is("newer() of a package without versions", withPackages(1).newer(0), -1);
        x.resolve(0, 0);
        is("newer() of the greatest", x.newer(0), -1);
        x.withdraw(0, 7, true);
        is("newer() of the greatest, WITHDRAWN", x.newer(0), -1);
        x.dropWish(0);
        wishOnly(x, 0, 1);
        x.resolve(0, 0);
        for (int greatest = 6; greatest > 0; greatest--) {
            is("newer() of the least", x.newer(0), greatest);
            x.withdraw(0, greatest, true);
        }
        is("newer() with all others WITHDRAWN", x.newer(0), -1);
        x.withdraw(0, 0, true);
        is("newer() with all WITHDRAWN", x.newer(0), -1);
        x.withdraw(0, 1, false);
        is("newer() of a WITHDRAWN one", x.newer(0), 1);
        PackWright y = withPackages(1);
        y.publish(0, 1, 2, 3, 10);
        wishAny(y, 0);
        y.resolve(0, 0);
        y.publish(0, 1, 2, 2, 10);
        is("newer() with the next one below", y.newer(0), -1);
        y.publish(0, 1, 2, 4, 10);
        is("newer() with the next one above", y.newer(0), 2);
    }

    private static void ofChains() {
        sentence(21, "Returns the WISHES in the CORE, as the sum of 2^wish; "
                + "0 if the project can be resolved without a LOCK, or that is TOO HARD.", () -> {
            is("core() without WISHES", withPackages(12).core(), 0);
            is("core() of what can be resolved", fullProject().core(), 0);
            is("core() found with the 5000th TRY", hardProject(false).core(), 0);
            is("core() that would be found with the 5001st", hardProject(true).core(), 0);
            PackWright first = withWishedMajors(0, 1, 1, 1, 1, 1);
            is("core() of the first", first.core(), 1);
            PackWright last = withWishedMajors(1, 1, 1, 1, 1, 0);
            is("core() of the last", last.core(), 32);
            PackWright all = withWishedMajors(1, 1, 1, 1, 1, 5);
            for (int of = 0; of < 5; of++) {
                all.clash(of, 5, 1, of + 1, 0, 0);
            }
            is("core() of all", all.core(), 63);
            long before = all.digest();
            all.core();
            is("digest() behind core()", all.digest(), before);
        });
        sentence(22, "Returns its DEPTH; 0 without a CHAIN, or if it is not locked.", () -> {
            PackWright x = rowOfTwelve();
            is("depth(0), not locked", x.depth(0), 0);
            x.resolve(0, 0);
            is("depth(0), the first", x.depth(0), 1);
            is("depth(11), the deepest", x.depth(11), 12);
            wishAny(x, 11);
            is("depth(11) with a WISH", x.depth(11), 1);
            x.dropWish(0);
            is("depth(0) without a CHAIN", x.depth(0), 0);
            PackWright y = withSingles(2);
            wishAny(y, 0);
            y.resolve(0, 0);
            wishAny(y, 1);
            needAny(y, 0, 1);
            is("depth(1), wished for and needed, not locked", y.depth(1), 0);
        });
        sentence(23, "Returns the package there; -1 if the chain has not so many, or there is none.", () -> {
            PackWright x = rowOfTwelve();
            is("chainAt(0, 0), not locked", x.chainAt(0, 0), -1);
            x.resolve(0, 0);
            for (int of = 0; of < 12; of++) {
                is("chainAt() of the first place", x.chainAt(of, 0), 0);
                is("chainAt() of the place ahead of the last", x.chainAt(of, of == 0 ? 0 : of - 1), of == 0 ? 0 : of - 1);
                is("chainAt() of the last place", x.chainAt(of, of), of);
                is("chainAt() of the next place", x.chainAt(of, of + 1), -1);
                is("chainAt() of the farthest place", x.chainAt(of, Integer.MAX_VALUE), -1);
            }
            refuses(x, ARGUMENT, "chainAt(0, -1)", y -> y.chainAt(0, -1));
            x.dropWish(0);
            is("chainAt(11, 0) without a CHAIN", x.chainAt(11, 0), -1);
        });
        sentence(24, "Returns how many locked packages have a NEED for it that COUNTS by the LOCK.", () -> {
            PackWright x = withSingles(12);
            for (int of = 0; of < 11; of++) {
                x.need(of, 11, of == 0 ? 3 : -1, 0, 0, 0, 0, 0);
                if (of < 10) {
                    needAny(x, of, of + 1);
                }
                needAny(x, of, 11);
            }
            wishAny(x, 0);
            is("neededBy(11), none locked", x.neededBy(11), 0);
            x.resolve(0, 0);
            is("neededBy(11) of all others, twice each", x.neededBy(11), 11);
            is("neededBy(10)", x.neededBy(10), 1);
            is("neededBy(0)", x.neededBy(0), 0);
            x.dropWish(0);
            wishAny(x, 10);
            x.resolve(0, 0);
            is("neededBy(11) of one", x.neededBy(11), 1);
            is("neededBy(10) of none", x.neededBy(10), 0);
            needAny(x, 11, 9);
            is("neededBy(9), not locked", x.neededBy(9), 1);
        });
    }

    // ---- installing

    private static void ofThePlan() {
        sentence(29, "Returns how many STEPS it has.", () -> {
            is("plan() of nothing", new PackWright().plan(), 0);
            PackWright x = rowOfTwelve();
            is("plan() ahead of resolve()", x.plan(), 0);
            x.resolve(0, 0);
            is("plan() to ADD all", x.plan(), 12);
            x.run(5);
            is("plan() of the rest, in place of one that is there", x.plan(), 7);
            is("run(0) of it", x.run(0), 0);
            x.run(12);
            is("plan() of what is INSTALLED", x.plan(), 0);
            dropWishes(x);
            x.resolve(0, 0);
            is("plan() to REMOVE all", x.plan(), 12);
        });
        sentence(30, "Returns how many STEPS the PLAN has; 0 without one.", () -> {
            PackWright x = rowOfTwelve();
            is("steps() without a PLAN", x.steps(), 0);
            x.plan();
            is("steps() of a PLAN without STEPS", x.steps(), 0);
            x.resolve(0, 0);
            x.plan();
            is("steps()", x.steps(), 12);
            x.run(12);
            is("steps() with all done", x.steps(), 12);
            x.rollBack();
            is("steps() behind rollBack()", x.steps(), 0);
        });
        sentence(31, "Returns 0, 1 or 2: what it does.", () -> {
            PackWright x = withSingles(12);
            for (int of : new int[] {0, 5, 11}) {
                wishAny(x, of);
            }
            install(x);
            dropWishes(x);
            x.publish(11, 2, 0, 0, 10);
            wishOnly(x, 11, 2);
            wishAny(x, 4);
            x.resolve(0, 0);
            is("plan()", x.plan(), 4);
            int[] kinds = {0, 0, 2, 1};
            for (int step = 0; step < 4; step++) {
                is("kindOf(" + step + ")", x.kindOf(step), kinds[step]);
            }
            x.run(4);
            is("kindOf(0) of what is done", x.kindOf(0), 0);
            is("kindOf(3) of what is done", x.kindOf(3), 1);
        });
        sentence(32, "Returns its package.", () -> {
            PackWright x = rowOfTwelve();
            x.resolve(0, 0);
            x.plan();
            is("packageOf(0), the first", x.packageOf(0), 11);
            is("packageOf(11), the last", x.packageOf(11), 0);
            x.run(12);
            is("packageOf(11) of what is done", x.packageOf(11), 0);
        });
        sentence(33, "Returns how many of this PLAN were done in all, by this and earlier calls.", () -> {
            PackWright x = rowOfTwelve();
            x.resolve(0, 0);
            x.plan();
            is("run(0)", x.run(0), 0);
            is("run(1)", x.run(1), 1);
            is("run(0) once more", x.run(0), 1);
            is("run(10)", x.run(10), 11);
            is("installed(0)", x.installed(0), -1);
            is("run(2147483647)", x.run(Integer.MAX_VALUE), 12);
            is("run(1) with all done", x.run(1), 12);
            x.plan();
            is("run(1) of the next PLAN", x.run(1), 0);
        });
        sentence(34, "Returns how many STEPS were undone.", () -> {
            for (int done = 0; done <= 12; done++) {
                PackWright x = rowOfTwelve();
                x.resolve(0, 0);
                x.plan();
                x.run(done);
                is("rollBack() of " + done, x.rollBack(), done);
                is("taken() behind it", x.taken(), 0);
            }
            PackWright twice = rowOfTwelve();
            twice.resolve(0, 0);
            twice.plan();
            twice.run(5);
            twice.plan();
            twice.run(2);
            is("rollBack() of the second PLAN", twice.rollBack(), 2);
            is("installed(7) by the first one", twice.installed(7), 0);
            is("installed(6) by the second one", twice.installed(6), -1);
        });
    }

    private static void ofTheDisk() {
        sentence(27, "Returns the room before.", () -> {
            PackWright x = new PackWright();
            is("setDisk() of the least", x.setDisk(0), 5000);
            is("setDisk() of the greatest", x.setDisk(20000), 0);
            is("setDisk() of the same", x.setDisk(20000), 20000);
            is("setDisk() back", x.setDisk(1), 20000);
            PackWright none = planOfSizes(1);
            none.setDisk(0);
            is("run() without any room", none.run(1), 0);
            none.setDisk(1);
            is("run() with the least room", none.run(1), 1);
        });
        sentence(35, "Returns its version that is INSTALLED; -1 without one.", () -> {
            PackWright x = rowsOfEight();
            is("installed(11) of none", x.installed(11), -1);
            installMajor(x, 8);
            is("installed(0)", x.installed(0), 7);
            is("installed(11)", x.installed(11), 7);
            installMajor(x, 1);
            is("installed(11) in another version", x.installed(11), 0);
            install(x);
            is("installed(11) of none again", x.installed(11), -1);
        });
        sentence(36, "Returns how much of the DISK is taken.", () -> {
            is("taken() of nothing", withPackages(12).taken(), 0);
            PackWright x = rowOfGreatest();
            x.setDisk(12 * 999);
            is("taken() ahead of run()", x.taken(), 0);
            is("run()", x.run(12), 12);
            is("taken() of the most that there can be", x.taken(), 11988);
            x.setDisk(0);
            is("taken() with less room", x.taken(), 11988);
            x.rollBack();
            is("taken() behind rollBack()", x.taken(), 0);
        });
        sentence(41, "Returns the greatest size that would be taken ahead of, behind, or between the STEPS that are left "
                + "of the PLAN, if all were done; taken() without one; nothing is changed.", AnswerTests::roomNeeded);
    }

    /** A plan to ADD 12 packages of the size 999. */
    private static PackWright rowOfGreatest() {
        PackWright x = withPackages(12);
        for (int of = 0; of < 12; of++) {
            x.publish(of, 1, 0, 0, 999);
            if (of < 11) {
                needAny(x, of, of + 1);
            }
        }
        wishAny(x, 0);
        x.resolve(0, 0);
        x.plan();
        return x;
    }

    private static void roomNeeded() {
        is("roomNeeded() of nothing", new PackWright().roomNeeded(), 0);
        PackWright x = planOfSizes(10, 20, 30);
        x.setDisk(0);
        is("roomNeeded() behind the last", x.roomNeeded(), 60);
        is("roomNeeded() once more", x.roomNeeded(), 60);
        is("taken()", x.taken(), 0);
        x.setDisk(5000);
        x.run(2);
        is("roomNeeded() with one left", x.roomNeeded(), 60);
        x.run(1);
        is("roomNeeded() with none left", x.roomNeeded(), 60);
        dropWishes(x);
        x.resolve(0, 0);
        is("roomNeeded() without a PLAN", x.roomNeeded(), 60);
        x.plan();
        is("roomNeeded() ahead of the first", x.roomNeeded(), 60);
        x.run(1);
        is("roomNeeded() ahead of the next one", x.roomNeeded(), 50);
        x.run(2);
        is("roomNeeded() behind all", x.roomNeeded(), 0);
        // 30 of 0, then 1 grows from 20 to 50, and 2 shrinks from 50 to 10: most is taken between them.
        PackWright y = withPackages(3);
        y.publish(0, 1, 0, 0, 30);
        y.publish(1, 1, 0, 0, 20);
        y.publish(1, 2, 0, 0, 50);
        y.publish(2, 1, 0, 0, 50);
        y.publish(2, 2, 0, 0, 10);
        wishAny(y, 0);
        wishOnly(y, 1, 1);
        wishOnly(y, 2, 1);
        install(y);
        dropWishes(y);
        wishAny(y, 0);
        wishOnly(y, 1, 2);
        wishOnly(y, 2, 2);
        y.resolve(0, 0);
        y.plan();
        is("roomNeeded() between two", y.roomNeeded(), 130);
        y.setDisk(129);
        is("run() with 1 too little", y.run(2), 0);
        y.setDisk(130);
        is("run() with just that", y.run(2), 2);
        is("roomNeeded() behind all of them", y.roomNeeded(), 90);
    }

    private static void ofTheCache() {
        sentence(28, "the room of the CACHE from now on (the oldest ones go, if need be)", () -> {
            PackWright x = planOfSizes(10, 20, 30);
            x.run(3);
            x.setCache(60);
            is("cached() with just the room", x.cached(), 60);
            x.setCache(59);
            is("cached() with 1 less", x.cached(), 50);
            x.setCache(20000);
            is("cached() with the most room", x.cached(), 50);
            is("ageOf(0, 0), that has gone", x.ageOf(0, 0), -1);
            x.setCache(30);
            is("cached() of the newest", x.cached(), 30);
            x.setCache(0);
            is("cached() without room", x.cached(), 0);
        });
        sentence(28, "Returns the room before.", () -> {
            PackWright x = new PackWright();
            is("setCache() of the least", x.setCache(0), 2000);
            is("setCache() of the greatest", x.setCache(20000), 0);
            is("setCache() of the same", x.setCache(20000), 20000);
            is("setCache() back", x.setCache(1), 20000);
        });
        sentence(37, "Returns the sizes of all that is in the CACHE, together.", () -> {
            is("cached() of nothing", new PackWright().cached(), 0);
            PackWright x = fullCache();
            is("cached() of all 96 versions", x.cached(), 20000);
            x.setCache(19999);
            is("cached() without the oldest", x.cached(), 20000 - 208);
            is("ageOf(11, 0), the oldest", x.ageOf(11, 0), -1);
            is("ageOf(10, 0), the next one", x.ageOf(10, 0), 94);
            x.setCache(240);
            is("cached() of the newest", x.cached(), 240);
            x.setCache(239);
            is("cached() of none", x.cached(), 0);
        });
        sentence(38, "Returns how many versions in the CACHE are newer there (0 for the newest); -1 if it is not there.", () -> {
            PackWright x = fullCache();
            for (int of = 0; of < 12; of++) {
                for (int version = 0; version < 8; version++) {
                    // In each round 11 was put onto the disk first, and 0 last.
                    is("ageOf(" + of + ", " + version + ")", x.ageOf(of, version), 12 * (7 - version) + of);
                }
            }
            PackWright y = planOfSizes(10);
            is("ageOf(0, 0) ahead of run()", y.ageOf(0, 0), -1);
            y.run(1);
            is("ageOf(0, 0) of one", y.ageOf(0, 0), 0);
            y.setCache(9);
            is("ageOf(0, 0) of one that has gone", y.ageOf(0, 0), -1);
        });
        sentence(39, "Returns how many versions were FETCHED, with all plans together.", () -> {
            is("fetched() of none", new PackWright().fetched(), 0);
            PackWright x = fullCache();
            is("fetched() of all", x.fetched(), 96);
            installMajor(x, 1);
            is("fetched() with all of them in the CACHE", x.fetched(), 96);
            x.setCache(0);
            installMajor(x, 2);
            is("fetched() without a CACHE", x.fetched(), 108);
            install(x);
            is("fetched() behind REMOVE", x.fetched(), 108);
        });
        sentence(40, "Returns the sizes of what would be FETCHED, if the rest of the PLAN were done with all the room on the DISK "
                + "that it needs (the CACHE as it is, from which the oldest ones go); 0 without one; nothing is changed.",
                AnswerTests::wouldFetch);
    }

    /** All 96 versions are in the CACHE, and take all of its room. */
    private static PackWright fullCache() {
        PackWright x = rowsOfEight();
        x.setCache(20000);
        for (int major = 1; major <= 8; major++) {
            installMajor(x, major);
        }
        return x;
    }

    private static void wouldFetch() {
        is("wouldFetch() of nothing", new PackWright().wouldFetch(), 0);
        PackWright x = planOfSizes(10, 20, 30);
        x.setDisk(0);
        is("wouldFetch() of all, without room on the DISK", x.wouldFetch(), 60);
        is("wouldFetch() once more", x.wouldFetch(), 60);
        is("cached() behind it", x.cached(), 0);
        is("fetched() behind it", x.fetched(), 0);
        x.setDisk(5000);
        x.run(1);
        is("wouldFetch() of the rest", x.wouldFetch(), 50);
        PackWright small = planOfSizes(10, 20, 30);
        small.setCache(9);
        small.run(1);
        is("wouldFetch() of the rest, with what is done not in the CACHE", small.wouldFetch(), 50);
        x.run(2);
        is("wouldFetch() of none", x.wouldFetch(), 0);
        x.rollBack();
        is("wouldFetch() without a PLAN", x.wouldFetch(), 0);
        x.plan();
        is("wouldFetch() with all in the CACHE", x.wouldFetch(), 0);
        // With room for 59 the first one has gone; as it comes in the next one goes, and so on.
        x.setCache(59);
        is("wouldFetch() of what goes meanwhile", x.wouldFetch(), 60);
        is("cached() behind it", x.cached(), 50);
        is("ageOf(1, 0) behind it", x.ageOf(1, 0), 1);
        x.setCache(60);
        is("wouldFetch() of the one that has gone", x.wouldFetch(), 10);
        x.setCache(0);
        is("wouldFetch() without a CACHE", x.wouldFetch(), 60);
        x.run(3);
        dropWishes(x);
        x.resolve(0, 0);
        x.plan();
        is("wouldFetch() of REMOVE", x.wouldFetch(), 0);
        PackWright full = fullCache();
        wishOnly(full, 0, 1);
        full.resolve(0, 0);
        full.plan();
        is("wouldFetch() with all in a full CACHE", full.wouldFetch(), 0);
        full.setCache(19999);
        is("wouldFetch() with each going ahead of its use", full.wouldFetch(), 12 * 208);
        is("cached() behind it", full.cached(), 20000 - 208);
        PackWright most = rowOfGreatest();
        is("wouldFetch() of the most that there can be", most.wouldFetch(), 11988);
        is("roomNeeded() of the most that there can be", most.roomNeeded(), 11988);
    }

    private static void ofTheWhole() {
        sentence(42, "Returns whether INSTALLED is the LOCK.", () -> {
            PackWright x = rowOfTwelve();
            is("isInstalled() of nothing", x.isInstalled(), true);
            x.resolve(0, 0);
            is("isInstalled() of none of it", x.isInstalled(), false);
            x.plan();
            x.run(11);
            is("isInstalled() of all but the last", x.isInstalled(), false);
            x.run(1);
            is("isInstalled() of all", x.isInstalled(), true);
            x.publish(11, 0, 0, 0, 10);
            x.wish(11, 0, 3, 1, 0, 0);
            x.resolve(0, 0);
            is("isInstalled() of another version of the last", x.isInstalled(), false);
            install(x);
            is("isInstalled() of that", x.isInstalled(), true);
            dropWishes(x);
            x.resolve(0, 0);
            is("isInstalled() with nothing locked", x.isInstalled(), false);
            x.plan();
            x.run(11);
            is("isInstalled() with all but one removed", x.isInstalled(), false);
            x.run(1);
            is("isInstalled() with nothing locked, and nothing INSTALLED", x.isInstalled(), true);
        });
        sentence(43, "Returns the mean size of all versions, not cut; 0 without any.", () -> {
            is("meanSize() without packages", new PackWright().meanSize(), 0.0);
            is("meanSize() without versions", withPackages(12).meanSize(), 0.0);
            PackWright x = withPackages(12);
            x.publish(11, 0, 0, 0, 999);
            is("meanSize() of the greatest", x.meanSize(), 999.0);
            x.publish(0, 0, 0, 0, 1);
            x.publish(0, 0, 0, 1, 1);
            is("meanSize(), not cut", x.meanSize(), 1001.0 / 3.0);
            is("meanSize() of 96", rowsOfEight().meanSize(), 20000.0 / 96.0);
            PackWright y = withPackages(1);
            y.publish(0, 0, 0, 0, 1);
            is("meanSize() of the least", y.meanSize(), 1.0);
            y.publish(0, 0, 0, 1, 2);
            y.withdraw(0, 0, true);
            is("meanSize() with one WITHDRAWN", y.meanSize(), 1.5);
        });
        sentence(44, "A number d starts with 58044; for each of the following numbers x, d becomes d * 31 + x, "
                + "which wraps around as a 64-bit integer (whether something is so counts 1 or 0)", AnswerTests::wrapsAround);
        sentence(44, "for each package, by numbers, versions(), each versionAt(), locked(), featuresOf(), depth(), "
                + "each package of the chain that is told for it, neededBy(), newer(), installed(), "
                + "and for each version ageOf(); for each STEP kindOf(), packageOf().", () -> {
            PackWright[] objects = {
                new PackWright(), withPackages(12), withSingles(12), rowOfTwelve(), rowOfTwelve(), halfwayProject(),
                halfwayProject(), hardProject(false), planOfSizes(999, 999, 999, 999, 999, 999), fullRegistry(), fullRegistry(),
            };
            for (int i = 0; i < objects.length; i++) {
                if (i % 2 == 0) {
                    install(objects[i]);
                }
                is("digest() of object " + i, objects[i].digest(), unbounded(objects[i]).longValue());
            }
        });
        sentence(44, "Returns d.", () -> {
            PackWright x = halfwayProject();
            is("digest()", x.digest(), unbounded(x).longValue());
            is("digest() once more", x.digest(), unbounded(x).longValue());
            is("digest() of what is made alike", halfwayProject().digest(), x.digest());
        });
    }

    /** 12 packages with 8 versions each, and 6 WISHES. */
    private static PackWright fullRegistry() {
        PackWright x = withPackages(12);
        for (int of = 0; of < 12; of++) {
            publishMajors(x, of, 8);
        }
        for (int wish = 0; wish < 6; wish++) {
            x.wish(2 * wish, wish, 3, wish + 2, 0, 0);
        }
        return x;
    }

    /** The 10th number takes d beyond 64 bits already; what is told then can be less than 0. */
    private static void wrapsAround() {
        BigInteger ten = then(BigInteger.valueOf(58044), 0, 0, 0, 0, 1, 0, 0, 0, 0, 0);
        is("d of 10 numbers is beyond 64 bits", ten.bitLength() > 64, true);
        is("d of 9 numbers is beyond a long", ten.divide(BigInteger.valueOf(31)).bitLength() > 63, false);
        boolean wasNegative = false;
        boolean wasPositive = false;
        for (int packages = 0; packages <= 12; packages++) {
            PackWright x = withSingles(packages);
            long d = x.digest();
            wasNegative |= d < 0;
            wasPositive |= d > 0;
            is("digest() of " + packages + " packages", d, unbounded(x).longValue());
        }
        is("digest() is less than 0 once", wasNegative, true);
        is("digest() is more than 0 once", wasPositive, true);
    }

    /** The checksum as a number that never wraps around, of what the other calls answer. */
    private static BigInteger unbounded(PackWright x) {
        int[] whole = {
            x.packages(), x.wishes(), x.tries(), x.lockedPackages(), x.isSound() ? 1 : 0, x.idle(), x.steps(), x.taken(),
            x.cached(), x.fetched(), x.wouldFetch(), x.roomNeeded(), x.isInstalled() ? 1 : 0,
        };
        BigInteger d = then(BigInteger.valueOf(58044), whole);
        for (int of = 0; of < x.packages(); of++) {
            int versions = x.versions(of);
            d = then(d, versions);
            for (int place = 0; place < versions; place++) {
                d = then(d, x.versionAt(of, place));
            }
            d = then(d, x.locked(of), x.featuresOf(of), x.depth(of));
            int link = x.chainAt(of, 0);
            for (int place = 1; link != -1; place++) {
                d = then(d, link);
                link = x.chainAt(of, place);
            }
            d = then(d, x.neededBy(of), x.newer(of), x.installed(of));
            for (int version = 0; version < versions; version++) {
                d = then(d, x.ageOf(of, version));
            }
        }
        int steps = x.steps();
        for (int step = 0; step < steps; step++) {
            d = then(d, x.kindOf(step), x.packageOf(step));
        }
        return d;
    }

    private static BigInteger then(BigInteger start, int... numbers) {
        BigInteger d = start;
        for (int number : numbers) {
            d = d.multiply(BigInteger.valueOf(31)).add(BigInteger.valueOf(number));
        }
        return d;
    }
}
