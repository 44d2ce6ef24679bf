import java.util.Arrays;

/**
 * Each refused call: with which exception, next to what is let in and far from it; which
 * exception comes first where several apply; and that nothing is changed by any of them.
 */
public final class RefusalTests extends SentenceTests {
    private static final String NAMED_FIRST =
            "If several exceptions apply, the one that is named first is thrown.";
    private static final String CHANGES_NOTHING = "A method that throws an exception changes nothing.";

    private static final String NO_PACKAGE = "Throws `IndexOutOfBoundsException` if there is no such package";
    private static final String NO_VERSION = "Throws `IndexOutOfBoundsException` if there is no such package, or version";
    private static final String NO_STEP = "Throws `IndexOutOfBoundsException` if there is no such STEP";
    private static final String NO_PLAN = "Throws `IllegalStateException` if there is no PLAN";
    private static final String WRONG_ROOM = "Throws `IllegalArgumentException` if room is not 0 to 20000";

    private static int refusals = 0;

    private RefusalTests() { }

    /** In which state the object is that refuses a call. */
    private enum Scene {
        NEW, NO_VERSIONS, FULL, HALFWAY, ROLLED_BACK, RESOLVED, PLAN_OF_NOTHING;

        private String toldOfIt = "";

        PackWright made() {
            return switch (this) {
                case NEW -> new PackWright();
                case NO_VERSIONS -> withPackages(PACKAGES);
                case FULL -> fullWithPlan();
                case HALFWAY -> halfwayProject();
                case ROLLED_BACK -> rolledBack();
                case RESOLVED -> resolvedOnceMore();
                case PLAN_OF_NOTHING -> withPlanOfNothing();
            };
        }

        int packages() {
            return made().packages();
        }

        int versions(int of) {
            return made().versions(of);
        }

        /** What is told of it, if no call was refused. */
        String toldOfIt() {
            if (toldOfIt.isEmpty()) {
                toldOfIt = told(made());
            }
            return toldOfIt;
        }
    }

    private static PackWright fullWithPlan() {
        PackWright x = fullProject();
        x.resolve(0, 0);
        x.plan();
        x.run(5);
        return x;
    }

    private static PackWright rolledBack() {
        PackWright x = halfwayProject();
        x.rollBack();
        return x;
    }

    private static PackWright resolvedOnceMore() {
        PackWright x = halfwayProject();
        x.resolve(0, 0);
        return x;
    }

    private static PackWright withPlanOfNothing() {
        PackWright x = withPackages(2);
        x.plan();
        return x;
    }

    /** A call with one argument that matters. */
    private interface CallWith {
        Object on(PackWright x, int argument);
    }

    /** Some 200 calls that tell all that an object holds, by what it answers and by what it does. */
    private static String told(PackWright x) {
        StringBuilder told = new StringBuilder();
        tell(told, x, y -> y.core(), y -> y.meanSize(), y -> y.digest());
        for (int of = 0; of <= PACKAGES; of++) {
            int package0 = of;
            tell(told, x, y -> y.letIn(package0, 2, 2, 0, 0), y -> y.wouldChange(package0));
        }
        tell(told, x, y -> y.run(1), y -> y.digest(), y -> y.run(1), y -> y.digest(), y -> y.rollBack(), y -> y.digest(),
                y -> y.setDisk(5000), y -> y.setCache(2000));
        tell(told, x, y -> y.resolve(0, 0), y -> y.digest(), y -> y.resolve(1, 0), y -> y.plan(), y -> y.run(12), y -> y.digest());
        for (int of = 0; of < PACKAGES; of++) {
            tellOfPackage(told, x, of);
        }
        tell(told, x, y -> y.wish(0, 15, 0, 0, 0, 0), y -> y.resolve(3, 0), y -> y.plan(), y -> y.run(12), y -> y.digest());
        tell(told, x, y -> y.dropWish(0), y -> y.resolve(1, 0), y -> y.isSound(), y -> y.addPackage(), y -> y.digest());
        return told.toString();
    }

    /** Its versions that are withdrawn, and the numbers that a version, a need and a clash get. */
    private static void tellOfPackage(StringBuilder told, PackWright x, int of) {
        int versions = of < x.packages() ? x.versions(of) : 0;
        for (int version = 0; version < versions; version++) {
            int number = version;
            tell(told, x, y -> y.withdraw(of, number, false));
        }
        int other = (of + 1) % PACKAGES;
        tell(told, x, y -> y.need(of, other, 0, 1, 0, 0, 0, 0), y -> y.clash(of, other, 3, 0, 0, 0),
                y -> y.publish(of, 98, 97, 96, 5));
    }

    private static void tell(StringBuilder told, PackWright x, Call... calls) {
        for (Call call : calls) {
            told.append(answer(call, x)).append(' ');
        }
    }

    private static void refused(Scene scene, Class<? extends RuntimeException> due, String what, Call call) {
        refusals++;
        PackWright x = scene.made();
        refuses(x, due, scene + ", " + what, call);
        if (!told(x).equals(scene.toldOfIt())) {
            fails(scene + ", " + what + " changes something");
        }
    }

    /** The next values beyond those that are let in, and the farthest ones. */
    private static int[] beyond(int least, int most) {
        return new int[] {least - 1, most + 1, Integer.MIN_VALUE, Integer.MAX_VALUE};
    }

    private static void letsIn(Scene scene, Class<? extends RuntimeException> due, String name, int least, int most,
            CallWith call) {
        for (int wrong : beyond(least, most)) {
            refused(scene, due, name + " " + wrong, x -> call.on(x, wrong));
        }
        for (int right = least; right <= most; right += Math.max(1, most - least)) {
            int argument = right;
            Object got = answer(x -> call.on(x, argument), scene.made());
            is(scene + ", " + name + " " + right + " is refused so", got.equals("throws." + due.getSimpleName()), false);
        }
    }

    private static void letsPackagesIn(String name, CallWith call) {
        for (Scene scene : Scene.values()) {
            letsIn(scene, INDEX, name, 0, scene.packages() - 1, call);
        }
    }

    /** A call that takes a package, and a version of it or a place in its row. */
    private interface CallOfVersion {
        Object on(PackWright x, int of, int version);
    }

    private static void letsVersionsIn(String name, CallOfVersion call) {
        for (Scene scene : Scene.values()) {
            int end = scene.packages();
            for (int none : beyond(0, end - 1)) {
                refused(scene, INDEX, name + " of package " + none, x -> call.on(x, none, 0));
                refused(scene, INDEX, name + " of package " + none + ", -1", x -> call.on(x, none, -1));
            }
            for (int p = 0; p < end; p += Math.max(1, end / 3)) {
                int of = p;
                letsIn(scene, INDEX, name + " of package " + of, 0, scene.versions(of) - 1,
                        (x, version) -> call.on(x, of, version));
            }
        }
    }

    /** A call that takes a range. */
    private interface CallWithRange {
        Object on(PackWright x, int kind, int major, int minor, int patch);
    }

    private static void letsRangesIn(CallWithRange call) {
        Scene scene = Scene.HALFWAY;
        letsIn(scene, ARGUMENT, "kind", 0, 5, (x, kind) -> call.on(x, kind, 0, 0, 0));
        for (int kind = 0; kind <= 5; kind++) {
            int ofIt = kind;
            letsIn(scene, ARGUMENT, "major, kind " + kind, 0, 99, (x, major) -> call.on(x, ofIt, major, 0, 0));
            letsIn(scene, ARGUMENT, "minor, kind " + kind, 0, 99, (x, minor) -> call.on(x, ofIt, 0, minor, 0));
            letsIn(scene, ARGUMENT, "patch, kind " + kind, 0, 99, (x, patch) -> call.on(x, ofIt, 0, 0, patch));
        }
    }

    /** Each range that is wrong in one of its four numbers is refused so, whatever else would be refused later. */
    private static void wrongRangesFirst(Scene scene, Class<? extends RuntimeException> due, CallWithRange call) {
        int[][] ranges = {{6, 0, 0, 0}, {-1, 0, 0, 0}, {0, 100, 0, 0}, {0, -1, 0, 0},
            {1, 0, 100, 0}, {1, 0, -1, 0}, {2, 0, 0, 100}, {2, 0, 0, -1}, {6, 100, -1, 100}};
        for (int[] r : ranges) {
            refused(scene, due, "range " + Arrays.toString(r), x -> call.on(x, r[0], r[1], r[2], r[3]));
        }
    }

    public static void main(String[] args) {
        ofAddPackageAndPublish();
        ofNeedAndClash();
        ofTheRegistry();
        ofTheProject();
        ofTheLock();
        ofInstalling();
        sentence(TERMS, CHANGES_NOTHING, RefusalTests::allScenesAreTold);
        mustHaveNamedAll("Throws");
        System.out.println(refusals + " calls were refused");
        end();
    }

    // ---- the registry

    private static void ofAddPackageAndPublish() {
        sentence(2, "Throws `IllegalStateException` if there are 12", () -> {
            refused(Scene.FULL, STATE, "addPackage()", x -> x.addPackage());
            refused(Scene.NO_VERSIONS, STATE, "addPackage()", x -> x.addPackage());
            is("the 12th", withPackages(11).addPackage(), 11);
        });
        sentence(3, NO_PACKAGE, () -> letsPackagesIn("publish() of package", (x, of) -> x.publish(of, 50, 50, 50, 5)));
        sentence(3, "Throws `IllegalArgumentException` if one of the three numbers is not 0 to 99, or size is not 1 to 999", () -> {
            Scene scene = Scene.HALFWAY;
            letsIn(scene, ARGUMENT, "major", 0, 99, (x, major) -> x.publish(0, major, 50, 50, 5));
            letsIn(scene, ARGUMENT, "minor", 0, 99, (x, minor) -> x.publish(0, 50, minor, 50, 5));
            letsIn(scene, ARGUMENT, "patch", 0, 99, (x, patch) -> x.publish(0, 50, 50, patch, 5));
            letsIn(scene, ARGUMENT, "size", 1, 999, (x, size) -> x.publish(0, 50, 50, 50, size));
        });
        sentence(3, "Throws `IllegalStateException` if the package has 8 versions, or one with these numbers", () -> {
            refused(Scene.FULL, STATE, "the 9th version of 0", x -> x.publish(0, 50, 50, 50, 5));
            refused(Scene.FULL, STATE, "the 9th version of 11", x -> x.publish(11, 50, 50, 50, 5));
            refused(Scene.FULL, STATE, "the 9th, with numbers that are there", x -> x.publish(0, 1, 0, 0, 10));
            refused(Scene.HALFWAY, STATE, "numbers of the first version", x -> x.publish(1, 1, 0, 0, 5));
            refused(Scene.HALFWAY, STATE, "numbers of the latest version", x -> x.publish(1, 2, 5, 0, 35));
            refused(Scene.HALFWAY, STATE, "numbers of a withdrawn one", x -> x.publish(0, 1, 0, 0, 5));
        });
        sentence(TERMS, NAMED_FIRST, () -> {
            for (int of : beyond(0, 11)) {
                refused(Scene.FULL, INDEX, "publish() of no package, major 100", x -> x.publish(of, 100, 0, 0, 5));
                refused(Scene.FULL, INDEX, "publish() of no package, size 0", x -> x.publish(of, 1, 0, 0, 0));
            }
            refused(Scene.FULL, ARGUMENT, "the 9th version, major 100", x -> x.publish(0, 100, 0, 0, 5));
            refused(Scene.FULL, ARGUMENT, "the 9th version, minor -1", x -> x.publish(0, 9, -1, 0, 5));
            refused(Scene.FULL, ARGUMENT, "the 9th version, patch 100", x -> x.publish(0, 9, 0, 100, 5));
            refused(Scene.FULL, ARGUMENT, "the 9th version, size 1000", x -> x.publish(0, 9, 0, 0, 1000));
            refused(Scene.HALFWAY, ARGUMENT, "numbers that are there, size 0", x -> x.publish(1, 1, 0, 0, 0));
        });
    }

    private static void ofNeedAndClash() {
        sentence(4, "Throws `IndexOutOfBoundsException` if there is no such package (of, or needed)", () -> {
            letsPackagesIn("need() of package", (x, of) -> x.need(of, of == 0 ? 1 : 0, -1, 0, 0, 0, 0, 0));
            letsPackagesIn("need() for package", (x, needed) -> x.need(needed == 0 ? 1 : 0, needed, -1, 0, 0, 0, 0, 0));
        });
        sentence(4, "Throws `IllegalArgumentException` if both are the same, condition is not -1 to 3, features is not 0 to 15, "
                + "kind is not 0 to 5, or one of the three numbers is not 0 to 99", RefusalTests::wrongNeeds);
        sentence(4, "Throws `IllegalStateException` if of has no version, or the latest one has 5 NEEDS", () -> {
            refused(Scene.NO_VERSIONS, STATE, "need() of 0 for 1", x -> x.need(0, 1, -1, 0, 0, 0, 0, 0));
            refused(Scene.NO_VERSIONS, STATE, "need() of 11 for 0", x -> x.need(11, 0, 3, 15, 5, 99, 99, 99));
            refused(Scene.FULL, STATE, "the 6th NEED of 0", x -> x.need(0, 1, -1, 0, 0, 0, 0, 0));
            refused(Scene.FULL, STATE, "the 6th NEED of 11", x -> x.need(11, 0, 3, 15, 5, 99, 99, 99));
        });
        sentence(TERMS, NAMED_FIRST, RefusalTests::needsNamedFirst);
        sentence(5, "Throws `IndexOutOfBoundsException` if there is no such package (of, or other)", () -> {
            letsPackagesIn("clash() of package", (x, of) -> x.clash(of, of == 0 ? 1 : 0, 0, 0, 0, 0));
            letsPackagesIn("clash() with package", (x, other) -> x.clash(other == 0 ? 1 : 0, other, 0, 0, 0, 0));
        });
        sentence(5, "Throws `IllegalArgumentException` if both are the same, kind is not 0 to 5, "
                + "or one of the three numbers is not 0 to 99", () -> {
            for (int of = 0; of < Scene.HALFWAY.packages(); of++) {
                int both = of;
                refused(Scene.HALFWAY, ARGUMENT, "clash() of " + of + " with itself", x -> x.clash(both, both, 0, 0, 0, 0));
            }
            letsRangesIn((x, kind, major, minor, patch) -> x.clash(0, 1, kind, major, minor, patch));
        });
        sentence(5, "Throws `IllegalStateException` if of has no version, or the latest one has 3 CLASHES", () -> {
            refused(Scene.NO_VERSIONS, STATE, "clash() of 0 with 1", x -> x.clash(0, 1, 0, 0, 0, 0));
            refused(Scene.NO_VERSIONS, STATE, "clash() of 11 with 0", x -> x.clash(11, 0, 5, 99, 99, 99));
            refused(Scene.FULL, STATE, "the 4th CLASH of 0", x -> x.clash(0, 1, 0, 0, 0, 0));
            refused(Scene.FULL, STATE, "the 4th CLASH of 11", x -> x.clash(11, 0, 5, 99, 99, 99));
        });
        sentence(TERMS, NAMED_FIRST, RefusalTests::clashesNamedFirst);
    }

    private static void wrongNeeds() {
        Scene scene = Scene.HALFWAY;
        for (int of = 0; of < scene.packages(); of++) {
            int both = of;
            refused(scene, ARGUMENT, "need() of " + of + " for itself", x -> x.need(both, both, -1, 0, 0, 0, 0, 0));
        }
        letsIn(scene, ARGUMENT, "condition", -1, 3, (x, condition) -> x.need(0, 1, condition, 0, 0, 0, 0, 0));
        letsIn(scene, ARGUMENT, "features", 0, 15, (x, features) -> x.need(0, 1, -1, features, 0, 0, 0, 0));
        letsRangesIn((x, kind, major, minor, patch) -> x.need(0, 1, -1, 0, kind, major, minor, patch));
    }

    private static void needsNamedFirst() {
        for (Scene scene : new Scene[] {Scene.FULL, Scene.NO_VERSIONS}) {
            for (int none : beyond(0, 11)) {
                refused(scene, INDEX, "need() of no package for itself", x -> x.need(none, none, -1, 0, 0, 0, 0, 0));
                refused(scene, INDEX, "need() of no package, wrong", x -> x.need(none, 0, -2, 16, 6, 100, 100, 100));
                refused(scene, INDEX, "need() for no package, condition 4", x -> x.need(0, none, 4, 0, 0, 0, 0, 0));
                refused(scene, INDEX, "need() for no package, features -1", x -> x.need(0, none, -1, -1, 0, 0, 0, 0));
                refused(scene, INDEX, "need() for no package", x -> x.need(0, none, -1, 0, 0, 0, 0, 0));
            }
            wrongRangesFirst(scene, INDEX, (x, kind, a, b, c) -> x.need(0, 12, -1, 0, kind, a, b, c));
            wrongRangesFirst(scene, ARGUMENT, (x, kind, a, b, c) -> x.need(0, 1, -1, 0, kind, a, b, c));
            refused(scene, ARGUMENT, "need() for itself that would be refused", x -> x.need(0, 0, -1, 0, 0, 0, 0, 0));
            refused(scene, ARGUMENT, "condition -2", x -> x.need(0, 1, -2, 0, 0, 0, 0, 0));
            refused(scene, ARGUMENT, "condition 4", x -> x.need(0, 1, 4, 0, 0, 0, 0, 0));
            refused(scene, ARGUMENT, "features -1", x -> x.need(0, 1, -1, -1, 0, 0, 0, 0));
            refused(scene, ARGUMENT, "features 16", x -> x.need(0, 1, -1, 16, 0, 0, 0, 0));
        }
    }

    private static void clashesNamedFirst() {
        for (Scene scene : new Scene[] {Scene.FULL, Scene.NO_VERSIONS}) {
            for (int none : beyond(0, 11)) {
                refused(scene, INDEX, "clash() of no package with itself", x -> x.clash(none, none, 0, 0, 0, 0));
                refused(scene, INDEX, "clash() of no package, kind 6", x -> x.clash(none, 0, 6, 0, 0, 0));
                refused(scene, INDEX, "clash() with no package", x -> x.clash(0, none, 0, 0, 0, 0));
            }
            wrongRangesFirst(scene, INDEX, (x, kind, a, b, c) -> x.clash(0, 12, kind, a, b, c));
            wrongRangesFirst(scene, ARGUMENT, (x, kind, a, b, c) -> x.clash(0, 1, kind, a, b, c));
            refused(scene, ARGUMENT, "clash() with itself that would be refused", x -> x.clash(0, 0, 0, 0, 0, 0));
        }
    }

    private static void ofTheRegistry() {
        sentence(6, NO_VERSION, () -> {
            letsVersionsIn("withdraw()", (x, of, version) -> x.withdraw(of, version, true));
            letsVersionsIn("withdraw() back", (x, of, version) -> x.withdraw(of, version, false));
        });
        sentence(8, NO_PACKAGE, () -> letsPackagesIn("versions() of package", (x, of) -> x.versions(of)));
        sentence(9, "Throws `IndexOutOfBoundsException` if there is no such package, or place",
                () -> letsVersionsIn("versionAt()", (x, of, place) -> x.versionAt(of, place)));
        sentence(10, NO_PACKAGE, () -> letsPackagesIn("letIn() of package", (x, of) -> x.letIn(of, 0, 0, 0, 0)));
        sentence(10, "Throws `IllegalArgumentException` if kind is not 0 to 5, or one of the three numbers is not 0 to 99",
                () -> letsRangesIn((x, kind, major, minor, patch) -> x.letIn(0, kind, major, minor, patch)));
        sentence(TERMS, NAMED_FIRST, () -> {
            wrongRangesFirst(Scene.NEW, INDEX, (x, kind, a, b, c) -> x.letIn(0, kind, a, b, c));
            wrongRangesFirst(Scene.FULL, INDEX, (x, kind, a, b, c) -> x.letIn(12, kind, a, b, c));
            wrongRangesFirst(Scene.FULL, INDEX, (x, kind, a, b, c) -> x.letIn(-1, kind, a, b, c));
            wrongRangesFirst(Scene.NO_VERSIONS, ARGUMENT, (x, kind, a, b, c) -> x.letIn(0, kind, a, b, c));
        });
    }

    // ---- the project

    private static void ofTheProject() {
        sentence(11, NO_PACKAGE, () -> letsPackagesIn("wish() for package", (x, of) -> x.wish(of, 0, 0, 0, 0, 0)));
        sentence(11, "Throws `IllegalArgumentException` if features is not 0 to 15, kind is not 0 to 5, "
                + "or one of the three numbers is not 0 to 99", () -> {
            letsIn(Scene.HALFWAY, ARGUMENT, "features", 0, 15, (x, features) -> x.wish(0, features, 0, 0, 0, 0));
            letsRangesIn((x, kind, major, minor, patch) -> x.wish(0, 0, kind, major, minor, patch));
        });
        sentence(11, "Throws `IllegalStateException` if there are 6", () -> {
            refused(Scene.FULL, STATE, "the 7th WISH", x -> x.wish(0, 0, 0, 0, 0, 0));
            refused(Scene.FULL, STATE, "the 7th WISH, as great as can be", x -> x.wish(11, 15, 5, 99, 99, 99));
            PackWright x = fullProject();
            x.dropWish(5);
            is("the 6th WISH", x.wish(11, 15, 5, 99, 99, 99), 5);
        });
        sentence(TERMS, NAMED_FIRST, () -> {
            for (int none : beyond(0, 11)) {
                refused(Scene.FULL, INDEX, "the 7th WISH, for no package", x -> x.wish(none, 0, 0, 0, 0, 0));
                refused(Scene.FULL, INDEX, "the 7th WISH, for no package, wrong", x -> x.wish(none, 16, 6, 100, 100, 100));
            }
            refused(Scene.HALFWAY, INDEX, "wish() for no package, features 16", x -> x.wish(5, 16, 0, 0, 0, 0));
            wrongRangesFirst(Scene.HALFWAY, INDEX, (x, kind, a, b, c) -> x.wish(5, 0, kind, a, b, c));
            wrongRangesFirst(Scene.FULL, ARGUMENT, (x, kind, a, b, c) -> x.wish(0, 0, kind, a, b, c));
            refused(Scene.FULL, ARGUMENT, "the 7th WISH, features 16", x -> x.wish(0, 16, 0, 0, 0, 0));
            refused(Scene.FULL, ARGUMENT, "the 7th WISH, features -1", x -> x.wish(0, -1, 0, 0, 0, 0));
        });
        sentence(12, "Throws `IndexOutOfBoundsException` if there is no such WISH", () -> {
            for (Scene scene : Scene.values()) {
                letsIn(scene, INDEX, "dropWish()", 0, scene.made().wishes() - 1, (x, wish) -> x.dropWish(wish));
            }
        });
        sentence(14, "Throws `IllegalArgumentException` if open is not 0 to 3", () -> {
            for (Scene scene : Scene.values()) {
                letsIn(scene, ARGUMENT, "open", 0, 3, (x, open) -> x.resolve(open, 0));
            }
        });
        sentence(14, "Throws `IndexOutOfBoundsException` if there is no such package, with open 2 and 3", () -> {
            letsPackagesIn("resolve(2, ..) of package", (x, of) -> x.resolve(2, of));
            letsPackagesIn("resolve(3, ..) of package", (x, of) -> x.resolve(3, of));
        });
        sentence(14, "(with open 0 and 1 it says nothing)", () -> {
            for (int none : beyond(0, 4)) {
                is("resolve(0, " + none + ")", answer(x -> x.resolve(0, none), Scene.HALFWAY.made()), 0);
                is("resolve(1, " + none + ")", answer(x -> x.resolve(1, none), Scene.HALFWAY.made()), 0);
                is("resolve(0, " + none + ") without packages", answer(x -> x.resolve(0, none), Scene.NEW.made()), 0);
                is("resolve(1, " + none + ") without packages", answer(x -> x.resolve(1, none), Scene.NEW.made()), 0);
            }
        });
        sentence(TERMS, NAMED_FIRST, () -> {
            for (int open : beyond(0, 3)) {
                refused(Scene.NEW, ARGUMENT, "resolve(" + open + ", 0) without packages", x -> x.resolve(open, 0));
                refused(Scene.FULL, ARGUMENT, "resolve(" + open + ", 12)", x -> x.resolve(open, 12));
                refused(Scene.FULL, ARGUMENT, "resolve(" + open + ", -1)", x -> x.resolve(open, -1));
            }
        });
    }

    private static void ofTheLock() {
        sentence(16, NO_PACKAGE, () -> letsPackagesIn("locked() of package", (x, of) -> x.locked(of)));
        sentence(18, NO_PACKAGE, () -> letsPackagesIn("featuresOf() package", (x, of) -> x.featuresOf(of)));
        sentence(22, NO_PACKAGE, () -> letsPackagesIn("depth() of package", (x, of) -> x.depth(of)));
        sentence(23, NO_PACKAGE, () -> letsPackagesIn("chainAt() of package", (x, of) -> x.chainAt(of, 0)));
        sentence(23, "Throws `IllegalArgumentException` if place is less than 0", () -> {
            for (Scene scene : new Scene[] {Scene.NO_VERSIONS, Scene.FULL, Scene.HALFWAY}) {
                refused(scene, ARGUMENT, "chainAt(0, -1)", x -> x.chainAt(0, -1));
                refused(scene, ARGUMENT, "chainAt(1, -2147483648)", x -> x.chainAt(1, Integer.MIN_VALUE));
                is("chainAt(3, 2147483647)", answer(x -> x.chainAt(3, Integer.MAX_VALUE), scene.made()), -1);
            }
            is("chainAt(1, 0)", Scene.HALFWAY.made().chainAt(1, 0), 1);
        });
        sentence(TERMS, NAMED_FIRST, () -> {
            refused(Scene.NEW, INDEX, "chainAt(0, -1) without packages", x -> x.chainAt(0, -1));
            refused(Scene.FULL, INDEX, "chainAt(12, -1)", x -> x.chainAt(12, -1));
            refused(Scene.FULL, INDEX, "chainAt(-1, -1)", x -> x.chainAt(-1, -1));
        });
        sentence(24, NO_PACKAGE, () -> letsPackagesIn("neededBy() package", (x, of) -> x.neededBy(of)));
        sentence(25, NO_PACKAGE, () -> letsPackagesIn("newer() of package", (x, of) -> x.newer(of)));
        sentence(26, NO_PACKAGE, () -> letsPackagesIn("wouldChange() of package", (x, of) -> x.wouldChange(of)));
    }

    // ---- installing

    private static void ofInstalling() {
        Scene[] withoutPlan = {Scene.NEW, Scene.NO_VERSIONS, Scene.ROLLED_BACK, Scene.RESOLVED};
        sentence(27, WRONG_ROOM, () -> {
            letsIn(Scene.NEW, ARGUMENT, "setDisk()", 0, 20000, (x, room) -> x.setDisk(room));
            letsIn(Scene.HALFWAY, ARGUMENT, "setDisk()", 0, 20000, (x, room) -> x.setDisk(room));
        });
        sentence(28, WRONG_ROOM, () -> {
            letsIn(Scene.NEW, ARGUMENT, "setCache()", 0, 20000, (x, room) -> x.setCache(room));
            letsIn(Scene.HALFWAY, ARGUMENT, "setCache()", 0, 20000, (x, room) -> x.setCache(room));
        });
        sentence(31, NO_STEP, () -> {
            for (Scene scene : Scene.values()) {
                letsIn(scene, INDEX, "kindOf()", 0, scene.made().steps() - 1, (x, step) -> x.kindOf(step));
            }
        });
        sentence(32, NO_STEP, () -> {
            for (Scene scene : Scene.values()) {
                letsIn(scene, INDEX, "packageOf()", 0, scene.made().steps() - 1, (x, step) -> x.packageOf(step));
            }
        });
        sentence(33, "Throws `IllegalArgumentException` if most is less than 0", () -> {
            refused(Scene.HALFWAY, ARGUMENT, "run(-1)", x -> x.run(-1));
            refused(Scene.HALFWAY, ARGUMENT, "run(-2147483648)", x -> x.run(Integer.MIN_VALUE));
            refused(Scene.PLAN_OF_NOTHING, ARGUMENT, "run(-1)", x -> x.run(-1));
            is("run(0)", answer(x -> x.run(0), Scene.HALFWAY.made()), 1);
        });
        sentence(33, NO_PLAN, () -> {
            for (Scene scene : withoutPlan) {
                refused(scene, STATE, "run(0)", x -> x.run(0));
                refused(scene, STATE, "run(1)", x -> x.run(1));
                refused(scene, STATE, "run(2147483647)", x -> x.run(Integer.MAX_VALUE));
            }
        });
        sentence(TERMS, NAMED_FIRST, () -> {
            for (Scene scene : withoutPlan) {
                refused(scene, ARGUMENT, "run(-1) without a PLAN", x -> x.run(-1));
                refused(scene, ARGUMENT, "run(-2147483648) without a PLAN", x -> x.run(Integer.MIN_VALUE));
            }
        });
        sentence(34, NO_PLAN, () -> {
            for (Scene scene : withoutPlan) {
                refused(scene, STATE, "rollBack()", x -> x.rollBack());
            }
        });
        sentence(35, NO_PACKAGE, () -> letsPackagesIn("installed() of package", (x, of) -> x.installed(of)));
        sentence(38, NO_VERSION, () -> letsVersionsIn("ageOf()", (x, of, version) -> x.ageOf(of, version)));
    }

    /** What is told of the scenes tells them apart, and tells of each what a change of it would change. */
    private static void allScenesAreTold() {
        String told = Scene.HALFWAY.toldOfIt();
        Call[] changes = {
            x -> x.addPackage(), x -> x.publish(2, 3, 0, 0, 5), x -> x.need(2, 3, -1, 0, 0, 0, 0, 0),
            x -> x.clash(2, 3, 0, 0, 0, 0), x -> x.withdraw(2, 0, true), x -> x.withdraw(0, 0, false),
            x -> x.wish(2, 0, 0, 0, 0, 0), x -> x.dropWish(0), x -> x.resolve(0, 0), x -> x.setDisk(126),
            x -> x.setCache(96), x -> x.plan(), x -> x.run(1), x -> x.rollBack(),
        };
        for (int i = 0; i < changes.length; i++) {
            PackWright x = Scene.HALFWAY.made();
            answer(changes[i], x);
            is("what is told behind change " + i + " is as it was", told(x).equals(told), false);
        }
        for (Scene scene : Scene.values()) {
            is(scene + " told twice is the same", told(scene.made()), scene.toldOfIt());
        }
    }
}
