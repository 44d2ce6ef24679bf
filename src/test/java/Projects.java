/** Registries and projects that the tests begin with. */
abstract class Projects {
    static final int PACKAGES = 12;
    static final int VERSIONS = 8;
    static final int NEEDS = 5;
    static final int CLASHES = 3;
    static final int WISHES = 6;

    /** How many calls fullProject() makes. */
    static final int FULL_CALLS = PACKAGES * (1 + VERSIONS + NEEDS + CLASHES) + WISHES;

    static PackWright withPackages(int count) {
        PackWright x = new PackWright();
        for (int i = 0; i < count; i++) {
            x.addPackage();
        }
        return x;
    }

    /** Publishes versions with the majors 1 to count and the size 10. */
    static void publishMajors(PackWright x, int of, int count) {
        for (int major = 1; major <= count; major++) {
            x.publish(of, major, 0, 0, 10);
        }
    }

    /** Packages with versions of the majors 1 to the count that is told for each, and a wish for each of them. */
    static PackWright withWishedMajors(int... counts) {
        PackWright x = withPackages(counts.length);
        for (int of = 0; of < counts.length; of++) {
            publishMajors(x, of, counts[of]);
            wishAny(x, of);
        }
        return x;
    }

    /** Packages with one version 1.0.0 each, package p of the size 10 * (p + 1). */
    static PackWright withSingles(int count) {
        PackWright x = withPackages(count);
        for (int of = 0; of < count; of++) {
            x.publish(of, 1, 0, 0, 10 * (of + 1));
        }
        return x;
    }

    /** Packages with one version each, of the sizes that are told, all wished for and locked, with a plan. */
    static PackWright planOfSizes(int... sizes) {
        PackWright x = withPackages(sizes.length);
        for (int of = 0; of < sizes.length; of++) {
            x.publish(of, 1, 0, 0, sizes[of]);
            wishAny(x, of);
        }
        x.resolve(0, 0);
        x.plan();
        return x;
    }

    static void needAny(PackWright x, int of, int needed) {
        x.need(of, needed, -1, 0, 0, 0, 0, 0);
    }

    static void wishAny(PackWright x, int of) {
        x.wish(of, 0, 0, 0, 0, 0);
    }

    static void wishOnly(PackWright x, int of, int major) {
        x.wish(of, 0, 1, major, 0, 0);
    }

    static void dropWishes(PackWright x) {
        while (x.wishes() > 0) {
            x.dropWish(0);
        }
    }

    /** Resolves, plans, and does all of the plan. */
    static void install(PackWright x) {
        x.resolve(0, 0);
        x.plan();
        x.run(PACKAGES);
    }

    /** All 12 packages, each of which needs the next one; package 0 is wished for. Nothing is locked. */
    static PackWright rowOfTwelve() {
        PackWright x = withSingles(PACKAGES);
        for (int of = 0; of < PACKAGES - 1; of++) {
            needAny(x, of, of + 1);
        }
        wishAny(x, 0);
        return x;
    }

    /** As rowOfTwelve(), and the last package needs package 0. */
    static PackWright ringOfTwelve() {
        PackWright x = rowOfTwelve();
        needAny(x, PACKAGES - 1, 0);
        return x;
    }

    /** 12 packages, each in 8 versions 1.0.0 to 8.0.0, of which each needs that with its major of the next package. */
    static PackWright rowsOfEight() {
        PackWright x = withPackages(PACKAGES);
        for (int of = 0; of < PACKAGES; of++) {
            for (int major = 1; major <= VERSIONS; major++) {
                x.publish(of, major, 0, 0, of == 0 && major == VERSIONS ? 240 : 208);
                if (of < PACKAGES - 1) {
                    x.need(of, of + 1, -1, 0, 1, major, 0, 0);
                }
            }
        }
        return x;
    }

    /** Installs those of rowsOfEight() with that major. */
    static void installMajor(PackWright x, int major) {
        wishOnly(x, 0, major);
        install(x);
        x.dropWish(0);
    }

    /** As much as there may be: 12 packages of 8 versions, the latest ones with 5 needs and 3 clashes, and 6 wishes. */
    static PackWright fullProject() {
        PackWright x = withPackages(PACKAGES);
        for (int of = 0; of < PACKAGES; of++) {
            publishMajors(x, of, VERSIONS);
            for (int need = 0; need < NEEDS; need++) {
                x.need(of, (of + 1 + need) % PACKAGES, need - 1, 1 << need & 15, 2, 8 - need, 0, 0);
            }
            for (int clash = 0; clash < CLASHES; clash++) {
                x.clash(of, (of + 1 + clash) % PACKAGES, 3, clash, 0, 0);
            }
        }
        for (int wish = 0; wish < WISHES; wish++) {
            x.wish(2 * wish, 1 << wish & 15, 0, 0, 0, 0);
        }
        return x;
    }

    /** Two packages to remove, one to change and one to add, with the first step done; and rooms that are nearly full. */
    static PackWright halfwayProject() {
        PackWright x = withSingles(5);
        x.publish(1, 2, 5, 0, 35);
        x.need(1, 2, 3, 9, 4, 1, 0, 0);
        x.clash(1, 3, 1, 7, 0, 0);
        x.withdraw(0, 0, true);
        wishOnly(x, 1, 1);
        wishAny(x, 3);
        wishAny(x, 4);
        install(x);
        dropWishes(x);
        x.wish(1, 8, 5, 2, 5, 0);
        x.resolve(0, 0);
        x.setDisk(125);
        x.setCache(95);
        x.plan();
        x.run(1);
        return x;
    }

    /**
     * What wishForFive() wishes for cannot be had, and all has been tried with just 5000 TRIES,
     * or with 5001, if package 0 has one more version, which does not do.
     * 5 + 5 * (3 + 3 * (4 + 4 * (2 + 2 * (8 + 8 * 4)))) is 5000. Package 6 has no versions.
     */
    static PackWright hopelessRegistry(boolean oneMore) {
        PackWright x = withPackages(7);
        int[] counts = {5, 3, 4, 2, 0, 4};
        for (int of = 0; of < counts.length; of++) {
            publishMajors(x, of, counts[of]);
        }
        for (int major = 1; major <= 8; major++) {
            x.publish(4, major, 0, 0, 10);
            x.need(4, 5, -1, 0, 3, 0, 0, 0);
        }
        if (oneMore) {
            x.publish(0, 0, 0, 1, 10);
        }
        return x;
    }

    static void wishForFive(PackWright x) {
        x.wish(0, 0, 2, 1, 0, 0);
        for (int of = 1; of < 5; of++) {
            wishAny(x, of);
        }
    }

    /**
     * Package 5 goes with the least version of package 0 alone: 2 * 2497 tries lead to
     * nothing, and the next 6 to a choice; or 7, if one more of them leads to nothing.
     */
    static PackWright hardProject(boolean oneMore) {
        PackWright x = withWishedMajors(3, 4, 7, 8, 5, 1);
        x.clash(5, 0, 2, 2, 0, 0);
        if (oneMore) {
            x.clash(4, 0, 1, 1, 0, 0);
        }
        return x;
    }
}
