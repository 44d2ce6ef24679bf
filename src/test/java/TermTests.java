/** Each sentence ahead of the promises that names a boundary: the last value on either side of it. */
public final class TermTests extends SentenceTests {
    private static final int[] LEAST = {0, 0, 0};
    private static final int[] GREATEST = {99, 99, 99};

    private TermTests() { }

    public static void main(String[] args) {
        sentence(TERMS, "An object is used for at most 512 calls after it has been made", TermTests::lastOfAllCalls);
        registry();
        ranges();
        project();
        resolving();
        coreAndWhy();
        planning();
        installing();
        whatStays();
        end();
    }

    private static void lastOfAllCalls() {
        PackWright x = fullProject();
        install(x);
        long due = x.digest();
        for (int call = FULL_CALLS + 5; call < 512; call++) {
            x.wouldChange(call % PACKAGES);
        }
        is("the 512th call", x.digest(), due);
        PackWright y = fullProject();
        for (int call = FULL_CALLS + 1; call < 510; call++) {
            y.core();
        }
        is("the 510th call", y.resolve(0, 0), 12);
        is("the 511th call", y.plan(), 12);
        is("the 512th call", y.run(12), 12);
    }

    // ---- 1 the registry

    private static void registry() {
        sentence(TERMS, "At most 12 PACKAGES, numbered from 0.", () -> {
            PackWright x = new PackWright();
            for (int of = 0; of < 12; of++) {
                is("addPackage()", x.addPackage(), of);
            }
            refuses(x, STATE, "the 13th", y -> y.addPackage());
            is("packages()", x.packages(), 12);
        });
        sentence(TERMS, "Each has at most 8 VERSIONS, numbered from 0 as they are published.", () -> {
            PackWright x = withPackages(12);
            for (int of = 11; of >= 0; of--) {
                int full = of;
                for (int version = 0; version < 8; version++) {
                    is("publish()", x.publish(of, 8 - version, 0, 0, 10), version);
                }
                refuses(x, STATE, "the 9th of package " + of, y -> y.publish(full, 9, 0, 0, 10));
                is("versions(" + of + ")", x.versions(of), 8);
            }
        });
        sentence(TERMS, "A version has three numbers, each 0 to 99 (major, minor, patch)", () -> {
            PackWright x = withPackages(1);
            is("publish() of 0.0.0", x.publish(0, 0, 0, 0, 1), 0);
            is("publish() of 99.99.99", x.publish(0, 99, 99, 99, 1), 1);
            int[][] wrong = {{-1, 0, 0}, {0, -1, 0}, {0, 0, -1}, {100, 0, 0}, {0, 100, 0}, {0, 0, 100}};
            for (int[] v : wrong) {
                refuses(x, ARGUMENT, "publish() of " + told(v), y -> y.publish(0, v[0], v[1], v[2], 1));
            }
            is("versions()", x.versions(0), 2);
        });
        sentence(TERMS, "versions are compared by the first of these that differ", () -> {
            PackWright x = withPackages(1);
            int[][] numbers = {GREATEST, LEAST, {0, 0, 99}, {0, 1, 0}, {0, 99, 99}, {1, 0, 0}, {99, 99, 98}, {99, 98, 99}};
            for (int[] v : numbers) {
                x.publish(0, v[0], v[1], v[2], 1);
            }
            int[] greatestFirst = {0, 6, 7, 5, 4, 3, 2, 1};
            for (int place = 0; place < 8; place++) {
                is("versionAt(0, " + place + ")", x.versionAt(0, place), greatestFirst[place]);
            }
        });
        sentence(TERMS, "no two versions of a package have the same ones", () -> {
            PackWright x = withPackages(2);
            x.publish(0, 0, 99, 99, 1);
            x.publish(0, 1, 0, 0, 1);
            refuses(x, STATE, "0.99.99 again", y -> y.publish(0, 0, 99, 99, 2));
            refuses(x, STATE, "1.0.0 again", y -> y.publish(0, 1, 0, 0, 1));
            is("0.99.98", x.publish(0, 0, 99, 98, 1), 2);
            is("1.0.1", x.publish(0, 1, 0, 1, 1), 3);
            is("1.0.0 of another package", x.publish(1, 1, 0, 0, 1), 0);
        });
        sentence(TERMS, "It has a size (1 to 999), and can be WITHDRAWN.", () -> {
            PackWright x = withPackages(1);
            refuses(x, ARGUMENT, "size 0", y -> y.publish(0, 1, 0, 0, 0));
            refuses(x, ARGUMENT, "size 1000", y -> y.publish(0, 1, 0, 0, 1000));
            is("size 1", x.publish(0, 1, 0, 0, 1), 0);
            is("meanSize()", x.meanSize(), 1.0);
            is("size 999", x.publish(0, 2, 0, 0, 999), 1);
            is("meanSize()", x.meanSize(), 500.0);
            is("withdraw()", x.withdraw(0, 1, true), false);
            is("withdraw() once more", x.withdraw(0, 1, true), true);
        });
        sentence(TERMS, "A version has up to 5 NEEDS, and up to 3 CLASHES, each numbered from 0 as they are added.",
                TermTests::needsAndClashes);
        sentence(TERMS, "a CONDITION (a feature 0 to 3 of its own package, or -1)", TermTests::conditions);
        sentence(TERMS, "features that it turns on (a set of 0 to 3, told as the sum of 2^feature)", () -> {
            for (int features = 0; features <= 15; features++) {
                PackWright x = withSingles(2);
                x.need(0, 1, -1, features, 0, 0, 0, 0);
                x.wish(0, 15 - features, 0, 0, 0, 0);
                x.resolve(0, 0);
                is("featuresOf(1)", x.featuresOf(1), features);
                is("featuresOf(0)", x.featuresOf(0), 15 - features);
            }
            refuses(withSingles(2), ARGUMENT, "features 16", y -> y.need(0, 1, -1, 16, 0, 0, 0, 0));
            refuses(withSingles(2), ARGUMENT, "features -1", y -> y.need(0, 1, -1, -1, 0, 0, 0, 0));
        });
        sentence(TERMS, "A CLASH has a package (another one) and a range.", () -> {
            PackWright x = withSingles(12);
            refuses(x, ARGUMENT, "clash(0, 0, ..)", y -> y.clash(0, 0, 0, 0, 0, 0));
            refuses(x, ARGUMENT, "clash(11, 11, ..)", y -> y.clash(11, 11, 0, 0, 0, 0));
            is("clash(0, 11, ..)", x.clash(0, 11, 0, 0, 0, 0), 0);
            is("clash(11, 0, ..)", x.clash(11, 0, 0, 0, 0, 0), 0);
        });
    }

    private static void needsAndClashes() {
        PackWright x = withSingles(12);
        for (int of : new int[] {0, 11}) {
            int other = 11 - of;
            for (int need = 0; need < 5; need++) {
                is("need()", x.need(of, other, -1, 0, 0, 0, 0, 0), need);
            }
            refuses(x, STATE, "the 6th NEED", y -> y.need(of, other, -1, 0, 0, 0, 0, 0));
            for (int clash = 0; clash < 3; clash++) {
                is("clash()", x.clash(of, other, 3, 0, 0, 0), clash);
            }
            refuses(x, STATE, "the 4th CLASH", y -> y.clash(of, other, 3, 0, 0, 0));
            refuses(x, STATE, "the 6th NEED, behind the CLASHES", y -> y.need(of, other, -1, 0, 0, 0, 0, 0));
            // The next version has none of them.
            x.publish(of, 0, 0, 1, 10);
            is("clash() of the next version", x.clash(of, other, 3, 0, 0, 0), 0);
            is("need() of the next version", x.need(of, other, -1, 0, 0, 0, 0, 0), 0);
        }
        wishOnly(x, 0, 1);
        is("resolve() with all of them", x.resolve(0, 0), 2);
        is("neededBy(11)", x.neededBy(11), 1);
    }

    private static void conditions() {
        for (int condition = -1; condition <= 3; condition++) {
            for (int features = 0; features <= 15; features++) {
                PackWright x = withSingles(3);
                x.need(0, 1, condition, 0, 0, 0, 0, 0);
                x.wish(0, features, 0, 0, 0, 0);
                // What is ON for another package does not matter.
                x.wish(2, 15, 0, 0, 0, 0);
                x.resolve(0, 0);
                boolean counts = condition == -1 || (features & 1 << condition) != 0;
                is("neededBy(1) of " + condition + " with " + features, x.neededBy(1), counts ? 1 : 0);
                is("locked(1) of " + condition + " with " + features, x.locked(1), counts ? 0 : -1);
            }
        }
        refuses(withSingles(2), ARGUMENT, "condition -2", x -> x.need(0, 1, -2, 0, 0, 0, 0, 0));
        refuses(withSingles(2), ARGUMENT, "condition 4", x -> x.need(0, 1, 4, 0, 0, 0, 0, 0));
    }

    private static void ranges() {
        sentence(TERMS, "kind 0, always", () -> {
            ranges(0, new int[] {50, 50, 50}, true, LEAST, GREATEST, new int[] {50, 50, 50}, new int[] {50, 50, 49});
            ranges(0, GREATEST, true, LEAST, GREATEST);
            ranges(0, LEAST, true, LEAST, GREATEST);
        });
        sentence(TERMS, "1, if v is x", () -> {
            int[] x = {1, 2, 3};
            ranges(1, x, true, x);
            ranges(1, x, false, new int[] {1, 2, 2}, new int[] {1, 2, 4}, new int[] {0, 2, 3}, new int[] {2, 2, 3},
                    new int[] {1, 1, 3}, new int[] {1, 3, 3}, LEAST, GREATEST);
            ranges(1, LEAST, true, LEAST);
            ranges(1, LEAST, false, new int[] {0, 0, 1}, new int[] {0, 1, 0}, new int[] {1, 0, 0});
            ranges(1, GREATEST, true, GREATEST);
            ranges(1, GREATEST, false, new int[] {99, 99, 98}, new int[] {98, 99, 99});
        });
        sentence(TERMS, "2, if v is x or more", () -> {
            int[] x = {1, 2, 3};
            ranges(2, x, true, x, new int[] {1, 2, 4}, new int[] {1, 3, 0}, new int[] {2, 0, 0}, GREATEST);
            ranges(2, x, false, new int[] {1, 2, 2}, new int[] {1, 1, 99}, new int[] {0, 99, 99}, LEAST);
            ranges(2, LEAST, true, LEAST, GREATEST);
            ranges(2, GREATEST, true, GREATEST);
            ranges(2, GREATEST, false, new int[] {99, 99, 98}, LEAST);
        });
        sentence(TERMS, "3, if v is less than x", () -> {
            int[] x = {1, 2, 3};
            ranges(3, x, true, new int[] {1, 2, 2}, new int[] {1, 1, 99}, new int[] {0, 99, 99}, LEAST);
            ranges(3, x, false, x, new int[] {1, 2, 4}, new int[] {1, 3, 0}, new int[] {2, 0, 0}, GREATEST);
            ranges(3, LEAST, false, LEAST, GREATEST);
            ranges(3, new int[] {0, 0, 1}, true, LEAST);
            ranges(3, GREATEST, true, new int[] {99, 99, 98}, LEAST);
            ranges(3, GREATEST, false, GREATEST);
        });
        sentence(TERMS, "4, if v is x or more, and has the same major as x", () -> {
            int[] x = {1, 2, 3};
            ranges(4, x, true, x, new int[] {1, 2, 4}, new int[] {1, 3, 0}, new int[] {1, 99, 99});
            ranges(4, x, false, new int[] {1, 2, 2}, new int[] {1, 1, 99}, new int[] {0, 2, 3}, new int[] {2, 0, 0},
                    new int[] {2, 2, 3});
            ranges(4, new int[] {1, 0, 0}, true, new int[] {1, 0, 0}, new int[] {1, 99, 99});
            ranges(4, new int[] {1, 0, 0}, false, new int[] {0, 99, 99}, new int[] {2, 0, 0});
            ranges(4, new int[] {99, 0, 0}, true, new int[] {99, 0, 0}, GREATEST);
            ranges(4, new int[] {99, 0, 0}, false, new int[] {98, 99, 99});
            ranges(4, GREATEST, true, GREATEST);
            ranges(4, GREATEST, false, new int[] {99, 99, 98});
        });
        sentence(TERMS, "and, if that is 0, the same minor, too", () -> {
            ranges(4, new int[] {0, 2, 3}, true, new int[] {0, 2, 3}, new int[] {0, 2, 99});
            ranges(4, new int[] {0, 2, 3}, false, new int[] {0, 2, 2}, new int[] {0, 3, 0}, new int[] {0, 3, 3},
                    new int[] {1, 2, 3});
            ranges(4, LEAST, true, LEAST, new int[] {0, 0, 99});
            ranges(4, LEAST, false, new int[] {0, 1, 0}, new int[] {1, 0, 0});
            ranges(4, new int[] {0, 99, 99}, true, new int[] {0, 99, 99});
            ranges(4, new int[] {0, 99, 99}, false, new int[] {0, 99, 98}, new int[] {1, 0, 0}, new int[] {1, 99, 99});
        });
        sentence(TERMS, "5, if v is x or more, and has the same major and minor", () -> {
            int[] x = {1, 2, 3};
            ranges(5, x, true, x, new int[] {1, 2, 4}, new int[] {1, 2, 99});
            ranges(5, x, false, new int[] {1, 2, 2}, new int[] {1, 3, 0}, new int[] {1, 3, 3}, new int[] {1, 1, 3},
                    new int[] {2, 2, 3}, new int[] {0, 2, 3});
            ranges(5, new int[] {1, 99, 0}, true, new int[] {1, 99, 0}, new int[] {1, 99, 99});
            ranges(5, new int[] {1, 99, 0}, false, new int[] {1, 98, 99}, new int[] {2, 0, 0}, new int[] {2, 99, 0});
            ranges(5, LEAST, true, LEAST, new int[] {0, 0, 99});
            ranges(5, LEAST, false, new int[] {0, 1, 0}, new int[] {1, 0, 0});
            ranges(5, GREATEST, true, GREATEST);
            ranges(5, GREATEST, false, new int[] {99, 99, 98}, new int[] {98, 99, 99});
        });
    }

    /** Whether a range lets each of the versions in: as letIn() tells it, and for a WISH, a NEED and a CLASH. */
    private static void ranges(int kind, int[] x, boolean letsIn, int[]... versions) {
        for (int[] v : versions) {
            String what = "kind " + kind + " of " + told(x) + " with " + told(v) + ", ";
            is(what + "letIn()", withVersion(v).letIn(0, kind, x[0], x[1], x[2]), letsIn ? 1 : 0);
            PackWright wished = withVersion(v);
            wished.wish(0, 0, kind, x[0], x[1], x[2]);
            is(what + "wished for", wished.resolve(0, 0), letsIn ? 1 : -1);
            PackWright needed = withVersion(v);
            needed.need(1, 0, -1, 0, kind, x[0], x[1], x[2]);
            wishAny(needed, 1);
            is(what + "needed", needed.resolve(0, 0), letsIn ? 2 : -1);
            PackWright clashing = withVersion(v);
            clashing.clash(1, 0, kind, x[0], x[1], x[2]);
            wishAny(clashing, 1);
            wishAny(clashing, 0);
            is(what + "in a CLASH", clashing.resolve(0, 0), letsIn ? -1 : 2);
        }
    }

    private static PackWright withVersion(int[] v) {
        PackWright x = withPackages(2);
        x.publish(0, v[0], v[1], v[2], 10);
        x.publish(1, 1, 0, 0, 10);
        return x;
    }

    private static String told(int[] v) {
        return v[0] + "." + v[1] + "." + v[2];
    }

    // ---- 2 the project

    private static void project() {
        sentence(TERMS, "THE PROJECT has up to 6 WISHES, numbered from 0", () -> {
            PackWright x = withSingles(12);
            for (int wish = 0; wish < 6; wish++) {
                is("wish()", x.wish(11, 0, 0, 0, 0, 0), wish);
            }
            refuses(x, STATE, "the 7th", y -> y.wish(11, 0, 0, 0, 0, 0));
            is("wishes()", x.wishes(), 6);
            is("dropWish()", x.dropWish(5), 5);
            is("wish() in its place", x.wish(0, 0, 0, 0, 0, 0), 5);
        });
        sentence(TERMS, "It has a LOCK: for each package a version, or none (at first)", () -> {
            PackWright x = rowOfTwelve();
            for (int of = 0; of < 12; of++) {
                is("locked(" + of + ") at first", x.locked(of), -1);
            }
            x.resolve(0, 0);
            for (int of = 0; of < 12; of++) {
                is("locked(" + of + ")", x.locked(of), 0);
            }
        });
    }

    // ---- 3 resolving

    private static void resolving() {
        sentence(TERMS, "features that would turn on each other in a ring alone are not ON", TermTests::ringOfFeatures);
        sentence(TERMS, "A feature of a package that is IN is ON, if a WISH for it turns it on, or a NEED that COUNTS",
                TermTests::longestRowOfFeatures);
        sentence(TERMS, "A NEED COUNTS, if it is one of a version that is chosen", () -> {
            PackWright x = withSingles(2);
            needAny(x, 0, 1);
            x.publish(0, 2, 0, 0, 10);
            wishAny(x, 0);
            is("resolve() to the version without NEEDS", x.resolve(0, 0), 1);
            is("neededBy(1)", x.neededBy(1), 0);
            wishOnly(x, 0, 1);
            is("resolve() to the version with one", x.resolve(0, 0), 2);
            is("neededBy(1)", x.neededBy(1), 1);
        });
        sentence(TERMS, "ASKED is a row of packages, each once", () -> {
            PackWright x = withSingles(2);
            for (int need = 0; need < 5; need++) {
                needAny(x, 0, 1);
            }
            for (int wish = 0; wish < 6; wish++) {
                wishAny(x, 0);
            }
            is("resolve()", x.resolve(0, 0), 2);
            is("tries()", x.tries(), 2);
        });
        sentence(TERMS, "With none chosen at first: if all packages of the row have a version, the choice is found.", () -> {
            PackWright x = new PackWright();
            is("resolve() of an empty row", x.resolve(0, 0), 0);
            is("tries()", x.tries(), 0);
            PackWright y = rowOfTwelve();
            is("resolve() of a row of all", y.resolve(0, 0), 12);
            is("tries()", y.tries(), 12);
            dropWishes(y);
            is("resolve() of a row that is empty again", y.resolve(0, 0), 12);
            is("tries()", y.tries(), 0);
        });
        sentence(TERMS, "with none left, the version that was chosen last of all that are still chosen is taken back likewise",
                TermTests::takenBackToTheFirst);
        sentence(TERMS, "if it is HELD, its locked version first (also if that is WITHDRAWN); "
                + "then all others that are not WITHDRAWN, the greatest first.", TermTests::candidates);
        sentence(TERMS, "With more than 5000 TRIES nothing is found (it is TOO HARD; the 5001st ends all, also if it would do).",
                TermTests::fiveThousandTries);
    }

    private static void ringOfFeatures() {
        PackWright x = rowOfTwelve();
        for (int of = 0; of < 12; of++) {
            x.need(of, (of + 1) % 12, of % 4, 1 << (of + 1) % 4, 0, 0, 0, 0);
        }
        is("resolve()", x.resolve(0, 0), 12);
        areFeaturesOn(x, false);
        x.wish(5, 2, 0, 0, 0, 0);
        areFeaturesOn(x, true);
        x.dropWish(1);
        areFeaturesOn(x, false);
        // A feature of a package in the ring that does not belong to it does not do either.
        x.wish(5, 13, 0, 0, 0, 0);
        is("featuresOf(5)", x.featuresOf(5), 13);
        is("featuresOf(6)", x.featuresOf(6), 0);
    }

    /** All 48 features, each of which is turned on by the one ahead of it alone, from the last package to the first. */
    private static void longestRowOfFeatures() {
        PackWright x = withSingles(12);
        for (int feature = 0; feature < 4; feature++) {
            for (int of = 11; of > 0; of--) {
                x.need(of, of - 1, feature, 1 << feature, 0, 0, 0, 0);
            }
            if (feature < 3) {
                x.need(0, 11, feature, 2 << feature, 0, 0, 0, 0);
            }
        }
        wishAny(x, 11);
        is("resolve() with the first of them off", x.resolve(0, 0), 1);
        is("featuresOf(11)", x.featuresOf(11), 0);
        x.wish(11, 1, 0, 0, 0, 0);
        is("resolve() with the first of them on", x.resolve(0, 0), 11);
        for (int of = 0; of < 12; of++) {
            is("featuresOf(" + of + ")", x.featuresOf(of), 15);
        }
        x.dropWish(1);
        x.wish(11, 8, 0, 0, 0, 0);
        is("featuresOf(11) with the last row alone", x.featuresOf(11), 8);
        is("featuresOf(0) with the last row alone", x.featuresOf(0), 8);
    }

    private static void areFeaturesOn(PackWright x, boolean areOn) {
        for (int of = 0; of < 12; of++) {
            is("featuresOf(" + of + ")", x.featuresOf(of), areOn ? 1 << of % 4 : 0);
        }
    }

    private static void takenBackToTheFirst() {
        for (boolean isHopeless : new boolean[] {false, true}) {
            PackWright x = rowOfTwelve();
            x.publish(0, 2, 0, 0, 10);
            needAny(x, 0, 1);
            x.clash(11, 0, isHopeless ? 0 : 2, 2, 0, 0);
            // 12 with 2.0.0 of package 0 (which the last one does not go with), and as many with 1.0.0.
            is("resolve()", x.resolve(0, 0), isHopeless ? -1 : 12);
            is("tries()", x.tries(), 24);
            is("locked(0)", x.locked(0), isHopeless ? -1 : 0);
        }
        is("resolve() of a package without versions", withWishedMajors(0).resolve(0, 0), -1);
        PackWright x = withWishedMajors(8, 0);
        is("resolve() of another one without versions", x.resolve(0, 0), -1);
        is("tries()", x.tries(), 8);
    }

    private static void candidates() {
        for (int held = 1; held <= 8; held++) {
            for (int wished = 1; wished <= 8; wished++) {
                candidates(held, wished, false);
                candidates(held, wished, true);
            }
        }
        PackWright x = withWishedMajors(8);
        for (int version = 0; version < 8; version++) {
            x.withdraw(0, version, true);
        }
        is("resolve() with all WITHDRAWN", x.resolve(0, 0), -1);
        is("tries()", x.tries(), 0);
        x.withdraw(0, 0, false);
        is("resolve() with all but the least one WITHDRAWN", x.resolve(0, 0), 1);
        is("tries()", x.tries(), 1);
        x.withdraw(0, 0, true);
        is("resolve() with all WITHDRAWN and one HELD", x.resolve(0, 0), 0);
        is("tries()", x.tries(), 1);
    }

    /** Of the versions 1.0.0 to 8.0.0 one is HELD, and one is wished for. */
    private static void candidates(int held, int wished, boolean isWithdrawn) {
        PackWright x = withPackages(1);
        publishMajors(x, 0, 8);
        wishOnly(x, 0, held);
        x.resolve(0, 0);
        is("tries() with none HELD", x.tries(), 9 - held);
        x.dropWish(0);
        wishOnly(x, 0, wished);
        x.withdraw(0, held - 1, isWithdrawn);
        int ahead = 8 - wished - (held > wished ? 1 : 0);
        int due = held == wished ? 1 : 2 + ahead;
        is("resolve()", x.resolve(0, 0), held == wished ? 0 : 1);
        is("tries() for " + wished + " with " + held + " HELD", x.tries(), due);
    }

    private static void fiveThousandTries() {
        PackWright found = hardProject(false);
        is("resolve() of what is found with the 5000th", found.resolve(0, 0), 6);
        is("tries()", found.tries(), 5000);
        PackWright wouldDo = hardProject(true);
        is("resolve() of what would be found with the 5001st", wouldDo.resolve(0, 0), -2);
        is("tries()", wouldDo.tries(), 5001);
        is("lockedPackages()", wouldDo.lockedPackages(), 0);
        PackWright nothing = hopelessRegistry(false);
        wishForFive(nothing);
        is("resolve() of nothing with 5000", nothing.resolve(0, 0), -1);
        is("tries()", nothing.tries(), 5000);
        PackWright tooHard = hopelessRegistry(true);
        wishForFive(tooHard);
        is("resolve() of nothing with 5001", tooHard.resolve(0, 0), -2);
        is("tries()", tooHard.tries(), 5001);
        // The tries are counted anew each time.
        is("resolve() once more", nothing.resolve(0, 0), -1);
        is("tries()", nothing.tries(), 5000);
    }

    // ---- 4 the core, 5 why

    private static void coreAndWhy() {
        sentence(TERMS, "at first all; then, by rising numbers, each WISH is left out, "
                + "if those that are left without it cannot be resolved either", TermTests::cores);
        sentence(TERMS, "(without a LOCK; what is TOO HARD counts as resolved)", () -> {
            PackWright hopeless = hopelessRegistry(false);
            wishForFive(hopeless);
            is("core() of nothing with 5000 TRIES", hopeless.core(), 16);
            PackWright tooHard = hopelessRegistry(true);
            wishForFive(tooHard);
            is("core() of nothing with 5001 TRIES", tooHard.core(), 0);
            // With the first WISH there is nothing to try; without it 5000 TRIES, or 5001.
            PackWright leftOut = hopelessRegistry(false);
            wishAny(leftOut, 6);
            wishForFive(leftOut);
            is("core() with 5000 TRIES without a WISH", leftOut.core(), 32);
            PackWright notLeftOut = hopelessRegistry(true);
            wishAny(notLeftOut, 6);
            wishForFive(notLeftOut);
            is("core() with 5001 TRIES without a WISH", notLeftOut.core(), 1);
            for (int of = 0; of < 12; of++) {
                PackWright locked = withSingles(12);
                wishAny(locked, of);
                locked.resolve(0, 0);
                locked.withdraw(of, 0, true);
                is("resolve() with the LOCK", locked.resolve(0, 0), 0);
                is("core() without it", locked.core(), 1);
            }
        });
        sentence(TERMS, "A CHAIN to a package with a locked version is a row of packages, the first one that of a WISH", () -> {
            PackWright x = rowOfTwelve();
            x.resolve(0, 0);
            is("chainAt(0, 0)", x.chainAt(0, 0), 0);
            is("chainAt(11, 0)", x.chainAt(11, 0), 0);
            x.dropWish(0);
            is("chainAt(0, 0) without a WISH", x.chainAt(0, 0), -1);
            wishAny(x, 11);
            is("chainAt(11, 0) with another WISH", x.chainAt(11, 0), 11);
            is("chainAt(10, 0) with another WISH", x.chainAt(10, 0), -1);
        });
        sentence(TERMS, "The DEPTH of a package is how many packages the shortest chain to it has", () -> {
            PackWright x = ringOfTwelve();
            x.resolve(0, 0);
            for (int of = 0; of < 12; of++) {
                is("depth(" + of + ")", x.depth(of), of + 1);
            }
            wishAny(x, 6);
            for (int of = 0; of < 12; of++) {
                is("depth(" + of + ") with two WISHES", x.depth(of), of % 6 + 1);
            }
        });
        sentence(TERMS, "of several that one is told whose packages are smaller at the first place where they differ.",
                TermTests::smallerChains);
    }

    private static void cores() {
        PackWright all = withPackages(6);
        publishMajors(all, 5, 5);
        for (int of = 0; of < 5; of++) {
            publishMajors(all, of, 1);
            all.clash(of, 5, 1, of + 1, 0, 0);
            wishAny(all, of);
        }
        wishAny(all, 5);
        is("core() of all 6", all.core(), 63);
        all.dropWish(0);
        is("core() of 5 that can be had", all.core(), 0);
        for (int hopeless = 0; hopeless < 6; hopeless++) {
            PackWright x = withSingles(6);
            for (int wish = 0; wish < 6; wish++) {
                wishOnly(x, wish, wish == hopeless ? 2 : 1);
            }
            is("core() of one WISH", x.core(), 1 << hopeless);
        }
        PackWright each = withSingles(6);
        for (int wish = 0; wish < 6; wish++) {
            wishOnly(each, wish, 2);
        }
        is("core() of six WISHES of which none can be had", each.core(), 32);
        is("core() without WISHES", withSingles(6).core(), 0);
    }

    private static void smallerChains() {
        PackWright x = withSingles(12);
        // To 11: 0 8 10 11 is smaller than 0 9 2 11 at the second place, and than 1 4 3 11 at the first.
        needAny(x, 0, 9);
        needAny(x, 0, 8);
        needAny(x, 9, 2);
        needAny(x, 8, 10);
        needAny(x, 10, 11);
        needAny(x, 2, 11);
        needAny(x, 1, 4);
        needAny(x, 4, 3);
        needAny(x, 3, 11);
        wishAny(x, 1);
        wishAny(x, 0);
        x.resolve(0, 0);
        isChain(x, 11, 0, 8, 10, 11);
        isChain(x, 2, 0, 9, 2);
        isChain(x, 3, 1, 4, 3);
        // They differ at the last place but one alone.
        needAny(x, 8, 2);
        isChain(x, 11, 0, 8, 2, 11);
        // A shorter one is told also if its packages are greater.
        wishAny(x, 3);
        isChain(x, 11, 3, 11);
    }

    private static void isChain(PackWright x, int of, int... due) {
        is("depth(" + of + ")", x.depth(of), due.length);
        for (int place = 0; place < due.length; place++) {
            is("chainAt(" + of + ", " + place + ")", x.chainAt(of, place), due[place]);
        }
        is("chainAt(" + of + ", " + due.length + ")", x.chainAt(of, due.length), -1);
    }

    // ---- 6 installing

    private static void planning() {
        sentence(TERMS, "REMOVE (0), if it is INSTALLED, and not locked", () -> {
            PackWright x = rowOfTwelve();
            install(x);
            dropWishes(x);
            x.resolve(0, 0);
            is("plan()", x.plan(), 12);
            isPlan(x, 0, 0, 1, 2, 3, 4, 5, 6, 7, 8, 9, 10, 11);
            PackWright backwards = rowBackwards();
            install(backwards);
            dropWishes(backwards);
            backwards.resolve(0, 0);
            is("plan() backwards", backwards.plan(), 12);
            isPlan(backwards, 0, 11, 10, 9, 8, 7, 6, 5, 4, 3, 2, 1, 0);
        });
        sentence(TERMS, "CHANGE (1), if it is INSTALLED and locked in different versions", () -> {
            PackWright x = rowsOfEight();
            installMajor(x, 1);
            wishOnly(x, 0, 8);
            x.resolve(0, 0);
            is("plan()", x.plan(), 12);
            isPlan(x, 1, 11, 10, 9, 8, 7, 6, 5, 4, 3, 2, 1, 0);
            x.run(12);
            is("plan() of what is INSTALLED and locked in the same version", x.plan(), 0);
        });
        sentence(TERMS, "by NEEDS that COUNT in what is INSTALLED as the PLAN is made; features as told by that, with the WISHES",
                TermTests::plansByFeatures);
        sentence(TERMS, "ADD (2), if it is locked and not INSTALLED.", () -> {
            PackWright x = rowOfTwelve();
            x.resolve(0, 0);
            is("plan()", x.plan(), 12);
            isPlan(x, 2, 11, 10, 9, 8, 7, 6, 5, 4, 3, 2, 1, 0);
            PackWright backwards = rowBackwards();
            backwards.resolve(0, 0);
            is("plan() backwards", backwards.plan(), 12);
            isPlan(backwards, 2, 0, 1, 2, 3, 4, 5, 6, 7, 8, 9, 10, 11);
        });
        sentence(TERMS, "those that no package needs which is still to be removed (by NEEDS that COUNT in what is INSTALLED "
                + "as the PLAN is made; features as told by that, with the WISHES); "
                + "if there is none such, the one with the smallest number of all.", () -> {
            PackWright x = ringOfTwelve();
            install(x);
            dropWishes(x);
            x.resolve(0, 0);
            x.plan();
            isPlan(x, 0, 0, 1, 2, 3, 4, 5, 6, 7, 8, 9, 10, 11);
            // 2 and 5, which are needed by none, come ahead of the ring.
            PackWright y = ringAndTwo();
            install(y);
            dropWishes(y);
            y.resolve(0, 0);
            y.plan();
            isPlan(y, 0, 2, 5, 3, 4);
            y.rollBack();
            needAny(y, 5, 2);
            y.plan();
            isPlan(y, 0, 5, 2, 3, 4);
        });
        sentence(TERMS, "those that need no package that is still to be changed or added (by NEEDS that COUNT in the LOCK); "
                + "if there is none such, the one with the smallest number of all.", () -> {
            PackWright x = ringOfTwelve();
            x.resolve(0, 0);
            x.plan();
            isPlan(x, 2, 0, 11, 10, 9, 8, 7, 6, 5, 4, 3, 2, 1);
            // Behind 5 there is none that needs none.
            PackWright y = ringAndTwo();
            y.resolve(0, 0);
            y.plan();
            isPlan(y, 2, 5, 2, 3, 4);
            // What is there already is not waited for: 4 needs 3.
            y.run(3);
            y.plan();
            isPlan(y, 2, 4);
        });
    }

    /** All 12 packages, each of which needs the one ahead of it; package 11 is wished for. Nothing is locked. */
    private static PackWright rowBackwards() {
        PackWright x = withSingles(12);
        for (int of = 11; of > 0; of--) {
            needAny(x, of, of - 1);
        }
        wishAny(x, 11);
        return x;
    }

    /** 3 and 4 need each other, 2 needs 3, and 5 stands alone; 2 and 5 are wished for. Nothing is locked. */
    private static PackWright ringAndTwo() {
        PackWright x = withSingles(6);
        needAny(x, 3, 4);
        needAny(x, 4, 3);
        needAny(x, 2, 3);
        wishAny(x, 2);
        wishAny(x, 5);
        return x;
    }

    /** A NEED that does not COUNT, as the PLAN is made, does not say what comes first. */
    private static void plansByFeatures() {
        PackWright x = withSingles(2);
        x.need(0, 1, 3, 0, 0, 0, 0, 0);
        wishAny(x, 0);
        wishAny(x, 1);
        x.resolve(0, 0);
        x.plan();
        isPlan(x, 2, 0, 1);
        x.wish(0, 8, 0, 0, 0, 0);
        isPlan(x, 2, 0, 1);
        x.plan();
        isPlan(x, 2, 1, 0);
        PackWright y = withSingles(2);
        y.need(1, 0, 3, 0, 0, 0, 0, 0);
        wishAny(y, 0);
        wishAny(y, 1);
        install(y);
        dropWishes(y);
        y.resolve(0, 0);
        y.plan();
        isPlan(y, 0, 0, 1);
        y.wish(1, 8, 0, 0, 0, 0);
        isPlan(y, 0, 0, 1);
        y.plan();
        isPlan(y, 0, 1, 0);
        y.dropWish(0);
        y.plan();
        isPlan(y, 0, 0, 1);
    }

    private static void isPlan(PackWright x, int kind, int... packages) {
        is("steps()", x.steps(), packages.length);
        for (int step = 0; step < packages.length && step < x.steps(); step++) {
            is("kindOf(" + step + ")", x.kindOf(step), kind);
            is("packageOf(" + step + ")", x.packageOf(step), packages[step]);
        }
    }

    private static void installing() {
        sentence(TERMS, "There is a DISK with some room (5000, at first)", () -> {
            PackWright just = planOfSizes(999, 999, 999, 999, 999, 5);
            is("run() with sizes of 5000", just.run(12), 6);
            is("taken()", just.taken(), 5000);
            PackWright above = planOfSizes(999, 999, 999, 999, 999, 6);
            is("run() with sizes of 5001", above.run(12), 5);
            is("taken()", above.taken(), 4995);
            is("setDisk()", above.setDisk(5001), 5000);
            is("run() with room for 5001", above.run(12), 6);
        });
        sentence(TERMS, "A CHANGE (with the old version off) or ADD behind which more would be taken than there is room "
                + "is not done (and nothing is FETCHED by it), and the PLAN stops ahead of it.", TermTests::withoutRoom);
        sentence(TERMS, "The CACHE holds versions with sizes up to some room together (2000, at first).", () -> {
            PackWright just = planOfSizes(999, 999, 2);
            just.run(12);
            is("cached() of sizes of 2000", just.cached(), 2000);
            is("ageOf(0, 0)", just.ageOf(0, 0), 2);
            PackWright above = planOfSizes(999, 999, 3);
            above.run(12);
            is("cached() of sizes of 2001", above.cached(), 1002);
            is("ageOf(0, 0)", above.ageOf(0, 0), -1);
            is("ageOf(1, 0)", above.ageOf(1, 0), 1);
            is("setCache()", above.setCache(0), 2000);
        });
        sentence(TERMS, "One that is FETCHED comes into it as the newest, if its size is not above the room of the CACHE",
                TermTests::intoTheCache);
        sentence(TERMS, "one that is used from it becomes the newest", () -> {
            PackWright x = planOfSizes(10, 20, 30);
            x.run(3);
            for (int used = 0; used < 3; used++) {
                // As they are used, the oldest one is always that which becomes the newest.
                x.rollBack();
                x.plan();
                x.run(used + 1);
                is("ageOf() of the one that was used", x.ageOf(used, 0), 0);
                is("fetched()", x.fetched(), 3);
                is("cached()", x.cached(), 60);
            }
            x.setCache(59);
            is("ageOf(0, 0), the oldest", x.ageOf(0, 0), -1);
        });
        sentence(TERMS, "the oldest ones go, as long as the sizes are above the room.", () -> {
            int[] rooms = {60, 59, 50, 49, 30, 29, 0};
            int[] cached = {60, 50, 50, 30, 30, 0, 0};
            for (int i = 0; i < rooms.length; i++) {
                PackWright x = planOfSizes(10, 20, 30);
                x.run(3);
                x.setCache(rooms[i]);
                is("cached() with room for " + rooms[i], x.cached(), cached[i]);
            }
            // One that comes in lets just as many go.
            PackWright x = planOfSizes(10, 20, 30, 40);
            x.setCache(70);
            x.run(3);
            is("cached() of three", x.cached(), 60);
            x.run(1);
            is("cached() of the last two", x.cached(), 70);
            is("ageOf(2, 0)", x.ageOf(2, 0), 1);
            is("ageOf(1, 0)", x.ageOf(1, 0), -1);
        });
        sentence(TERMS, "ROLLING BACK undoes the STEPS of the PLAN that were done, the last one first: "
                + "INSTALLED is as it was (nothing is FETCHED, and the CACHE stays as it is); the PLAN is gone.",
                TermTests::rollingBack);
        sentence(TERMS, "(A PLAN without STEPS is a PLAN.)", () -> {
            PackWright x = new PackWright();
            refuses(x, STATE, "run(0) without a PLAN", y -> y.run(0));
            is("plan()", x.plan(), 0);
            is("run(0)", x.run(0), 0);
            is("run(1)", x.run(1), 0);
            is("rollBack()", x.rollBack(), 0);
            refuses(x, STATE, "rollBack() without a PLAN", y -> y.rollBack());
        });
    }

    private static void withoutRoom() {
        // An ADD of 100, of 50, and a CHANGE of the first one to 60.
        PackWright x = withPackages(2);
        x.publish(0, 1, 0, 0, 100);
        x.publish(0, 2, 0, 0, 60);
        x.publish(1, 1, 0, 0, 50);
        x.setCache(0);
        wishOnly(x, 0, 1);
        wishAny(x, 1);
        x.resolve(0, 0);
        x.plan();
        x.setDisk(99);
        is("run() of the first ADD, 1 too little", x.run(2), 0);
        is("fetched()", x.fetched(), 0);
        x.setDisk(100);
        is("run() of the first ADD", x.run(2), 1);
        x.setDisk(149);
        is("run() of the second ADD, 1 too little", x.run(2), 1);
        is("fetched()", x.fetched(), 1);
        x.setDisk(150);
        is("run() of the second ADD", x.run(2), 2);
        x.dropWish(0);
        wishOnly(x, 0, 2);
        x.resolve(0, 0);
        x.plan();
        x.setDisk(109);
        is("run() of the CHANGE, 1 too little", x.run(1), 0);
        is("installed(0)", x.installed(0), 0);
        is("taken()", x.taken(), 150);
        is("fetched()", x.fetched(), 2);
        x.setDisk(110);
        is("run() of the CHANGE", x.run(1), 1);
        is("fetched()", x.fetched(), 3);
        // REMOVE needs no room, and what comes behind a STEP without room is not done either.
        x.dropWish(1);
        x.dropWish(0);
        x.resolve(0, 0);
        x.setDisk(0);
        x.plan();
        is("run() of REMOVE", x.run(2), 2);
        PackWright stops = planOfSizes(10, 999, 10);
        stops.setDisk(20);
        is("run() with one in the middle that has no room", stops.run(3), 1);
        is("installed(2)", stops.installed(2), -1);
    }

    private static void intoTheCache() {
        PackWright just = planOfSizes(30);
        just.setCache(30);
        just.run(1);
        is("cached() with room for it alone", just.cached(), 30);
        is("ageOf(0, 0)", just.ageOf(0, 0), 0);
        // Nothing goes for one that does not come in.
        PackWright above = planOfSizes(29, 30);
        above.setCache(29);
        above.run(2);
        is("cached() without the one that is above the room", above.cached(), 29);
        is("ageOf(0, 0)", above.ageOf(0, 0), 0);
        is("ageOf(1, 0)", above.ageOf(1, 0), -1);
        PackWright all = planOfSizes(29, 30);
        all.setCache(30);
        all.run(2);
        is("cached() of the one that has just the room", all.cached(), 30);
        is("ageOf(0, 0)", all.ageOf(0, 0), -1);
        PackWright none = planOfSizes(1);
        none.setCache(0);
        none.run(1);
        is("cached() without room", none.cached(), 0);
        is("fetched()", none.fetched(), 1);
    }

    private static void rollingBack() {
        PackWright x = rowsOfEight();
        installMajor(x, 1);
        x.setCache(5000);
        wishOnly(x, 0, 8);
        x.resolve(0, 0);
        for (int done = 0; done <= 12; done++) {
            x.plan();
            x.run(done);
            int cached = x.cached();
            int fetched = x.fetched();
            is("rollBack()", x.rollBack(), done);
            is("taken()", x.taken(), 12 * 208);
            is("installed(11)", x.installed(11), 0);
            is("installed(0)", x.installed(0), 0);
            is("cached()", x.cached(), cached);
            is("fetched()", x.fetched(), fetched);
            is("steps()", x.steps(), 0);
            refuses(x, STATE, "rollBack() once more", y -> y.rollBack());
            refuses(x, STATE, "run(1) of the PLAN that is gone", y -> y.run(1));
        }
    }

    private static void whatStays() {
        sentence(TERMS, "A PLAN is gone as soon as the LOCK is set, also if it is the same then", () -> {
            PackWright x = planOfSizes(10, 20);
            is("resolve() to the same LOCK", x.resolve(0, 0), 0);
            is("steps()", x.steps(), 0);
            refuses(x, STATE, "run(0)", y -> y.run(0));
            refuses(x, STATE, "rollBack()", y -> y.rollBack());
            x.plan();
            x.run(1);
            wishOnly(x, 0, 2);
            is("resolve() of nothing", x.resolve(0, 0), -1);
            is("steps() with the LOCK not set", x.steps(), 2);
            is("run(0)", x.run(0), 1);
            is("rollBack()", x.rollBack(), 1);
            PackWright tooHard = withWishedMajors(8, 8, 8, 8, 8);
            tooHard.resolve(0, 0);
            tooHard.plan();
            tooHard.wish(4, 0, 3, 0, 0, 0);
            is("resolve() that is TOO HARD", tooHard.resolve(0, 0), -2);
            is("steps() with the LOCK not set", tooHard.steps(), 5);
        });
        sentence(TERMS, "what is published, withdrawn or wished for changes neither LOCK, nor INSTALLED, nor a PLAN.",
                TermTests::changesNothingElse);
    }

    private static void changesNothingElse() {
        Call[] calls = {
            x -> x.addPackage(), x -> x.publish(1, 9, 0, 0, 999), x -> x.publish(0, 9, 0, 0, 1),
            x -> x.withdraw(1, 1, true), x -> x.withdraw(0, 0, false), x -> x.withdraw(3, 0, true),
            x -> x.wish(0, 15, 0, 0, 0, 0), x -> x.wish(1, 0, 3, 0, 0, 0), x -> x.dropWish(0),
            x -> x.need(1, 4, -1, 0, 0, 0, 0, 0), x -> x.clash(1, 2, 0, 0, 0, 0), x -> x.core(), x -> x.wouldChange(1),
        };
        for (int i = 0; i < calls.length; i++) {
            PackWright x = halfwayProject();
            calls[i].on(x);
            String what = " behind call " + i;
            int[] locked = {-1, 1, 0, -1, -1};
            int[] installed = {-1, 0, -1, -1, 0};
            for (int of = 0; of < 5; of++) {
                is("locked(" + of + ")" + what, x.locked(of), locked[of]);
                is("installed(" + of + ")" + what, x.installed(of), installed[of]);
            }
            int[] packages = {3, 4, 2, 1};
            int[] kinds = {0, 0, 2, 1};
            is("steps()" + what, x.steps(), 4);
            for (int step = 0; step < 4; step++) {
                is("packageOf(" + step + ")" + what, x.packageOf(step), packages[step]);
                is("kindOf(" + step + ")" + what, x.kindOf(step), kinds[step]);
            }
            is("run(3)" + what, x.run(3), 4);
            is("isInstalled()" + what, x.isInstalled(), true);
        }
    }
}
