/**
 * Each sentence on plans, builds, counts and refusals that names an edge has a test of its own here. The
 * comment beside a test names the promise; "Terms" are those that the promise rests on.
 */
public final class PlanEdges {
    private static final long NOTHING = -2000000000L;

    public static void main(String[] args) {
        Due.all(PlanEdges.class);
    }

    /** A grain in path 0 and these parts on the shelf. */
    private static GrainBench shelved(String... parts) {
        GrainBench x = Due.lit(0);
        for (int i = 0; i < parts.length; i++) {
            Due.shelf(x, parts[i], i);
        }
        return x;
    }

    /** The latest plan: u, v, w, and then its parts. */
    private static void planned(GrainBench x, long... want) {
        for (int i = 0; i < 3; i++) {
            Due.due("planned(" + (-1 - i) + ")", x.planned(-1 - i), want[i]);
        }
        for (int i = 0; i < 4; i++) {
            Due.due("planned(" + i + ")", x.planned(i), i + 3 < want.length ? want[i + 3] : NOTHING);
        }
    }

    private static int planToPath(GrainBench x, int n, int path) {
        int[] row = new int[5];
        row[path] = x.count(0);
        return x.plan(n, row[0], row[1], row[2], row[3], row[4]);
    }

    // Promise 21, Terms: "with n PARTS (0 .. 3)": none, though a part would help.
    static void planOfNoParts() {
        GrainBench x = shelved("swap 0 1");
        Due.due("plan(0, ..)", planToPath(x, 0, 1), 0);
        planned(x, 0, 0, 1);
    }

    // Promise 21, Terms: three parts, and not with two.
    static void planOfThreeParts() {
        GrainBench x = shelved("swap 2 3", "swap 0 1", "swap 1 2");
        Due.due("plan(2, ..)", planToPath(x, 2, 3), 0);
        planned(x, 0, 0, 1);
        Due.due("plan(3, ..)", planToPath(x, 3, 3), 3);
        planned(x, 1, 0, 1, 1, 2, 0);
    }

    // Promise 21, Terms: "of all rows of at most n PARTS": the only one of a full shelf's that helps is a late one.
    static void planOfLateRow() {
        GrainBench x = shelved("swap 0 4", "swap 4 0", "swap 0 4", "swap 4 0", "swap 0 4", "swap 2 3", "swap 1 2", "swap 0 1");
        x.grain(0);
        x.grain(2);
        Due.due("plan(3, ..)", x.plan(3, 1, 0, 0, 2, 0), 3);
        planned(x, 1, 0, 1, 7, 6, 5);
    }

    // Promise 21: "NONE for numbers that can't be": n just outside and far away; the latest stays.
    static void planOfTooManyParts() {
        GrainBench x = shelved("swap 0 1");
        planToPath(x, 1, 1);
        for (int n : new int[] {-1, 4, Integer.MIN_VALUE, Integer.MAX_VALUE}) {
            Due.due("plan(" + n + ", ..)", planToPath(x, n, 0), -1);
        }
        planned(x, 1, 0, 1, 0);
    }

    // Promise 21: counts that can't be, in each path; the latest stays.
    static void planOfCountsThatCannotBe() {
        GrainBench x = shelved("swap 0 1");
        planToPath(x, 1, 1);
        for (int path = 0; path < 5; path++) {
            for (int count : new int[] {-1, 4, Integer.MIN_VALUE, Integer.MAX_VALUE}) {
                int[] r = new int[5];
                r[path] = count;
                Due.due("plan with " + count + " in path " + path, x.plan(1, r[0], r[1], r[2], r[3], r[4]), -1);
            }
        }
        planned(x, 1, 0, 1, 0);
    }

    // Promise 21: three in a path are a count that can be.
    static void planOfThreeInAPath() {
        GrainBench x = shelved("swap 0 4");
        x.grain(1);
        x.grain(0);
        Due.due("plan", planToPath(x, 1, 4), 1);
        planned(x, 1, 0, 1, 0);
    }

    // Promise 21: "NONE .. without grains"; the latest stays.
    static void planWithoutGrains() {
        GrainBench x = shelved("swap 0 1");
        planToPath(x, 1, 1);
        x.clear();
        Due.due("plan", x.plan(1, 0, 0, 0, 0, 0), -1);
        planned(x, 1, 0, 1, 0);
        Due.due("plan of a new object", new GrainBench().plan(0, 0, 0, 0, 0, 0), -1);
    }

    // Promise 21: with an empty shelf there is the row of no parts.
    static void planWithAnEmptyShelf() {
        GrainBench x = Due.lit(0);
        Due.due("plan", planToPath(x, 3, 0), 0);
        planned(x, 1, 0, 1);
    }

    // Promise 21, Terms: "(one may come again)": two halves bring a grain over, one alone does not.
    static void planOfOnePartAgain() {
        GrainBench x = shelved("split 0 1 half");
        Due.due("plan(1, ..)", planToPath(x, 1, 1), 1);
        planned(x, 1, 0, 2, 0);
        Due.due("plan(3, ..)", planToPath(x, 3, 1), 2);
        planned(x, 1, 0, 1, 0, 0);
    }

    // Promise 21, Terms: it may come again behind another part, at the very end of the row.
    static void planOfOnePartAgainAtTheEnd() {
        GrainBench x = shelved("swap 0 1", "split 1 2 four");
        // (4 + 3 i) squared is 7 + 24 i.
        Due.due("plan", planToPath(x, 3, 2), 3);
        planned(x, 576, 0, 625, 0, 1, 1);
    }

    // Promise 21, Terms: "at most n": fewer parts are taken where more would bring less.
    static void planOfFewerPartsThanItMay() {
        GrainBench x = shelved("split 0 1 four");
        // Of 5, 25, 125 the powers of 4 + 3 i bring 3, 24, 117 over; 24 / 25 is the greatest.
        Due.due("plan for one", planToPath(x, 3, 1), 2);
        planned(x, 576, 0, 625, 0, 0);
        GrainBench y = shelved("split 0 1 three");
        y.grain(2);
        // Once: 2 times (3 / 5 times 4 / 5) squared; twice 7 / 25 times 24 / 25, thrice 117 / 125 times 44 / 125.
        Due.due("plan for two", planToPath(y, 3, 1), 1);
        planned(y, 288, 0, 625, 0);
    }

    // Promise 21, Terms: "of alike ones the shortest", though a longer one is first as rows.
    static void planOfAlikeOnesTheShortest() {
        GrainBench x = shelved("split 0 1 half", "swap 0 1");
        Due.due("plan", planToPath(x, 3, 1), 1);
        planned(x, 1, 0, 1, 1);
    }

    // Promise 21, Terms: the shortest of all has no parts.
    static void planOfAlikeOnesNone() {
        GrainBench x = shelved("shift 0 1", "turn 0 half", "swap 0 1");
        Due.due("plan", planToPath(x, 3, 0), 0);
        planned(x, 1, 0, 1);
    }

    // Promise 21, Terms: "then the first as rows": by the first part ..
    static void planOfAlikeOnesTheFirst() {
        GrainBench x = shelved("swap 1 2", "swap 0 1", "swap 0 1");
        Due.due("plan", planToPath(x, 3, 1), 1);
        planned(x, 1, 0, 1, 1);
    }

    // Promise 21, Terms: .. by the first ahead of the second ..
    static void planOfAlikeRowsByTheirFirst() {
        GrainBench x = shelved("swap 1 3", "swap 0 2", "swap 0 1", "swap 2 3");
        // Rows 1 3 and 2 0 come to path 3.
        Due.due("plan", planToPath(x, 3, 3), 2);
        planned(x, 1, 0, 1, 1, 3);
    }

    // Promise 21, Terms: .. and by the last.
    static void planOfAlikeRowsByTheirLast() {
        GrainBench x = shelved("swap 0 1", "swap 1 2", "swap 2 3", "swap 2 3");
        Due.due("plan", planToPath(x, 3, 3), 3);
        planned(x, 1, 0, 1, 0, 1, 2);
    }

    // Promise 21: a part of eight is as good as others: the last.
    static void planOfTheEighthPart() {
        GrainBench x = shelved("shift 0 1", "shift 0 2", "shift 0 3", "shift 1 1", "shift 1 2", "shift 1 3", "turn 0 half", "swap 0 1");
        Due.due("plan", planToPath(x, 3, 1), 1);
        planned(x, 1, 0, 1, 7);
        x.clear();
        x.grain(2);
        Due.due("plan back", planToPath(x, 3, 0), 1);
        planned(x, 1, 0, 1, 7);
    }

    // Promise 21: a row of counts with more or fewer grains has odds 0 / 1 with all parts, so none is taken.
    static void planOfMoreOrFewerGrains() {
        GrainBench x = shelved("swap 0 1");
        Due.due("more", x.plan(3, 1, 1, 0, 0, 0), 0);
        planned(x, 0, 0, 1);
        Due.due("far more", x.plan(3, 3, 3, 3, 3, 3), 0);
        planned(x, 0, 0, 1);
        Due.due("fewer", x.plan(3, 0, 0, 0, 0, 0), 0);
        planned(x, 0, 0, 1);
    }

    // Promise 21, Terms: "(What is too DEEP is left out.)": three parts of 125 each for three grains.
    static void planLeavesOutWhatIsTooDeep() {
        GrainBench x = shelved("split 0 1 three", "split 1 2 three", "split 2 3 three");
        x.grain(0);
        Due.due("for two grains", planToPath(x, 3, 3), 3);
        planned(x, 16777216, 0, 244140625, 0, 1, 2);
        x.grain(0);
        Due.due("for three grains", planToPath(x, 3, 3), 0);
        planned(x, 0, 0, 1);
    }

    // Promise 21: a row that is not too deep is taken where a better one is: 125 times 125 is not, 125 cubed is.
    static void planTakesTheBestThatIsNotTooDeep() {
        GrainBench x = shelved("split 0 1 four");
        x.grain(0);
        x.grain(0);
        // 24 / 25 to the 6th: 24 cubed is 13,824, and so on.
        Due.due("plan", planToPath(x, 3, 1), 2);
        planned(x, 191102976, 0, 244140625, 0, 0);
    }

    // Promise 21: NONE "if all is too DEEP" never is, for the row of no parts has a depth of 1.
    static void planOfNoPartsIsNeverTooDeep() {
        GrainBench x = shelved("split 0 1 three");
        x.grain(0);
        x.grain(0);
        Due.due("plan", planToPath(x, 0, 0), 0);
        planned(x, 1, 0, 1);
    }

    // Promise 21, Terms: "as a BENCH of its own": neither benches nor dark counters matter, nor do they change.
    static void planAsABenchOfItsOwn() {
        GrainBench x = shelved("swap 0 1");
        Due.bench(x, 0, "swap 0 2;swap 3 4", 2);
        x.dark(1, 9);
        Due.due("plan", planToPath(x, 3, 1), 1);
        planned(x, 1, 0, 1, 0);
        Due.due("count(1)", x.count(1), 2);
        Due.due("dark", x.dark(1, 9), 9);
        Due.due("count(0)", x.count(0), 1);
    }

    // Promise 21: "kept as the latest": a later plan takes the place of an earlier, longer one.
    static void planIsKeptAsTheLatest() {
        GrainBench x = shelved("swap 0 1", "swap 1 2");
        Due.due("first", planToPath(x, 2, 2), 2);
        Due.due("second", planToPath(x, 2, 1), 1);
        planned(x, 1, 0, 1, 0);
    }

    // Promise 21: the greatest odds with roots. For two alike in path 1: 2 (216 + 144 r) / 625 times 8 / 25.
    static void planWithRoots() {
        GrainBench x = new GrainBench();
        Due.shelf(x, "split 2 0 half", 0);
        Due.shelf(x, "split 0 1 three", 1);
        x.grain(2);
        x.grain(2);
        Due.due("plan", x.plan(3, 1, 0, 1, 0, 0), 3);
        planned(x, 3456, 2304, 15625, 1, 0, 1);
    }

    private static void planRow(int[] modes, String[] parts, int[] row, long... want) {
        GrainBench x = Due.lit(modes);
        for (int i = 0; i < parts.length; i++) {
            Due.shelf(x, parts[i], i);
        }
        Due.due("plan", x.plan(3, row[0], row[1], row[2], row[3], row[4]), want.length - 3);
        planned(x, want);
    }

    // Promise 21: the greatest, compared with rows that have roots. 2 times (4 / 5 times 3 / 5) squared.
    static void planAgainstRoots() {
        planRow(new int[] {1, 1}, new String[] {"split 1 0 four", "split 2 0 half"}, Due.row(0, 1, 1, 0, 0),
                288, 0, 625, 0, 1, 1);
    }

    // Promise 21: the greatest has roots itself: (216 + 144 r) / 625 times 8 / 25.
    static void planByRoots() {
        planRow(new int[] {0, 5}, new String[] {"split 2 0 half", "split 1 2 three"}, Due.row(0, 2, 0, 0, 0),
                1728, 1152, 15625, 1, 0, 1);
    }

    // Promise 21: small numbers with roots lie near one another (worked out apart from the program, in fractions).
    static void planBySmallRoots() {
        planRow(new int[] {0, 1, 3}, new String[] {"split 1 2 half", "split 0 1 half"}, Due.row(0, 1, 2, 0, 0),
                5, 2, 64, 0, 1, 0);
    }

    // Promise 21, Terms: a part in the midst of a row may matter, though it leaves each grain in its path:
    // two half turns make the grains alike, and alike ones come together in path 0 half of the time.
    static void planWithTurnsAhead() {
        planRow(new int[] {0, 3}, new String[] {"turn 1 half", "split 0 1 half"}, Due.row(2, 0, 0, 0, 0),
                1, 0, 2, 0, 0, 1);
    }

    // Promise 21: nothing of an earlier plan, with other grains, is in a later one.
    static void planBehindAnother() {
        GrainBench x = shelved("swap 0 1");
        Due.due("first", planToPath(x, 2, 1), 1);
        x.clear();
        x.grain(8);
        Due.due("second", planToPath(x, 2, 1), 0);
        planned(x, 0, 0, 1);
        Due.shelf(x, "swap 1 2", 1);
        Due.due("third", planToPath(x, 2, 2), 0);
        planned(x, 0, 0, 1);
    }

    // Promise 22: "NOTHING without" a plan.
    static void plannedAheadOfAnyPlan() {
        GrainBench x = Due.lit(0);
        for (int i = -5; i < 5; i++) {
            Due.due("planned(" + i + ")", x.planned(i), NOTHING);
        }
    }

    // Promise 22: "NOTHING" where the plan has no such part, nor its odds.
    static void plannedOutsideThePlan() {
        GrainBench x = shelved("swap 0 1");
        planToPath(x, 3, 1);
        Due.due("planned(0)", x.planned(0), 0);
        Due.due("planned(1)", x.planned(1), NOTHING);
        Due.due("planned(-3)", x.planned(-3), 1);
        Due.due("planned(-4)", x.planned(-4), NOTHING);
        for (int far : Due.FAR) {
            Due.due("planned(" + far + ")", x.planned(far), NOTHING);
        }
    }

    // Promise 22: a plan of three parts: the last, and none behind it.
    static void plannedOfThreeParts() {
        GrainBench x = shelved("swap 0 1", "swap 1 2", "swap 2 3");
        planToPath(x, 3, 3);
        Due.due("planned(2)", x.planned(2), 2);
        Due.due("planned(3)", x.planned(3), NOTHING);
    }

    // Promise 22: a plan of no parts has odds.
    static void plannedOfNoParts() {
        GrainBench x = Due.lit(0);
        planToPath(x, 3, 0);
        planned(x, 1, 0, 1);
    }

    // Promise 22: "its ODDS (i -1 u, -2 v, -3 w)", as they were when it was planned.
    static void plannedOddsAsTheyWere() {
        GrainBench x = shelved("split 0 1 three");
        planToPath(x, 1, 1);
        x.clear();
        x.grain(4);
        Due.shelf(x, "swap 0 1", 1);
        planned(x, 16, 0, 25, 0);
    }

    // Promise 23: "-6 there is none", no plan; the bench stays.
    static void buildWithoutAPlan() {
        GrainBench x = Due.with("swap 0 1");
        Due.due("build(0)", x.build(0), -6);
        Due.due("status", x.status(), -6);
        Due.due("count(1)", x.count(1), 1);
        x.plan(0, 1, 0, 0, 0, 0);
        Due.due("build(0) behind a plan that is NONE", x.build(0), -6);
    }

    // Promise 23: "-2" for no such bench, with a plan ..
    static void buildOfNoBench() {
        GrainBench x = shelved("swap 0 1");
        planToPath(x, 1, 1);
        for (int bench : new int[] {-1, 4, Integer.MIN_VALUE, Integer.MAX_VALUE}) {
            Due.due("build(" + bench + ")", x.build(bench), -2);
            Due.due("status", x.status(), -2);
        }
        for (int what = 1; what <= 4; what++) {
            Due.due("count(" + what + ")", x.count(what), 0);
        }
    }

    // Promise 23, Terms: .. and without: -2 ahead of -6.
    static void buildOfNoBenchWithoutAPlan() {
        GrainBench x = new GrainBench();
        Due.due("build(4)", x.build(4), -2);
        Due.due("build(-1)", x.build(-1), -2);
        Due.due("status", x.status(), -2);
    }

    // Promise 23: "how many PARTS": into the lowest and the highest bench; it takes the place of what was there.
    static void buildOfThreeParts() {
        GrainBench x = shelved("swap 0 1", "swap 1 2", "swap 2 3");
        Due.bench(x, 0, Due.times(16, "swap 3 4"), 16);
        planToPath(x, 3, 3);
        for (int bench = 0; bench < 4; bench++) {
            Due.odds(x, "not built yet", bench, Due.row(1, 0, 0, 0, 0), Due.share(1, 0, 1));
            Due.due("build(" + bench + ")", x.build(bench), 3);
            Due.due("count", x.count(bench + 1), 3);
            Due.odds(x, "built", bench, Due.row(0, 0, 0, 1, 0), Due.share(1, 0, 1));
        }
    }

    // Promise 23: a plan of no parts becomes a bench without parts.
    static void buildOfNoParts() {
        GrainBench x = Due.lit(0);
        Due.bench(x, 1, "swap 0 1", 1);
        planToPath(x, 3, 0);
        Due.due("build(1)", x.build(1), 0);
        Due.due("status", x.status(), 0);
        Due.due("count(2)", x.count(2), 0);
        Due.odds(x, "built", 1, Due.row(1, 0, 0, 0, 0), Due.share(1, 0, 1));
    }

    // Promise 23: "The latest PLAN" is still there behind a plan() that is NONE, and behind clear().
    static void buildOfTheLatestPlan() {
        GrainBench x = shelved("swap 0 1");
        planToPath(x, 1, 1);
        x.clear();
        Due.due("plan without grains", x.plan(1, 0, 0, 0, 0, 0), -1);
        Due.due("build(0)", x.build(0), 1);
        Due.due("way", x.way(0, 0, 2, 0), 1);
    }

    // Promise 23: build() does not touch the tape.
    static void buildLeavesTheTape() {
        GrainBench x = Due.lit(0);
        planToPath(x, 0, 0);
        Due.tell(x, "swap 0 1");
        x.build(0);
        x.build(4);
        Due.due("count(7)", x.count(7), 8);
        Due.due("bench(0)", x.bench(0), 1);
    }

    // Promise 24: each what tells its own number.
    static void countOfEach() {
        GrainBench x = Due.lit(0, 1);
        for (int bench = 0; bench < 4; bench++) {
            Due.bench(x, bench, Due.times(bench + 3, "swap 0 1"), bench + 3);
        }
        Due.shelf(x, "swap 0 1", 0);
        for (int i = 0; i < 9; i++) {
            x.run(0, 0, 0);
        }
        x.feed(0, 0, 0, 0, 0);
        x.end(11);
        int[] want = {2, 3, 4, 5, 6, 1, 9, 11};
        for (int what = 0; what < 8; what++) {
            Due.due("count(" + what + ")", x.count(what), want[what]);
        }
    }

    // Promise 24: all of them at their most.
    static void countOfTheMost() {
        GrainBench x = Due.lit(0, 0, 0);
        for (int bench = 0; bench < 4; bench++) {
            Due.bench(x, bench, Due.times(16, "swap 0 1"), 16);
        }
        for (int i = 0; i < 9; i++) {
            Due.tell(x, "swap 0 1");
            x.shelf();
        }
        for (int i = 0; i < 201; i++) {
            x.run(0, 0, 0);
        }
        for (int i = 0; i < 21; i++) {
            x.feed(0, 0, 0, 0, 0);
        }
        int[] want = {3, 16, 16, 16, 16, 8, 200, 400};
        for (int what = 0; what < 8; what++) {
            Due.due("count(" + what + ")", x.count(what), want[what]);
        }
    }

    // Promise 24: "NONE for others".
    static void countOfOthers() {
        for (int what : new int[] {-1, 8, Integer.MIN_VALUE, Integer.MAX_VALUE}) {
            Due.due("count(" + what + ")", new GrainBench().count(what), -1);
        }
    }

    // Promise 25: "0 .. ahead of any".
    static void statusAheadOfAny() {
        Due.due("status", new GrainBench().status(), 0);
    }

    // Promise 25: what each of the six was refused by, and 0 behind the next of them that was not.
    static void statusOfEachRefusal() {
        GrainBench x = shelved("swap 0 1");
        Due.due("grain", x.grain(10), -1);
        Due.due("status of grain", x.status(), -1);
        x.grain(0);
        Due.due("status of a good grain", x.status(), 0);
        Due.bench(x, 4, "", -2);
        Due.due("status of bench", x.status(), -2);
        Due.bench(x, 0, "", 0);
        Due.due("status of a good bench", x.status(), 0);
        Due.shelf(x, "?", -6);
        Due.due("status of shelf", x.status(), -6);
        Due.shelf(x, "swap 0 1", 1);
        Due.due("status of a good shelf", x.status(), 0);
        Due.due("dark", x.dark(5, 0), -1);
        Due.due("status of dark", x.status(), -1);
        x.dark(0, 3);
        Due.due("status of a good dark", x.status(), 0);
        Due.due("run", x.run(4, 0, 0), -2);
        Due.due("status of run", x.status(), -2);
        x.run(0, 0, 0);
        Due.due("status of a good run", x.status(), 0);
        Due.due("build", x.build(0), -6);
        Due.due("status of build", x.status(), -6);
        planToPath(x, 0, 0);
        x.build(0);
        Due.due("status of a good build", x.status(), 0);
    }

    // Promise 25: "the latest": one refusal behind another.
    static void statusOfTheLatestRefusal() {
        GrainBench x = Due.lit(0, 0, 0);
        x.grain(0);
        Due.due("no room", x.status(), -5);
        x.grain(10);
        Due.due("no number", x.status(), -1);
        x.build(4);
        Due.due("no bench", x.status(), -2);
        x.build(0);
        Due.due("no plan", x.status(), -6);
    }

    // Promise 25: other calls, good or in vain, are none of the six.
    static void statusBehindOtherCalls() {
        GrainBench x = Due.lit(0);
        x.dark(5, 0);
        otherCalls(x, 0);
        Due.due("refused, good calls behind it", x.status(), -1);
        otherCalls(x, 9999);
        Due.due("refused, others in vain behind it", x.status(), -1);
        x.dark(0, 0);
        otherCalls(x, 9999);
        Due.due("not refused, others in vain behind it", x.status(), 0);
    }

    private static void otherCalls(GrainBench x, int n) {
        x.feed(0, 0, 0, 0, 0);
        x.end(n);
        x.fault();
        x.deep(n);
        x.way(n, 0, 0, 0);
        x.odds(n, 1, 0, 0, 0, 0, 0);
        x.clicks(n, 1, 0);
        x.counted(n, 0, 0);
        x.wrong(n, 0);
        x.misfit(n, 0);
        x.fits(n);
        x.pairs(n, 0, 0);
        x.notes(n, 0);
        x.plan(n, 1, 0, 0, 0, 0);
        x.planned(n);
        x.count(n);
        x.status();
        x.clear();
    }

    // All promises: "An object is used for at most 512 calls": the 512th is answered as the first.
    static void fiveHundredAndTwelveCalls() {
        GrainBench x = new GrainBench();
        for (int call = 1; call <= 510; call += 3) {
            x.clear();
            x.grain(call % 10);
            x.dark(call % 5, 0);
        }
        Due.due("the 511th call", x.count(0), 1);
        Due.due("the 512th call", x.clear(), 1);
    }
}
