/**
 * Each sentence on runs, misfits, pairs and notes that names an edge has a test of its own here. The
 * comment beside a test names the promise; "Terms" are those that the promise rests on.
 */
public final class RunEdges {
    private static final long NOTHING = -2000000000L;
    private static final int[] NO_BENCHES = {-1, 4, Integer.MIN_VALUE, Integer.MAX_VALUE};
    private static final int[] NO_DAYS = {-1, 1000, Integer.MIN_VALUE, Integer.MAX_VALUE};
    private static final int[] NO_BITS = {-1, 32, Integer.MIN_VALUE, Integer.MAX_VALUE};
    private static final int LIKE = 5;
    private static final int UNLIKE = 6;
    /** 312,500 for one grain. */
    private static final String TOO_DEEP = Due.times(7, "turn 0 three") + ";" + Due.times(2, "turn 0 half");

    public static void main(String[] args) {
        Due.all(RunEdges.class);
    }

    private static void runs(GrainBench x, int many, int bench, int bits, int day) {
        for (int i = 0; i < many; i++) {
            x.run(bench, bits, day);
        }
    }

    /** One run of each bench; those in the minus are unlike. */
    private static GrainBench sides(int minus) {
        GrainBench x = new GrainBench();
        for (int bench = 0; bench < 4; bench++) {
            x.run(bench, (minus >> bench & 1) == 1 ? UNLIKE : LIKE, 0);
        }
        return x;
    }

    private static void notes(GrainBench x, long upper, long lower, long above) {
        Due.due("notes(999, 0)", x.notes(999, 0), upper);
        Due.due("notes(999, 1)", x.notes(999, 1), lower);
        Due.due("notes(999, 2)", x.notes(999, 2), above);
    }

    // Promise 14: "how many there are": 1 for the first.
    static void firstRun() {
        GrainBench x = new GrainBench();
        Due.due("run", x.run(0, 0, 0), 1);
        Due.due("count(6)", x.count(6), 1);
    }

    // Promise 14, Terms: "RUNS, 200 at most", two hundred are, of all benches together.
    static void twoHundredRuns() {
        GrainBench x = new GrainBench();
        for (int i = 1; i <= 200; i++) {
            Due.due("run " + i, x.run(i % 4, i % 32, 999), i);
        }
        Due.due("count(6)", x.count(6), 200);
    }

    // Promise 14: "-5" for one more, of any bench; it is not kept.
    static void oneRunMore() {
        GrainBench x = new GrainBench();
        runs(x, 200, 0, 1, 0);
        for (int bench = 0; bench < 4; bench++) {
            Due.due("run of bench " + bench, x.run(bench, 1, 0), -5);
            Due.due("status", x.status(), -5);
        }
        Due.due("count(6)", x.count(6), 200);
        Due.due("counted", x.counted(0, 1, 999), 200);
        Due.due("counted of bench 1", x.counted(1, -1, 999), 0);
    }

    // Promise 14: bits from the lowest to the highest.
    static void runWithTheLowestAndHighestBits() {
        GrainBench x = new GrainBench();
        Due.due("bits 0", x.run(0, 0, 0), 1);
        Due.due("bits 31", x.run(0, 31, 0), 2);
        Due.due("counted 0", x.counted(0, 0, 0), 1);
        Due.due("counted 31", x.counted(0, 31, 0), 1);
    }

    // Promise 14: "-1" for bits that can't be; NONE among them.
    static void runWithNoBits() {
        GrainBench x = new GrainBench();
        for (int bits : NO_BITS) {
            Due.due("bits " + bits, x.run(0, bits, 0), -1);
            Due.due("status", x.status(), -1);
        }
        Due.due("count(6)", x.count(6), 0);
    }

    // Promise 14, Terms: "a DAY .. (0 .. 999)", the lowest and the highest.
    static void runOnTheLowestAndHighestDay() {
        GrainBench x = new GrainBench();
        Due.due("day 0", x.run(0, 0, 0), 1);
        Due.due("day 999", x.run(0, 0, 999), 2);
    }

    // Promise 14: "-1" for a day just outside or far away.
    static void runOnNoDay() {
        GrainBench x = new GrainBench();
        for (int day : NO_DAYS) {
            Due.due("day " + day, x.run(0, 0, day), -1);
            Due.due("status", x.status(), -1);
        }
        Due.due("count(6)", x.count(6), 0);
    }

    // Promise 14: "-2" for no such bench.
    static void runOfNoBench() {
        GrainBench x = new GrainBench();
        for (int bench : NO_BENCHES) {
            Due.due("bench " + bench, x.run(bench, 0, 0), -2);
            Due.due("status", x.status(), -2);
        }
        Due.due("bench 3", x.run(3, 0, 0), 1);
    }

    // Promise 14, Terms: "The first of these in that order": -1 ahead of -2.
    static void runWithNoNumberOfNoBench() {
        GrainBench x = new GrainBench();
        Due.due("bits", x.run(4, 32, 0), -1);
        Due.due("day", x.run(4, 0, 1000), -1);
        Due.due("status", x.status(), -1);
    }

    // Promise 14, Terms: -1 and -2 ahead of -5.
    static void runWithoutRoomAndMore() {
        GrainBench x = new GrainBench();
        runs(x, 200, 0, 0, 0);
        Due.due("bits", x.run(0, -1, 0), -1);
        Due.due("day", x.run(0, 0, -1), -1);
        Due.due("bench", x.run(4, 0, 0), -2);
        Due.due("all", x.run(-1, 99, 9999), -1);
    }

    // Promise 14: a run is told of a bench, also if its odds are 0 or it is too deep.
    static void runThatCannotBe() {
        GrainBench x = Due.with(TOO_DEEP);
        x.grain(0);
        Due.due("too deep", x.run(0, 0, 0), 1);
        Due.due("odds 0", x.run(1, 31, 0), 2);
    }

    // Promise 15, Terms: "known from a DAY on": on that day, not on the day ahead.
    static void countedFromItsDayOn() {
        GrainBench x = new GrainBench();
        x.run(0, 1, 5);
        Due.due("the day ahead", x.counted(0, 1, 4), 0);
        Due.due("the day", x.counted(0, 1, 5), 1);
        Due.due("the day behind", x.counted(0, 1, 6), 1);
    }

    // Promise 15: the first day and the last.
    static void countedOnTheFirstAndLastDay() {
        GrainBench x = new GrainBench();
        x.run(0, 1, 0);
        x.run(0, 1, 999);
        Due.due("day 0", x.counted(0, 1, 0), 1);
        Due.due("day 998", x.counted(0, 1, 998), 1);
        Due.due("day 999", x.counted(0, 1, 999), 2);
    }

    // Promise 15: runs told late, of an earlier day, are known as if told in time.
    static void countedOfRunsToldLate() {
        GrainBench x = new GrainBench();
        x.run(0, 1, 7);
        x.run(0, 1, 3);
        Due.due("day 3", x.counted(0, 1, 3), 1);
        Due.due("day 7", x.counted(0, 1, 7), 2);
    }

    // Promise 15: "(bits NONE: all RUNS)", of that bench.
    static void countedOfAllClicks() {
        GrainBench x = new GrainBench();
        for (int bits = 0; bits < 32; bits++) {
            x.run(0, bits, 0);
        }
        x.run(1, 0, 0);
        Due.due("all", x.counted(0, -1, 0), 32);
        Due.due("all of bench 1", x.counted(1, -1, 0), 1);
    }

    // Promise 15: "with certain CLICKS": each its own.
    static void countedOfCertainClicks() {
        GrainBench x = new GrainBench();
        for (int bits = 0; bits < 32; bits++) {
            runs(x, 1 + bits % 3, 3, bits, 0);
        }
        for (int bits = 0; bits < 32; bits++) {
            Due.due("bits " + bits, x.counted(3, bits, 0), 1 + bits % 3);
        }
    }

    // Promise 15: no runs are 0 runs, not NONE.
    static void countedWithoutRuns() {
        GrainBench x = new GrainBench();
        Due.due("all", x.counted(0, -1, 0), 0);
        Due.due("bits 0", x.counted(0, 0, 0), 0);
    }

    // Promise 15: "NONE" for no such bench.
    static void countedOfNoBench() {
        for (int bench : NO_BENCHES) {
            Due.due("bench " + bench, new GrainBench().counted(bench, -1, 0), -1);
        }
    }

    // Promise 15: "NONE" for bits that can't be, just below NONE and above 31.
    static void countedOfNoBits() {
        for (int bits : new int[] {-2, 32, Integer.MIN_VALUE, Integer.MAX_VALUE}) {
            Due.due("bits " + bits, new GrainBench().counted(0, bits, 0), -1);
        }
    }

    // Promise 15: "NONE" for a day that can't be.
    static void countedOnNoDay() {
        for (int day : NO_DAYS) {
            Due.due("day " + day, new GrainBench().counted(0, -1, day), -1);
        }
    }

    // Promise 15: runs of a bench that is too deep are counted all the same.
    static void countedTooDeep() {
        GrainBench x = Due.with(TOO_DEEP);
        x.grain(0);
        x.run(0, LIKE, 0);
        Due.due("counted", x.counted(0, -1, 0), 1);
        Due.due("pairs", x.pairs(0, 0, 0), 1);
    }

    // Promise 16: without runs none is wrong.
    static void wrongWithoutRuns() {
        GrainBench x = Due.lit(0);
        Due.due("no runs", x.wrong(0, 999), 0);
        x.run(0, 0, 5);
        Due.due("none known yet", x.wrong(0, 4), 0);
        Due.due("known", x.wrong(0, 5), 1);
    }

    // Promise 16, Terms: "of which the ODDS are 0", exactly; bits 0 and 31 as well.
    static void wrongOfTheLowestAndHighestBits() {
        GrainBench x = Due.lit(0);
        x.run(0, 0, 0);
        x.run(0, 31, 0);
        x.run(0, 1, 0);
        Due.due("wrong", x.wrong(0, 0), 2);
    }

    // Promise 16, Terms: odds of 1 / 100,000 are not 0, though they are 0 thousandths.
    static void wrongNotForTheLeastOdds() {
        GrainBench x = new GrainBench();
        for (int path = 0; path < 5; path++) {
            x.dark(path, 1);
        }
        x.run(0, 31, 0);
        Due.clicks(x, "all", 0, 31, Due.share(1, 0, 100000));
        Due.due("wrong", x.wrong(0, 0), 0);
    }

    // Promise 16, Terms: "(as BENCH .. are now)".
    static void wrongAsTheBenchIsNow() {
        GrainBench x = Due.lit(0);
        x.run(0, 1, 0);
        Due.due("ahead", x.wrong(0, 0), 0);
        Due.bench(x, 0, "swap 0 1", 1);
        Due.due("behind", x.wrong(0, 0), 1);
    }

    // Promise 16, Terms: "(as .. grains .. are now)".
    static void wrongAsTheGrainsAreNow() {
        GrainBench x = Due.lit(0);
        x.run(0, 1, 0);
        x.grain(2);
        Due.due("one more", x.wrong(0, 0), 1);
        x.clear();
        x.grain(1);
        Due.due("cleared", x.wrong(0, 0), 0);
    }

    // Promise 16, Terms: "(as .. DARK are now)".
    static void wrongAsDarkIsNow() {
        GrainBench x = Due.lit(0);
        x.run(0, 3, 0);
        Due.due("without", x.wrong(0, 0), 1);
        x.dark(1, 1);
        Due.due("with", x.wrong(0, 0), 0);
        x.dark(1, 0);
        Due.due("without again", x.wrong(0, 0), 1);
    }

    // Promise 16: "NONE" for no such bench or day.
    static void wrongOfNoBenchOrDay() {
        GrainBench x = Due.lit(0);
        for (int bench : NO_BENCHES) {
            Due.due("bench " + bench, x.wrong(bench, 0), -1);
        }
        for (int day : NO_DAYS) {
            Due.due("day " + day, x.wrong(0, day), -1);
        }
    }

    // Promise 16: "NONE (too DEEP, too)".
    static void wrongTooDeep() {
        GrainBench x = Due.with(TOO_DEEP);
        x.run(0, 1, 0);
        Due.due("without grains", x.wrong(0, 0), 1);
        x.grain(0);
        Due.due("too deep", x.wrong(0, 0), -1);
        Due.due("another bench", x.wrong(1, 0), 0);
    }

    // Promise 17: 0 where all lies as it should.
    static void misfitOfNothingApart() {
        GrainBench x = Due.lit(0);
        x.run(0, 1, 0);
        Due.due("misfit", x.misfit(0, 0), 0);
    }

    // Promise 17, Terms: "over all CLICKS (0 .. 31)": what was seen and can't be, and what was not seen.
    static void misfitOverAllClicks() {
        for (int bits = 0; bits < 32; bits++) {
            GrainBench x = Due.lit(0, 4, 8);
            x.run(0, bits, 0);
            Due.due("misfit of bits " + bits, x.misfit(0, 0), bits == 21 ? 0 : 2000);
        }
        GrainBench silent = new GrainBench();
        silent.run(0, 31, 0);
        Due.due("misfit of bits 31 and 0", silent.misfit(0, 0), 2000);
    }

    // Promise 17, Terms: "1000 times so many RUNS / all RUNS of it, cut": 666 and 333; odds are 500 each.
    static void misfitCutsRuns() {
        GrainBench x = Due.with("split 0 1 half");
        x.grain(0);
        runs(x, 2, 0, 1, 0);
        x.run(0, 2, 0);
        Due.due("misfit", x.misfit(0, 0), 166 + 167);
    }

    // Promise 17, Terms: "/ w, cut": 1 / 16 is 62, 15 / 16 is 937.
    static void misfitCutsOdds() {
        GrainBench x = Due.with("turn 1 half;split 0 1 half;lose 0 half;lose 0 half;lose 0 half");
        x.grain(0);
        Due.clicks(x, "still there", 0, 1, Due.share(1, 0, 16));
        Due.clicks(x, "gone", 0, 0, Due.share(7, 0, 16));
        x.run(0, 1, 0);
        // 1000 and 62, 0 and 437, 0 and 500.
        Due.due("misfit", x.misfit(0, 0), 938 + 437 + 500);
    }

    // Promise 17, Terms: "v times 1414 / 1000, cut", v above and below 0: 144 times that is 203, not 204.
    static void misfitCutsRoots() {
        GrainBench x = Due.with("split 0 1 three;split 1 2 half;split 0 1 three");
        x.grain(0);
        x.run(0, 4, 0);
        // (209 - 203) / 625 is 9, (216 + 203) / 625 is 670, 8 / 25 is 320.
        Due.due("misfit", x.misfit(0, 0), 9 + 670 + 680);
    }

    // Promise 17, Terms: 1414 / 1000 to the last of its digits, and no roots but these.
    static void misfitOfGreaterRoots() {
        GrainBench x = Due.with("split 0 1 three;split 1 2 four;split 0 1 half;split 1 2 four");
        x.grain(0);
        Due.clicks(x, "path 0", 0, 1, Due.share(1, 0, 1250));
        Due.clicks(x, "path 1", 0, 2, Due.share(8984, -4464, 15625));
        Due.clicks(x, "path 2", 0, 4, Due.share(13257, 8928, 31250));
        x.run(0, 1, 0);
        // 1 / 1250 is 0; (8984 - 6312) / 15625 is 171; (13257 + 12624) / 31250 is 828.
        Due.due("misfit", x.misfit(0, 0), 1000 + 171 + 828);
    }

    // Promise 17: the greatest numbers do not wrap; 762563905226811 / 1220703125000000 is 624.
    static void misfitOfTheGreatestNumbers() {
        GrainBench x = Due.with(Due.times(7, "split 0 1 three") + ";lose 0 half");
        x.grain(0);
        for (int path = 0; path < 5; path++) {
            x.dark(path, 9);
        }
        x.run(0, 31, 0);
        long apart = 1000 - 624;
        for (int bits = 0; bits < 31; bits++) {
            apart += x.clicks(0, bits, 0) * 1000 / x.clicks(0, bits, 2);
        }
        Due.due("misfit", x.misfit(0, 0), apart);
    }

    // Promise 17: runs of the bench and of the day alone.
    static void misfitAsKnown() {
        GrainBench x = Due.lit(0);
        x.run(0, 1, 3);
        x.run(0, 0, 4);
        x.run(1, 0, 0);
        Due.due("day 3", x.misfit(0, 3), 0);
        Due.due("day 4", x.misfit(0, 4), 1000);
        Due.due("bench 1", x.misfit(1, 0), 2000);
    }

    // Promise 17: "NONE (.. without RUNS, too)", also if they are known later.
    static void misfitWithoutRuns() {
        GrainBench x = Due.lit(0);
        Due.due("none", x.misfit(0, 999), -1);
        x.run(0, 1, 5);
        Due.due("later", x.misfit(0, 4), -1);
        Due.due("of another bench", x.misfit(1, 5), -1);
        Due.due("known", x.misfit(0, 5), 0);
    }

    // Promise 17: "NONE (too DEEP ..)".
    static void misfitTooDeep() {
        GrainBench x = Due.with(TOO_DEEP);
        x.run(0, 0, 0);
        Due.due("without grains", x.misfit(0, 0), 0);
        x.grain(0);
        Due.due("too deep", x.misfit(0, 0), -1);
    }

    // Promise 17: "NONE" for no such bench or day.
    static void misfitOfNoBenchOrDay() {
        GrainBench x = Due.lit(0);
        x.run(0, 1, 0);
        for (int bench : NO_BENCHES) {
            Due.due("bench " + bench, x.misfit(bench, 0), -1);
        }
        for (int day : NO_DAYS) {
            Due.due("day " + day, x.misfit(0, day), -1);
        }
    }

    // Promise 18: "The BENCH that has the least MISFIT", each of the four in turn.
    static void fitsEachBench() {
        for (int best = 0; best < 4; best++) {
            GrainBench x = Due.lit(0);
            for (int bench = 0; bench < 4; bench++) {
                x.run(bench, bench == best ? 1 : 2, 0);
            }
            Due.due("fits", x.fits(0), best);
        }
    }

    // Promise 18: "of alike ones the lowest".
    static void fitsTheLowestOfAlikeOnes() {
        GrainBench x = Due.lit(0);
        x.run(3, 1, 0);
        x.run(2, 1, 0);
        x.run(0, 2, 0);
        Due.due("fits", x.fits(0), 2);
        x.run(1, 1, 1);
        Due.due("fits", x.fits(1), 1);
    }

    // Promise 18: "NONE" where no bench has runs, or none that are known yet.
    static void fitsWithoutRuns() {
        GrainBench x = Due.lit(0);
        Due.due("none", x.fits(999), -1);
        x.run(2, 0, 5);
        Due.due("later", x.fits(4), -1);
        Due.due("known", x.fits(5), 2);
    }

    // Promise 18: a bench that is too deep has no misfit; NONE if there is no other.
    static void fitsTooDeep() {
        GrainBench x = Due.with(TOO_DEEP);
        x.grain(0);
        x.run(0, 1, 0);
        Due.due("too deep alone", x.fits(0), -1);
        x.run(3, 2, 0);
        Due.due("another", x.fits(0), 3);
    }

    // Promise 18: "NONE" for a day that can't be.
    static void fitsOnNoDay() {
        GrainBench x = Due.lit(0);
        x.run(0, 1, 0);
        for (int day : NO_DAYS) {
            Due.due("day " + day, x.fits(day), -1);
        }
    }

    // Promise 19, Terms: "A RUN PAIRS, if one of COUNTERS 0, 1 CLICKED and one of 2, 3, and 4 did not".
    static void pairsOfAllClicks() {
        for (int bits = 0; bits < 32; bits++) {
            GrainBench x = new GrainBench();
            x.run(0, bits, 0);
            Due.due("like of bits " + bits, x.pairs(0, 0, 0), bits == 5 || bits == 10 ? 1 : 0);
            Due.due("unlike of bits " + bits, x.pairs(0, 0, 1), bits == 6 || bits == 9 ? 1 : 0);
        }
    }

    // Promise 19: of the bench and as known.
    static void pairsAsKnown() {
        GrainBench x = new GrainBench();
        x.run(3, LIKE, 5);
        x.run(3, UNLIKE, 6);
        Due.due("the day ahead", x.pairs(3, 4, 0), 0);
        Due.due("the day", x.pairs(3, 5, 0), 1);
        Due.due("unlike the day ahead", x.pairs(3, 5, 1), 0);
        Due.due("unlike the day", x.pairs(3, 6, 1), 1);
        Due.due("another bench", x.pairs(2, 6, 0), 0);
    }

    // Promise 19: without runs 0, not NONE.
    static void pairsWithoutRuns() {
        Due.due("like", new GrainBench().pairs(0, 0, 0), 0);
        Due.due("unlike", new GrainBench().pairs(0, 0, 1), 0);
    }

    // Promise 19: "NONE" for another what.
    static void pairsOfAnotherWhat() {
        for (int what : new int[] {-1, 2, Integer.MIN_VALUE, Integer.MAX_VALUE}) {
            Due.due("what " + what, new GrainBench().pairs(0, 0, what), -1);
        }
    }

    // Promise 19: "NONE" for no such bench or day.
    static void pairsOfNoBenchOrDay() {
        for (int bench : NO_BENCHES) {
            Due.due("bench " + bench, new GrainBench().pairs(bench, 0, 0), -1);
        }
        for (int day : NO_DAYS) {
            Due.due("day " + day, new GrainBench().pairs(0, day, 0), -1);
        }
    }

    // Promise 20, Terms: "one .. have a minus, and which are these": any one of them.
    static void notesWithOneMinus() {
        for (int lone = 0; lone < 4; lone++) {
            notes(sides(1 << lone), 4, 1, 1);
        }
    }

    // Promise 20, Terms: "or three": any three of them.
    static void notesWithThreeMinuses() {
        for (int lone = 0; lone < 4; lone++) {
            notes(sides(15 ^ 1 << lone), 4, 1, 1);
        }
    }

    // Promise 20, Terms: neither none nor two nor four have a minus; "1 above 2, else 0": 2 is not above.
    static void notesOfJustTwo() {
        notes(sides(0), 2, 1, 0);
        notes(sides(15), 2, 1, 0);
        notes(sides(3), 2, 1, 0);
        notes(sides(9), 2, 1, 0);
    }

    // Promise 20: just above 2: 1, 1, 1 and 49 / 50.
    static void notesJustAboveTwo() {
        GrainBench x = sides(0);
        runs(x, 98, 3, LIKE, 0);
        runs(x, 1, 3, UNLIKE, 0);
        notes(x, 101, 50, 1);
    }

    // Promise 20: just below 2, with all 200 runs: 24 / 25 four times.
    static void notesJustBelowTwo() {
        GrainBench x = new GrainBench();
        for (int bench = 0; bench < 4; bench++) {
            runs(x, 49, bench, LIKE, 0);
            runs(x, 1, bench, UNLIKE, 0);
        }
        notes(x, 48, 25, 0);
    }

    // Promise 20, Terms: "in lowest terms": 0 is 0 / 1.
    static void notesOfZero() {
        GrainBench x = sides(0);
        for (int bench = 0; bench < 4; bench++) {
            x.run(bench, 9, 0);
        }
        notes(x, 0, 1, 0);
    }

    // Promise 20, Terms: in lowest terms over unlike lower numbers: 1 / 3, 1 / 5, 1 / 7 and 1 / 9.
    static void notesInLowestTerms() {
        GrainBench x = new GrainBench();
        for (int bench = 0; bench < 4; bench++) {
            runs(x, bench + 2, bench, 10, 0);
            runs(x, bench + 1, bench, 9, 0);
        }
        // 105 + 63 + 45 - 35 of 315.
        notes(x, 178, 315, 0);
    }

    // Promise 20, Terms: "None, if of some BENCH no RUN PAIRS": each of the four in turn.
    static void notesWithoutABench() {
        for (int lack = 0; lack < 4; lack++) {
            GrainBench x = new GrainBench();
            for (int bench = 0; bench < 4; bench++) {
                x.run(bench, bench == lack ? 21 : LIKE, 0);
            }
            notes(x, NOTHING, NOTHING, NOTHING);
            x.run(lack, LIKE, 0);
            notes(x, 2, 1, 0);
        }
    }

    // Promise 20: "as known": none, if the last that it needs is known later.
    static void notesAsKnown() {
        GrainBench x = new GrainBench();
        for (int bench = 0; bench < 4; bench++) {
            x.run(bench, LIKE, bench == 2 ? 5 : 0);
        }
        Due.due("the day ahead", x.notes(4, 0), NOTHING);
        Due.due("the day", x.notes(5, 0), 2);
    }

    // Promise 20: "NOTHING .. without" a what or a day that can be.
    static void notesOfAnotherWhatOrDay() {
        GrainBench x = sides(0);
        for (int what : new int[] {-1, 3, Integer.MIN_VALUE, Integer.MAX_VALUE}) {
            Due.due("what " + what, x.notes(0, what), NOTHING);
        }
        for (int day : NO_DAYS) {
            Due.due("day " + day, x.notes(day, 0), NOTHING);
        }
    }

    // Promise 20: the runs tell it, whatever the benches are now.
    static void notesTooDeep() {
        GrainBench x = sides(1);
        Due.bench(x, 0, TOO_DEEP, 9);
        x.grain(0);
        notes(x, 4, 1, 1);
    }
}
