/**
 * Each sentence on grains, parts, depths, ways, odds and clicks that names an edge has a test of its own
 * here. The comment beside a test names the promise; "Terms" are those that the promise rests on.
 */
public final class LightEdges {
    private static final long NOTHING = -2000000000L;
    private static final long[] ONE = {1, 0, 1};
    private static final long[] ZERO = {0, 0, 1};
    private static final long[] HALF = {1, 0, 2};
    private static final long[] QUARTER = {1, 0, 4};
    private static final long[] UNTOLD = {0, 0, -1};
    private static final int[] NO_GRAINS = {0, 0, 0, 0, 0};
    private static final int[] ONE_IN_0 = {1, 0, 0, 0, 0};
    private static final int[] ONE_IN_1 = {0, 1, 0, 0, 0};
    /** No product of fives and twos lies nearer to 300,000 from below (for one grain), none from above. */
    private static final String DEEP_256000 = Due.times(11, "turn 0 half") + ";" + Due.times(3, "turn 0 four");
    private static final String DEEP_312500 = Due.times(7, "turn 0 three") + ";" + Due.times(2, "turn 0 half");

    public static void main(String[] args) {
        Due.all(LightEdges.class);
    }

    private static GrainBench put(GrainBench x, int... modes) {
        for (int mode : modes) {
            x.grain(mode);
        }
        return x;
    }

    private static void odds(GrainBench x, int[] row, long[] want) {
        Due.odds(x, "row " + row[0] + row[1] + row[2] + row[3] + row[4], 0, row, want);
    }

    private static void clicks(GrainBench x, int bits, long[] want) {
        Due.clicks(x, "bits " + bits, 0, bits, want);
    }

    // Promise 1: "BENCHES have no PARTS (they let all through)".
    static void newBenchesLetAllThrough() {
        GrainBench x = new GrainBench();
        for (int bench = 0; bench < 4; bench++) {
            Due.due("count", x.count(bench + 1), 0);
            for (int from = 0; from < 10; from++) {
                for (int to = 0; to < 10; to++) {
                    Due.due("way", x.way(bench, from, to, 0), from == to ? 1 : 0);
                }
            }
        }
    }

    // Promise 1: "no grains".
    static void newObjectHasNoGrains() {
        GrainBench x = new GrainBench();
        Due.due("count(0)", x.count(0), 0);
        odds(x, NO_GRAINS, ONE);
        Due.due("clear", x.clear(), 0);
    }

    // Promise 1: "an empty SHELF".
    static void newShelfIsEmpty() {
        GrainBench x = new GrainBench();
        Due.due("count(5)", x.count(5), 0);
        Due.shelf(x, "swap 0 1", 0);
    }

    // Promise 1: nothing of another object is in a new one.
    static void newObjectBesideAnOther() {
        GrainBench used = Due.with("swap 0 1");
        put(used, 0, 1, 2);
        used.dark(0, 9);
        used.run(0, 1, 0);
        Due.shelf(used, "swap 0 1", 0);
        used.feed(0, 0, 0, 0, 0);
        used.plan(1, 1, 0, 0, 0, 0);
        used.grain(10);
        GrainBench x = new GrainBench();
        for (int what = 0; what < 8; what++) {
            Due.due("count(" + what + ")", x.count(what), 0);
        }
        Due.due("status", x.status(), 0);
        Due.due("planned(-3)", x.planned(-3), NOTHING);
        Due.due("dark", x.dark(0, 0), 0);
    }

    // Promise 2, Terms: "a MODE is PATH times 2 and MARK": the lowest.
    static void grainInTheLowestMode() {
        GrainBench x = new GrainBench();
        Due.due("grain(0)", x.grain(0), 1);
        odds(x, ONE_IN_0, ONE);
    }

    // Promise 2, Terms: the highest is path 4, mark 1.
    static void grainInTheHighestMode() {
        GrainBench x = Due.with("shift 4 mark 1 2");
        Due.due("grain(9)", x.grain(9), 1);
        odds(x, Due.row(0, 0, 0, 0, 1), ONE);
        Due.way(x, 9, 9, -1, 0, 0, 0, 1);
        Due.way(x, 8, 8, 1, 0, 0, 0, 1);
    }

    // Promise 2: "-1" just above the modes; nothing is put in.
    static void grainAboveTheModes() {
        GrainBench x = new GrainBench();
        Due.due("grain(10)", x.grain(10), -1);
        Due.due("status", x.status(), -1);
        Due.due("count(0)", x.count(0), 0);
    }

    // Promise 2: "-1" just below the modes.
    static void grainBelowTheModes() {
        GrainBench x = new GrainBench();
        Due.due("grain(-1)", x.grain(-1), -1);
        Due.due("status", x.status(), -1);
        Due.due("count(0)", x.count(0), 0);
    }

    // Promise 2: "-1" far away.
    static void grainFarAway() {
        GrainBench x = new GrainBench();
        for (int far : Due.FAR) {
            Due.due("grain(" + far + ")", x.grain(far), -1);
        }
        Due.due("count(0)", x.count(0), 0);
    }

    // Promise 2, Terms: "GRAINS, 3 at most", three are, also in one mode.
    static void thirdGrain() {
        GrainBench x = new GrainBench();
        Due.due("first", x.grain(5), 1);
        Due.due("second", x.grain(5), 2);
        Due.due("third", x.grain(5), 3);
        odds(x, Due.row(0, 0, 3, 0, 0), ONE);
    }

    // Promise 2: "-5" for a fourth; the three stay.
    static void fourthGrain() {
        GrainBench x = Due.lit(0, 2, 4);
        Due.due("fourth", x.grain(6), -5);
        Due.due("status", x.status(), -5);
        Due.due("count(0)", x.count(0), 3);
        odds(x, Due.row(1, 1, 1, 0, 0), ONE);
    }

    // Promise 2, Terms: "The first of these in that order": -1 ahead of -5.
    static void wrongModeAheadOfNoRoom() {
        GrainBench x = Due.lit(0, 2, 4);
        Due.due("grain(10)", x.grain(10), -1);
        Due.due("grain(-1)", x.grain(-1), -1);
        Due.due("status", x.status(), -1);
    }

    // Promises 2 and 11, Terms: "those of one MODE are alike, and only those": unlike marks part.
    static void onlyGrainsOfOneModeAreAlike() {
        GrainBench x = put(Due.with("split 0 1 half"), 0, 2);
        odds(x, Due.row(1, 1, 0, 0, 0), ZERO);
        x.clear();
        put(x, 0, 3);
        odds(x, Due.row(1, 1, 0, 0, 0), HALF);
    }

    // Promise 3: "how many there were": none.
    static void clearOfNone() {
        Due.due("clear", new GrainBench().clear(), 0);
    }

    // Promise 3: all three; then there are none, and three have room again.
    static void clearOfThree() {
        GrainBench x = Due.lit(0, 2, 4);
        Due.due("clear", x.clear(), 3);
        Due.due("count(0)", x.count(0), 0);
        odds(x, NO_GRAINS, ONE);
        Due.due("clear again", x.clear(), 0);
        put(x, 1, 1);
        Due.due("third again", x.grain(1), 3);
        odds(x, Due.row(3, 0, 0, 0, 0), ONE);
    }

    // Promise 3: grains alone are taken away.
    static void clearLeavesTheRest() {
        GrainBench x = put(Due.with("swap 0 1"), 0);
        Due.shelf(x, "swap 0 1", 0);
        x.dark(2, 7);
        x.run(0, 0, 0);
        x.plan(1, 0, 1, 0, 0, 0);
        x.feed(0, 0, 0, 0, 0);
        x.grain(10);
        x.clear();
        int[] want = {0, 1, 0, 0, 0, 1, 1, 20};
        for (int what = 0; what < 8; what++) {
            Due.due("count(" + what + ")", x.count(what), want[what]);
        }
        Due.due("status", x.status(), -1);
        Due.due("planned(0)", x.planned(0), 0);
        Due.due("dark", x.dark(2, 0), 7);
    }

    // Promises 3 and 11: odds that were asked for ahead of clear() are not those behind it.
    static void oddsBehindClear() {
        GrainBench x = Due.lit(0);
        odds(x, ONE_IN_0, ONE);
        x.clear();
        odds(x, ONE_IN_0, ZERO);
        odds(x, NO_GRAINS, ONE);
    }

    // Promises 2 and 11: odds follow a grain that comes later, of the lowest bench and of the highest.
    static void oddsBehindAnotherGrain() {
        GrainBench x = Due.lit(0);
        for (int bench = 0; bench < 4; bench++) {
            Due.odds(x, "one", bench, ONE_IN_0, ONE);
        }
        x.grain(2);
        for (int bench = 0; bench < 4; bench++) {
            Due.odds(x, "one", bench, ONE_IN_0, ZERO);
            Due.odds(x, "two", bench, Due.row(1, 1, 0, 0, 0), ONE);
        }
    }

    // Promises 6, 11 and 13: odds follow another bench, also from roots to none and from hidden grains to none.
    static void oddsBehindAnotherBench() {
        GrainBench x = put(Due.with("turn 0 half;split 0 1 half;turn 0 half;split 0 1 half;lose 0 half"), 0);
        odds(x, ONE_IN_0, Due.share(2, -1, 8));
        odds(x, NO_GRAINS, Due.share(2, -1, 8));
        clicks(x, 1, Due.share(2, -1, 8));
        clicks(x, 0, Due.share(2, -1, 8));
        Due.bench(x, 0, "split 0 1 half", 1);
        odds(x, ONE_IN_0, HALF);
        odds(x, NO_GRAINS, ZERO);
        clicks(x, 1, HALF);
        clicks(x, 0, ZERO);
    }

    // Promise 10, Terms: "KIND gives what stays, w, and what goes, g".
    static void kinds() {
        Due.way(Due.with("turn 0 three"), 0, 0, 3, 0, 0, 0, 5);
        Due.way(Due.with("turn 0 three"), 0, 1, 4, 0, 0, 0, 5);
        Due.way(Due.with("turn 0 four"), 0, 0, 4, 0, 0, 0, 5);
        Due.way(Due.with("turn 0 four"), 0, 1, 3, 0, 0, 0, 5);
        Due.way(Due.with("turn 0 half"), 0, 0, 0, 1, 0, 0, 2);
        Due.way(Due.with("turn 0 half"), 0, 1, 0, 1, 0, 0, 2);
    }

    // Promise 10, Terms: "A grain goes through all PARTS in order", the first and the last of sixteen, too.
    static void partsInOrder() {
        GrainBench x = Due.with("swap 0 1;" + Due.times(14, "shift 4 1") + ";swap 1 2");
        Due.way(x, 0, 4, 1, 0, 0, 0, 1);
        Due.way(x, 2, 0, 1, 0, 0, 0, 1);
        Due.way(x, 4, 2, 1, 0, 0, 0, 1);
        Due.way(Due.with("shift 0 1;swap 0 1"), 0, 2, 0, 0, 1, 0, 1);
        Due.way(Due.with("shift 0 3;swap 0 1"), 0, 2, 0, 0, -1, 0, 1);
    }

    // Promise 10, Terms: split, from the first path and from the second, each mark for itself.
    static void splitBothWays() {
        GrainBench x = Due.with("split 4 0 four");
        for (int mark = 0; mark < 2; mark++) {
            Due.way(x, 8 + mark, 8 + mark, 4, 0, 0, 0, 5);
            Due.way(x, 8 + mark, mark, 0, 0, 3, 0, 5);
            Due.way(x, mark, mark, 4, 0, 0, 0, 5);
            Due.way(x, mark, 8 + mark, 0, 0, 3, 0, 5);
            Due.way(x, mark, 9 - mark, 0, 0, 0, 0, 5);
            Due.way(x, 4 + mark, 4 + mark, 5, 0, 0, 0, 5);
        }
    }

    // Promise 10, Terms: turn: "of MARK 1 to w times itself and - g times one of MARK 0".
    static void turnOfMarkOne() {
        GrainBench x = Due.with("turn 4 three");
        Due.way(x, 9, 9, 3, 0, 0, 0, 5);
        Due.way(x, 9, 8, -4, 0, 0, 0, 5);
        Due.way(x, 8, 9, 4, 0, 0, 0, 5);
        Due.way(x, 7, 7, 5, 0, 0, 0, 5);
    }

    // Promise 10, Terms: shift: "multiplied by i as often as told", from no time to three.
    static void shiftFromZeroToThree() {
        Due.way(Due.with("shift 0 0"), 0, 0, 1, 0, 0, 0, 1);
        Due.way(Due.with("shift 0 1"), 0, 0, 0, 0, 1, 0, 1);
        Due.way(Due.with("shift 0 2"), 0, 0, -1, 0, 0, 0, 1);
        Due.way(Due.with("shift 0 3"), 0, 0, 0, 0, -1, 0, 1);
    }

    // Promise 10, Terms: shift: "(of that MARK, if it is told)", else of both; of no other path.
    static void shiftOfAMark() {
        GrainBench x = Due.with("shift 1 mark 0 2");
        Due.way(x, 2, 2, -1, 0, 0, 0, 1);
        Due.way(x, 3, 3, 1, 0, 0, 0, 1);
        x = Due.with("shift 1 mark 1 2");
        Due.way(x, 2, 2, 1, 0, 0, 0, 1);
        Due.way(x, 3, 3, -1, 0, 0, 0, 1);
        x = Due.with("shift 1 2");
        Due.way(x, 2, 2, -1, 0, 0, 0, 1);
        Due.way(x, 3, 3, -1, 0, 0, 0, 1);
        Due.way(x, 1, 1, 1, 0, 0, 0, 1);
        Due.way(x, 4, 4, 1, 0, 0, 0, 1);
    }

    // Promise 10, Terms: swap: "and the other way round", of its mark.
    static void swapBothWays() {
        GrainBench x = Due.with("swap 0 4");
        Due.way(x, 0, 8, 1, 0, 0, 0, 1);
        Due.way(x, 8, 0, 1, 0, 0, 0, 1);
        Due.way(x, 1, 9, 1, 0, 0, 0, 1);
        Due.way(x, 9, 1, 1, 0, 0, 0, 1);
        Due.way(x, 0, 0, 0, 0, 0, 0, 1);
    }

    // Promise 11, Terms: lose: "a hidden PATH of that PART alone"; in one for both, the two would add up.
    static void hiddenPathOfThatPartAlone() {
        GrainBench x = put(Due.with("lose 0 half;lose 0 half;lose 0 half"), 0);
        odds(x, ONE_IN_0, Due.share(1, 0, 8));
        odds(x, NO_GRAINS, Due.share(7, 0, 8));
    }

    // Promise 11, Terms: the hidden path of the third "lose", mark 1, with all grains in it; parts come behind.
    static void hiddenPathOfTheThirdLoss() {
        GrainBench x = put(Due.with("lose 1 half;lose 2 half;lose 0 half;swap 0 4"), 1, 1, 1);
        odds(x, NO_GRAINS, Due.share(1, 0, 8));
        odds(x, Due.row(0, 0, 0, 0, 1), Due.share(3, 0, 8));
        odds(x, Due.row(0, 0, 0, 0, 3), Due.share(1, 0, 8));
    }

    // Promise 11, Terms: lose: "one (of its MARK)"; of one mark, the two would add up.
    static void hiddenGrainsKeepTheirMarks() {
        GrainBench x = put(Due.with("turn 0 half;lose 0 half"), 0);
        odds(x, NO_GRAINS, HALF);
        odds(x, ONE_IN_0, HALF);
    }

    // Promise 11, Terms: "times k! for each MODE in which there are k grains", hidden ones, too.
    static void alikeHiddenGrains() {
        GrainBench x = put(Due.with("lose 0 half"), 0, 0);
        odds(x, NO_GRAINS, QUARTER);
        odds(x, ONE_IN_0, HALF);
        x.grain(0);
        odds(x, NO_GRAINS, Due.share(1, 0, 8));
        odds(x, ONE_IN_0, Due.share(3, 0, 8));
    }

    // Promise 10, Terms: "count: nothing".
    static void countDoesNothing() {
        GrainBench x = Due.with("count 0;count 1");
        Due.way(x, 0, 0, 1, 0, 0, 0, 1);
        Due.way(x, 3, 3, 1, 0, 0, 0, 1);
    }

    // Promise 11, Terms: "if P = n do: the DEED where there are just n grains in P, nothing else".
    static void justSoManyGrainsInTheLowestPath() {
        justSoManyGrains(0);
    }

    // Promise 11, Terms: the same in the highest path.
    static void justSoManyGrainsInTheHighestPath() {
        justSoManyGrains(4);
    }

    private static void justSoManyGrains(int path) {
        for (int n = 0; n <= 3; n++) {
            GrainBench x = Due.with("count " + path + ";if " + path + " = " + n + " do swap 2 3");
            for (int here = 0; here <= 2; here++) {
                x.clear();
                put(x, 4);
                for (int i = 0; i < here; i++) {
                    x.grain(2 * path + i);
                }
                int[] row = new int[5];
                row[path] = here;
                row[here == n ? 3 : 2] = 1;
                odds(x, row, ONE);
            }
        }
    }

    // Promise 11, Terms: a deed of a KIND that does not act leaves all odds, for one grain, two and three.
    static void waitingInVain() {
        GrainBench x = Due.with("count 0;if 0 = 3 do split 1 2 three;if 0 = 2 do turn 1 half");
        x.grain(2);
        odds(x, ONE_IN_1, ONE);
        x.grain(3);
        odds(x, Due.row(0, 2, 0, 0, 0), ONE);
        x.grain(0);
        odds(x, Due.row(1, 2, 0, 0, 0), ONE);
        Due.way(x, 2, 2, 10, 0, 0, 0, 10);
        x = put(Due.with("count 4;if 4 = 1 do turn 0 half"), 0);
        odds(x, ONE_IN_0, ONE);
        Due.way(x, 0, 0, 2, 0, 0, 0, 2);
    }

    // Promise 11, Terms: grains in hidden paths are not in P, nor are those of the path beside it.
    static void hiddenGrainsAreNotWaitedFor() {
        GrainBench x = put(Due.with("lose 0 half;count 0;if 0 = 1 do swap 2 3"), 0, 2, 4);
        odds(x, Due.row(1, 1, 0, 1, 0), HALF);
        odds(x, Due.row(0, 1, 1, 0, 0), HALF);
    }

    // Promise 11, Terms: "times k! .. through j!", for two and three alike.
    static void alikeGrainsComeTogether() {
        GrainBench x = put(Due.with("split 0 1 half"), 0, 0);
        odds(x, Due.row(2, 0, 0, 0, 0), QUARTER);
        odds(x, Due.row(1, 1, 0, 0, 0), HALF);
        x.grain(0);
        odds(x, Due.row(0, 3, 0, 0, 0), Due.share(1, 0, 8));
        odds(x, Due.row(2, 1, 0, 0, 0), Due.share(3, 0, 8));
        x.clear();
        put(x, 0, 2);
        odds(x, Due.row(2, 0, 0, 0, 0), HALF);
    }

    // Promise 11, Terms: "of x + y i: x squared and y squared". Here -1 / 2 and i / 2.
    static void sizeOfANumberWithBothParts() {
        GrainBench x = put(Due.with("split 0 1 half;shift 0 1;split 0 1 half"), 0);
        odds(x, ONE_IN_0, HALF);
        odds(x, ONE_IN_1, HALF);
    }

    // Promise 9: "NONE without" a bench: just outside, far away.
    static void deepOfNoBench() {
        GrainBench x = Due.lit(0);
        Due.due("deep(-1)", x.deep(-1), -1);
        Due.due("deep(4)", x.deep(4), -1);
        for (int far : Due.FAR) {
            Due.due("deep(" + far + ")", x.deep(far), -1);
        }
        Due.due("deep(3)", x.deep(3), 1);
    }

    // Promise 9, Terms: "each as often as there are grains": for none not at all.
    static void deepWithoutGrains() {
        Due.due("deep", Due.with(DEEP_312500).deep(0), 1);
    }

    // Promise 9, Terms: 5 for three and four, 2 for half, 1 for parts without a kind, as often as grains.
    static void deepOfEachPart() {
        String[] parts = {"split 0 1 three", "turn 0 four", "lose 0 half", "shift 0 3", "swap 0 1", "count 0"};
        int[] bases = {5, 5, 2, 1, 1, 1};
        for (int i = 0; i < parts.length; i++) {
            GrainBench x = Due.with(parts[i]);
            int want = 1;
            for (int grains = 1; grains <= 3; grains++) {
                x.grain(8);
                want *= bases[i];
                Due.due("deep of '" + parts[i] + "' for " + grains, x.deep(0), want);
            }
        }
    }

    // Promise 9, Terms: "(also behind "if")", though it may never act.
    static void deepBehindIf() {
        GrainBench x = put(Due.with("count 0;if 0 = 3 do turn 1 half;if 0 = 2 do split 1 2 four"), 0);
        Due.due("deep", x.deep(0), 10);
    }

    // Promise 9: the greatest depths that are told, for one grain and for three.
    static void deepJustBelow() {
        Due.due("for one", put(Due.with(DEEP_256000), 0).deep(0), 256000);
        Due.due("for three", put(Due.with(Due.times(6, "turn 0 half")), 0, 0, 0).deep(0), 262144);
    }

    // Promise 9: "told as 300,001, if it is above 300,000".
    static void deepJustAbove() {
        Due.due("312,500", put(Due.with(DEEP_312500), 0).deep(0), 300001);
    }

    // Promise 9: 5 to the 48th would wrap around, 2 to the 48th would be 0.
    static void deepFarAbove() {
        Due.due("fives", put(Due.with(Due.times(16, "turn 0 three")), 0, 0, 0).deep(0), 300001);
        Due.due("twos", put(Due.with(Due.times(16, "turn 0 half")), 0, 0, 0).deep(0), 300001);
    }

    // Promise 9: "for the grains that there are".
    static void deepBehindClear() {
        GrainBench x = put(Due.with(DEEP_312500), 0);
        x.clear();
        Due.due("deep", x.deep(0), 1);
    }

    // Promise 10: "(0 .. 9 ..)": modes from the lowest to the highest.
    static void wayFromAndToTheEdges() {
        GrainBench x = Due.with("swap 0 4");
        Due.way(x, 0, 8, 1, 0, 0, 0, 1);
        Due.way(x, 9, 1, 1, 0, 0, 0, 1);
        Due.way(x, 9, 9, 0, 0, 0, 0, 1);
    }

    // Promise 10: "NOTHING without": from a mode outside.
    static void wayFromNoMode() {
        GrainBench x = new GrainBench();
        for (int from : new int[] {-1, 10, Integer.MIN_VALUE, Integer.MAX_VALUE}) {
            Due.way(x, from, 0, NOTHING, NOTHING, NOTHING, NOTHING, NOTHING);
        }
    }

    // Promise 10: to a mode outside; 10 is also where the first hidden grains may be.
    static void wayToNoMode() {
        GrainBench x = Due.with("lose 0 half");
        for (int to : new int[] {-1, 10, Integer.MIN_VALUE, Integer.MAX_VALUE}) {
            Due.way(x, 0, to, NOTHING, NOTHING, NOTHING, NOTHING, NOTHING);
        }
    }

    // Promise 10: no such bench.
    static void wayOfNoBench() {
        GrainBench x = new GrainBench();
        for (int bench : new int[] {-1, 4, Integer.MIN_VALUE, Integer.MAX_VALUE}) {
            Due.due("way(" + bench + ", ..)", x.way(bench, 0, 0, 0), NOTHING);
            Due.due("way(" + bench + ", .., 4)", x.way(bench, 0, 0, 4), NOTHING);
        }
        Due.due("way(3, ..)", x.way(3, 0, 0, 4), 1);
    }

    // Promise 10: what outside 0 .. 4.
    static void wayOfAnotherWhat() {
        GrainBench x = new GrainBench();
        for (int what : new int[] {-1, 5, Integer.MIN_VALUE, Integer.MAX_VALUE}) {
            Due.due("what " + what, x.way(0, 0, 0, what), NOTHING);
        }
    }

    // Promise 10: "too DEEP for one grain, too", though there is none; its depth is NOTHING as well.
    static void wayTooDeep() {
        GrainBench x = Due.with(DEEP_312500);
        Due.way(x, 0, 0, NOTHING, NOTHING, NOTHING, NOTHING, NOTHING);
        Due.way(x, 8, 8, NOTHING, NOTHING, NOTHING, NOTHING, NOTHING);
    }

    // Promise 10: just not too deep. 11 halves are 495 degrees; a grain in another path goes through.
    static void wayJustNotTooDeep() {
        GrainBench x = Due.with(DEEP_256000);
        Due.way(x, 8, 8, 256000, 0, 0, 0, 256000);
        Due.due("way(0, 0, 0, 4)", x.way(0, 0, 0, 4), 256000);
    }

    // Promise 10: DEEP "for one grain", however many there are.
    static void wayIsForOneGrain() {
        GrainBench x = put(Due.with(Due.times(7, "turn 0 three")), 2, 2, 2);
        Due.due("deep", x.deep(0), 300001);
        Due.way(x, 2, 2, 78125, 0, 0, 0, 78125);
        x.clear();
        Due.way(x, 2, 2, 78125, 0, 0, 0, 78125);
    }

    // Promise 10, Terms: "(in no lowest terms)".
    static void wayInNoLowestTerms() {
        Due.way(Due.with("turn 0 half;turn 0 half"), 0, 1, 4, 0, 0, 0, 4);
        Due.way(Due.with("turn 0 half;turn 0 half"), 0, 0, 0, 0, 0, 0, 4);
    }

    // Promise 10: "what 0 a, 1 b, 2 c, 3 d": each part in its place. Halves are r / 2 and i r / 2.
    static void wayHasFourParts() {
        GrainBench x = Due.with("split 0 1 half");
        Due.way(x, 0, 0, 0, 1, 0, 0, 2);
        Due.way(x, 0, 2, 0, 0, 0, 1, 2);
    }

    // Promise 10: "if a PART behind "if" is for 1 grain, it acts where that grain is", not elsewhere.
    static void wayBehindIf() {
        GrainBench x = Due.with("count 0;if 0 = 1 do shift 1 2");
        Due.way(x, 2, 2, 1, 0, 0, 0, 1);
        Due.way(x, 0, 0, 1, 0, 0, 0, 1);
        x = Due.with("count 0;if 0 = 0 do shift 1 2");
        Due.way(x, 2, 2, -1, 0, 0, 0, 1);
        x = Due.with("count 0;if 0 = 2 do shift 1 2");
        Due.way(x, 2, 2, 1, 0, 0, 0, 1);
    }

    // Promise 11: "-1 in w, 0 in u and v without a BENCH".
    static void oddsOfNoBench() {
        GrainBench x = Due.lit(0);
        for (int bench : new int[] {-1, 4, Integer.MIN_VALUE, Integer.MAX_VALUE}) {
            Due.odds(x, "bench " + bench, bench, ONE_IN_0, UNTOLD);
        }
        Due.odds(x, "bench 3", 3, ONE_IN_0, ONE);
    }

    // Promise 11, Terms: "one number (0 .. 3) for each PATH": three are.
    static void oddsOfThreeInEachPath() {
        for (int path = 0; path < 5; path++) {
            int[] row = new int[5];
            row[path] = 3;
            odds(Due.lit(2 * path, 2 * path + 1, 2 * path), row, ONE);
        }
    }

    // Promise 11: "for counts that can't be": 4 in each path.
    static void oddsOfFourInAPath() {
        for (int path = 0; path < 5; path++) {
            int[] row = new int[5];
            row[path] = 4;
            odds(Due.lit(0), row, UNTOLD);
        }
    }

    // Promise 11: -1 in each path, also where the sum would be right.
    static void oddsBelowZeroInAPath() {
        for (int path = 0; path < 5; path++) {
            int[] row = new int[5];
            row[(path + 1) % 5] = 2;
            row[path] = -1;
            odds(Due.lit(0), row, UNTOLD);
        }
    }

    // Promise 11: counts far away.
    static void oddsOfFarCounts() {
        for (int far : Due.FAR) {
            for (int path = 0; path < 5; path++) {
                int[] row = new int[5];
                row[path] = far;
                odds(Due.lit(0), row, UNTOLD);
            }
        }
    }

    // Promise 11: "or too DEEP".
    static void oddsTooDeep() {
        GrainBench x = put(Due.with(DEEP_312500), 0);
        odds(x, ONE_IN_0, UNTOLD);
        odds(x, NO_GRAINS, UNTOLD);
        odds(x, Due.row(3, 3, 3, 3, 3), UNTOLD);
    }

    // Promise 11: just not too deep.
    static void oddsJustNotTooDeep() {
        odds(put(Due.with(DEEP_256000), 0), ONE_IN_0, ONE);
        odds(put(Due.with(Due.times(6, "turn 0 half")), 0, 0, 0), Due.row(3, 0, 0, 0, 0), ONE);
    }

    // Promise 11, Terms: "nothing can be told of that BENCH with these grains": with others it can.
    static void oddsTooDeepForTheseGrainsAlone() {
        GrainBench x = put(Due.with(Due.times(7, "turn 0 half")), 0, 0, 0);
        odds(x, Due.row(3, 0, 0, 0, 0), UNTOLD);
        Due.odds(x, "another bench", 1, Due.row(3, 0, 0, 0, 0), ONE);
        x.clear();
        put(x, 0, 0);
        odds(x, Due.row(2, 0, 0, 0, 0), ONE);
        x.grain(0);
        odds(x, Due.row(3, 0, 0, 0, 0), UNTOLD);
    }

    // Promise 11: "NONE for another what", whatever else is wrong.
    static void oddsOfAnotherWhat() {
        GrainBench x = Due.lit(0);
        for (int what : new int[] {-1, 3, Integer.MIN_VALUE, Integer.MAX_VALUE}) {
            Due.due("what " + what, x.odds(0, 1, 0, 0, 0, 0, what), -1);
            Due.due("what " + what + " of no bench", x.odds(4, 9, 0, 0, 0, 0, what), -1);
        }
    }

    // Promise 11: "A row with more .. grains than there may be has ODDS 0 / 1".
    static void oddsOfMoreGrains() {
        GrainBench x = Due.lit(0);
        odds(x, Due.row(2, 0, 0, 0, 0), ZERO);
        odds(x, Due.row(1, 0, 0, 0, 1), ZERO);
        odds(x, ONE_IN_0, ONE);
        Due.due("u of far more, right behind", x.odds(0, 3, 3, 3, 3, 3, 0), 0);
        odds(x, Due.row(3, 3, 3, 3, 3), ZERO);
        odds(new GrainBench(), Due.row(0, 0, 0, 0, 1), ZERO);
        odds(new GrainBench(), Due.row(2, 2, 0, 0, 0), ZERO);
        odds(Due.lit(0, 0, 0), Due.row(3, 1, 0, 0, 0), ZERO);
        odds(Due.lit(0, 0, 0), Due.row(1, 3, 0, 0, 0), ZERO);
    }

    // Promise 11: "or fewer grains".
    static void oddsOfFewerGrains() {
        odds(Due.lit(0), NO_GRAINS, ZERO);
        odds(Due.lit(0, 0, 0), Due.row(2, 0, 0, 0, 0), ZERO);
    }

    // Promise 11: a bench without grains: all counts are 0 for sure.
    static void oddsWithoutGrains() {
        odds(Due.with("split 0 1 half;lose 0 three"), NO_GRAINS, ONE);
    }

    // Promise 11, Terms: "(of both MARKS together, hidden ones any)".
    static void oddsOfBothMarksTogether() {
        odds(put(Due.with("turn 0 three"), 0), ONE_IN_0, ONE);
        odds(Due.lit(0, 1), Due.row(2, 0, 0, 0, 0), ONE);
        odds(put(Due.with("lose 0 half;lose 0 half"), 0), NO_GRAINS, Due.share(3, 0, 4));
    }

    // Promise 11, Terms: "no whole number above 1 goes into all three": 2 and 4 stay, 1 does not share.
    static void oddsInLowestTerms() {
        GrainBench x = put(Due.with("turn 0 half;split 0 1 half;turn 0 half;split 0 1 half"), 0);
        odds(x, ONE_IN_0, Due.share(2, -1, 4));
        odds(x, ONE_IN_1, Due.share(2, 1, 4));
        odds(put(Due.with("split 0 1 half"), 0), ONE_IN_0, HALF);
    }

    // Promise 11, Terms: "written out as a sum of products": all rows together are 1, the roots among them 0.
    static void oddsOfAllRowsTogether() {
        GrainBench x = put(Due.with("split 0 1 half;turn 0 half;split 1 2 half;turn 1 half;split 2 3 half;split 0 4 half"), 0, 3, 9);
        Due.due("deep", x.deep(0), 262144);
        long u = 0;
        long v = 0;
        for (int code = 0; code < 1024; code++) {
            int[] r = {code & 3, code >> 2 & 3, code >> 4 & 3, code >> 6 & 3, code >> 8 & 3};
            if (r[0] + r[1] + r[2] + r[3] + r[4] != 3) {
                continue;
            }
            long w = x.odds(0, r[0], r[1], r[2], r[3], r[4], 2);
            Due.holds("w goes into 2 to the 18th", w > 0 && (1 << 18) % w == 0);
            u += x.odds(0, r[0], r[1], r[2], r[3], r[4], 0) * ((1 << 18) / w);
            v += x.odds(0, r[0], r[1], r[2], r[3], r[4], 1) * ((1 << 18) / w);
        }
        Due.due("all u", u, 1 << 18);
        Due.due("all v", v, 0);
    }

    // Promise 12: "what it was", at first 0.
    static void darkAtFirst() {
        GrainBench x = new GrainBench();
        for (int path = 0; path < 5; path++) {
            Due.due("dark(" + path + ", 9)", x.dark(path, 9), 0);
        }
        for (int path = 0; path < 5; path++) {
            Due.due("dark(" + path + ", 0)", x.dark(path, 0), 9);
        }
    }

    // Promise 12: "-1" for a path just outside or far away.
    static void darkOfNoPath() {
        GrainBench x = new GrainBench();
        for (int path : new int[] {-1, 5, Integer.MIN_VALUE, Integer.MAX_VALUE}) {
            Due.due("dark(" + path + ", 1)", x.dark(path, 1), -1);
            Due.due("status", x.status(), -1);
        }
        clicks(x, 0, ONE);
    }

    // Promise 12, Terms: "(0 .. 9 tenths ..)": "-1" for 10, -1 and far ones; what was stays.
    static void darkOfNoTenths() {
        GrainBench x = new GrainBench();
        x.dark(4, 3);
        for (int tenths : new int[] {-1, 10, Integer.MIN_VALUE, Integer.MAX_VALUE}) {
            Due.due("dark(4, " + tenths + ")", x.dark(4, tenths), -1);
            Due.due("status", x.status(), -1);
        }
        Due.due("dark(4, 0)", x.dark(4, 0), 3);
    }

    // Promise 13, Terms: "DARK (0 .. 9 tenths)": 0 never clicks without a grain, 9 mostly does.
    static void clicksOfLeastAndMostDark() {
        GrainBench x = new GrainBench();
        clicks(x, 1, ZERO);
        clicks(x, 0, ONE);
        x.dark(0, 9);
        clicks(x, 1, Due.share(9, 0, 10));
        clicks(x, 0, Due.share(1, 0, 10));
        x.dark(0, 0);
        clicks(x, 1, ZERO);
    }

    // Promise 13: all five at their most.
    static void clicksOfAllAtTheirDarkest() {
        GrainBench x = new GrainBench();
        for (int path = 0; path < 5; path++) {
            x.dark(path, 9);
        }
        clicks(x, 31, Due.share(59049, 0, 100000));
        clicks(x, 0, Due.share(1, 0, 100000));
        clicks(x, 16, Due.share(9, 0, 100000));
    }

    // Promise 13, Terms: "one CLICKS, if a grain is in its PATH, or by DARK .. without".
    static void clicksWithAGrain() {
        GrainBench x = Due.lit(0);
        x.dark(0, 9);
        x.dark(1, 3);
        clicks(x, 1, Due.share(7, 0, 10));
        clicks(x, 3, Due.share(3, 0, 10));
        clicks(x, 0, ZERO);
        clicks(x, 2, ZERO);
    }

    // Promise 13, Terms: "that just those COUNTERS CLICK", however many grains are in a path.
    static void clicksOfJustThose() {
        clicks(Due.lit(0, 0, 1), 1, ONE);
        GrainBench x = Due.lit(0, 4, 9);
        clicks(x, 21, ONE);
        clicks(x, 20, ZERO);
        clicks(x, 23, ZERO);
        clicks(x, 31, ZERO);
    }

    // Promise 13: hidden grains click nowhere.
    static void clicksOfHiddenGrains() {
        GrainBench x = put(Due.with("lose 0 half"), 0);
        clicks(x, 0, HALF);
        clicks(x, 1, HALF);
    }

    // Promise 13, Terms: "as above": with roots, in lowest terms.
    static void clicksWithRoots() {
        GrainBench x = put(Due.with("turn 0 half;split 0 1 half;turn 0 half;split 0 1 half"), 0);
        x.dark(1, 5);
        clicks(x, 1, Due.share(2, -1, 8));
        clicks(x, 3, Due.share(2, -1, 8));
        clicks(x, 2, Due.share(2, 1, 4));
        x.dark(0, 5);
        // (2 - r) / 8 and (2 + r) / 8: the roots are gone.
        clicks(x, 3, HALF);
    }

    // Promise 13: "(bits 0 .. 31)": the highest alone.
    static void clicksOfTheHighestCounter() {
        clicks(Due.lit(8), 16, ONE);
        clicks(Due.lit(8), 1, ZERO);
    }

    // Promise 13: "bits that can't be, too".
    static void clicksOfNoBits() {
        for (int bits : new int[] {-1, 32, 33, Integer.MIN_VALUE, Integer.MAX_VALUE}) {
            clicks(Due.lit(0), bits, UNTOLD);
        }
    }

    // Promise 13: "as odds() without" a bench.
    static void clicksOfNoBench() {
        GrainBench x = Due.lit(0);
        for (int bench : new int[] {-1, 4, Integer.MIN_VALUE, Integer.MAX_VALUE}) {
            Due.clicks(x, "bench " + bench, bench, 1, UNTOLD);
        }
        Due.clicks(x, "bench 3", 3, 1, ONE);
    }

    // Promise 13: "as odds()": too deep, and just not.
    static void clicksTooDeep() {
        clicks(put(Due.with(DEEP_312500), 0), 1, UNTOLD);
        clicks(put(Due.with(DEEP_256000), 0), 1, ONE);
    }

    // Promise 13: the greatest numbers that come up, 5 to the 14th times 2 times 10 to the 5th, stay whole.
    static void clicksOfTheGreatestNumbers() {
        GrainBench x = put(Due.with(Due.times(7, "split 0 1 three") + ";lose 0 half"), 0);
        odds(x, ONE_IN_0, Due.share(5843532249L, 0, 12207031250L));
        odds(x, ONE_IN_1, Due.share(259983376, 0, 6103515625L));
        for (int path = 0; path < 5; path++) {
            x.dark(path, 9);
        }
        // (3 + 4 i) to the 7th is 76443 + 16124 i, A and B their squares: 9^4 (19 A + 20 B) / (2 5^14 10^5).
        clicks(x, 31, Due.share(762563905226811L, 0, 1220703125000000L));
    }

    // Promise 13: "NONE" for another what, as odds().
    static void clicksOfAnotherWhat() {
        GrainBench x = Due.lit(0);
        for (int what : new int[] {-1, 3, Integer.MIN_VALUE, Integer.MAX_VALUE}) {
            Due.due("what " + what, x.clicks(0, 1, what), -1);
            Due.due("what " + what + " of no bench", x.clicks(4, 99, what), -1);
        }
    }
}
