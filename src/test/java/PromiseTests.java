/** Each promise of the document with answers worked out by hand: ordinary calls, edges, wrong ones. */
public final class PromiseTests {
    private static final long NOTHING = -2000000000L;
    private static final int[] FAR = {Integer.MIN_VALUE, Integer.MAX_VALUE};

    public static void main(String[] args) {
        newObject();
        grainAndClear();
        tape();
        benchTexts();
        faults();
        waitingTexts();
        shelfTexts();
        depths();
        ways();
        oddsOfOne();
        oddsOfMany();
        oddsBehindWaiting();
        oddsRefused();
        darkClicks();
        runsAndCounted();
        wrongRuns();
        misfits();
        pairsAndNotes();
        notesBelowTwo();
        plans();
        planFullShelf();
        planTooDeep();
        planTies();
        planRoots();
        builds();
        statuses();
        keptUntilChanged();
        Due.finish("PromiseTests");
    }

    // Promise 1.
    private static void newObject() {
        GrainBench x = new GrainBench();
        for (int what = 0; what < 8; what++) {
            Due.due("new count(" + what + ")", x.count(what), 0);
        }
        Due.due("new fault", x.fault(), GrainBench.NONE);
        Due.due("new status", x.status(), 0);
        for (int bench = 0; bench < 4; bench++) {
            Due.due("new deep", x.deep(bench), 1);
            Due.odds(x, "new, none", bench, Due.row(0, 0, 0, 0, 0), Due.share(1, 0, 1));
            Due.odds(x, "new, one", bench, Due.row(1, 0, 0, 0, 0), Due.share(0, 0, 1));
            Due.clicks(x, "new, silent", bench, 0, Due.share(1, 0, 1));
            Due.due("new way", x.way(bench, 7, 7, 0), 1);
            Due.due("new way across", x.way(bench, 7, 6, 0), 0);
        }
        for (int i = -4; i < 4; i++) {
            Due.due("new planned(" + i + ")", x.planned(i), NOTHING);
        }
    }

    // Promises 2 and 3; 24.
    private static void grainAndClear() {
        GrainBench x = new GrainBench();
        Due.due("clear of none", x.clear(), 0);
        Due.due("grain(-1)", x.grain(-1), -1);
        Due.due("grain(9)", x.grain(9), 1);
        Due.due("grain(9) again", x.grain(9), 2);
        Due.due("grain(0)", x.grain(0), 3);
        Due.due("grain(10) when full", x.grain(10), -1);
        Due.due("grain(1) when full", x.grain(1), -5);
        Due.due("count(0)", x.count(0), 3);
        Due.odds(x, "three grains", 0, Due.row(1, 0, 0, 0, 2), Due.share(1, 0, 1));
        Due.due("clear", x.clear(), 3);
        Due.due("count(0) cleared", x.count(0), 0);
        Due.odds(x, "cleared", 0, Due.row(0, 0, 0, 0, 0), Due.share(1, 0, 1));
        for (int far : FAR) {
            Due.due("grain(" + far + ")", x.grain(far), -1);
            Due.due("count(" + far + ")", x.count(far), -1);
        }
        Due.due("count(8)", x.count(8), -1);
        Due.due("count(-1)", x.count(-1), -1);
    }

    // Promises 4 and 5.
    private static void tape() {
        GrainBench x = new GrainBench();
        Due.due("end(1) of an empty tape", x.end(1), -1);
        Due.due("end(0) of an empty tape", x.end(0), 0);
        for (int i = 1; i <= 20; i++) {
            Due.due("feed", x.feed(0x20202020, 0x20202020, 0x20202020, 0x20202020, 0x20202020), 20 * i);
        }
        Due.due("feed of a full tape", x.feed(0, 0, 0, 0, 0), -1);
        Due.due("count(7)", x.count(7), 400);
        Due.due("end(401)", x.end(401), -1);
        Due.due("end(-1)", x.end(-1), -1);
        Due.due("end(400)", x.end(400), 400);
        Due.due("end(381)", x.end(381), 381);
        Due.due("feed beyond 400", x.feed(0, 0, 0, 0, 0), -1);
        Due.due("end(380)", x.end(380), 380);
        Due.due("feed up to 400", x.feed(0x20202020, 0x20202020, 0x20202020, 0x20202020, 0x20202020), 400);
        Due.due("400 blanks", x.bench(0), 0);
        Due.due("tape behind bench", x.count(7), 0);
        x.feed(0x80FF0000, 0, 0, 0, 0);
        Due.due("a byte of 128", x.bench(0), -6);
        Due.due("its fault", x.fault(), 0);
        for (int far : FAR) {
            Due.due("end(" + far + ")", x.end(far), -1);
        }
    }

    // Promises 6 and 8.
    private static void benchTexts() {
        GrainBench x = new GrainBench();
        Due.bench(x, 0, "split 0 1 half;turn 4 three ; shift 2 mark 0 3;shift 3 0;swap 1 4;lose 2 four;count 3", 7);
        Due.due("count(1)", x.count(1), 7);
        Due.due("fault without", x.fault(), -1);
        Due.bench(x, 0, "if", -6);
        Due.due("a bench stays", x.count(1), 7);
        Due.due("the tape does not", x.count(7), 0);
        Due.bench(x, 1, "split0 1half;shift0mark1 3;count0;if0=1do swap 1 2", 4);
        Due.bench(x, 2, "  \t".substring(0, 2), 0);
        Due.bench(x, 2, "  swap  0  1  ", 1);
        Due.bench(x, 3, sixteen("swap 0 1"), 16);
        Due.due("count(4)", x.count(4), 16);
        for (int none : new int[] {4, -1, Integer.MIN_VALUE, Integer.MAX_VALUE}) {
            Due.bench(x, none, "swap 0 0", -2);
            Due.due("the tape is empty behind bench(" + none + ")", x.count(7), 0);
            Due.due("fault of the latest that was read", x.fault(), -1);
        }
        Due.bench(x, 0, "swap 0 0", -6);
        Due.bench(x, 4, "swap 0 1", -2);
        Due.due("no text was read, so the fault is as it was", x.fault(), 7);
        Due.due("the next text begins anew", x.feed(0x20202020, 0x20202020, 0x20202020, 0x20202020, 0x20202020), 20);
        Due.due("blanks of it alone", x.bench(3), 0);
        Due.bench(x, 3, "lose 0 half;lose 0 half;lose 0 half", 3);
        Due.bench(x, 3, "shift 00 003", 1);
        cutText(x, "swap 0 12", 8);
        cutText(x, "turn 0 halfs", 11);
    }

    /** Bytes that end() took away are not read, also if they would go on with the last token. */
    private static void cutText(GrainBench x, String text, int length) {
        Due.tell(x, text);
        Due.due("end of '" + text + "'", x.end(length), length);
        Due.due("bench of '" + text + "' up to " + length, x.bench(3), 1);
    }

    private static String sixteen(String part) {
        StringBuilder text = new StringBuilder(part);
        for (int i = 1; i < 16; i++) {
            text.append(';').append(part);
        }
        return text.toString();
    }

    private static void fault(GrainBench x, String text, int place) {
        Due.bench(x, 0, text, -6);
        Due.due("fault of '" + text + "'", x.fault(), place);
        Due.due("status of it", x.status(), -6);
    }

    // Promises 6 and 8.
    private static void faults() {
        GrainBench x = new GrainBench();
        fault(x, ";", 0);
        fault(x, "swap 0 1;", 9);
        fault(x, "swap 0 1;  ", 11);
        fault(x, "swap 0 1;;swap 0 1", 9);
        fault(x, "swap 0 1 swap 0 1", 9);
        fault(x, "swap 0 1 2", 9);
        fault(x, "swaps 0 1", 0);
        fault(x, "swapz 0 1", 0);
        fault(x, "aswap 0 1", 0);
        fault(x, "swap{0 1", 4);
        fault(x, "swap`0 1", 4);
        fault(x, "swap /0 1", 5);
        fault(x, "swap 0:1", 6);
        fault(x, "Swap 0 1", 0);
        fault(x, "swap\t0 1", 4);
        fault(x, "swap 01 2 three", 10);
        fault(x, "swap 5 0", 5);
        fault(x, "swap 10 0", 5);
        fault(x, "swap 19 0", 5);
        fault(x, "swap -1 0", 5);
        fault(x, "swap 99999999999999999999 0", 5);
        fault(x, "swap 3 3", 7);
        fault(x, "swap 3", 6);
        fault(x, "swap", 4);
        fault(x, "split 0 1", 9);
        fault(x, "split 0 1 5", 10);
        fault(x, "split 0 1 halfturn", 10);
        fault(x, "turn 0 1 half", 7);
        fault(x, "turn half", 5);
        fault(x, "shift 0 mark", 12);
        fault(x, "shift 0 mark 2", 13);
        fault(x, "shift 0 mark 2 1", 13);
        fault(x, "shift 0 mark 1", 14);
        fault(x, "shift 0 mark 1 4", 15);
        fault(x, "shift 0 4", 8);
        fault(x, "shift 0 three", 8);
        fault(x, "lose 0", 6);
        fault(x, "lose 7 half", 5);
        fault(x, "count", 5);
        fault(x, "count 5", 6);
        fault(x, "do swap 0 1", 0);
        fault(x, "lose 0 half;lose 0 half;lose 0 half;lose 9 none", 36);
        fault(x, sixteen("swap 0 1") + ";swap 0 1", 16 * 9);
        fault(x, sixteen("swap 0 1") + "; ?", 16 * 9 + 1);
        fault(x, sixteen("swap 0 1") + ";", 16 * 9);
        fault(x, sixteen("swap 0 1") + " ?", 16 * 9);
        Due.due("no bench came of it", x.count(1), 0);
    }

    // Promises 6 and 8.
    private static void waitingTexts() {
        GrainBench x = new GrainBench();
        fault(x, "if 0 = 1 do swap 1 2", 3);
        fault(x, "count 0;if 1 = 1 do swap 1 2", 11);
        fault(x, "count 0;if 0 1 do swap 1 2", 13);
        fault(x, "if swap 1 2", 3);
        fault(x, "count 0;if swap 1 2", 11);
        fault(x, "count 0;if 0 swap 1 2", 13);
        fault(x, "count 0;if 0 = swap 1 2", 15);
        fault(x, "count 0;if 0 = 4 do swap 1 2", 15);
        fault(x, "count 0;if 0 = 1 swap 1 2", 17);
        fault(x, "count 0;if 0 = 1 do swap 0 2", 25);
        fault(x, "count 0;if 0 = 1 do swap 2 0", 27);
        fault(x, "count 0;if 0 = 1 do lose 1 half", 20);
        fault(x, "count 0;if 0 = 1 do count 1", 20);
        fault(x, "count 0;if 0 = 1 do if 0 = 1 do swap 1 2", 20);
        fault(x, "count 0;if 0 = 1 do", 19);
        fault(x, "count 0;count 0", 14);
        fault(x, "count 0;lose 0 half", 13);
        fault(x, "count 0;shift 0 1", 14);
        fault(x, "count 0;split 1 0 half", 16);
        fault(x, "count 3;turn 3 half", 13);
        Due.bench(x, 0, "count 0;count 1;if 0 = 3 do swap 2 3;if 1 = 0 do turn 4 half;lose 2 half", 5);
        Due.bench(x, 0, "turn 0 half;count 1", 2);
    }

    // Promises 7 and 8.
    private static void shelfTexts() {
        GrainBench x = new GrainBench();
        String[] refused = {"", "  ", "count 0", "lose 0 half", "if 0 = 1 do swap 0 1", "swap 0 1;", "swap 0 1;swap 0 1", "swap 0 0"};
        int[] places = {0, 2, 0, 0, 0, 8, 8, 7};
        for (int i = 0; i < refused.length; i++) {
            Due.shelf(x, refused[i], -6);
            Due.due("shelf fault of '" + refused[i] + "'", x.fault(), places[i]);
            Due.due("the tape is empty then", x.count(7), 0);
        }
        String[] taken = {"split 0 1 half", " turn 0 three ", "shift 0 mark 1 2", "swap 3 4"};
        for (int i = 0; i < 8; i++) {
            Due.shelf(x, taken[i % 4], i);
            Due.due("shelf fault without", x.fault(), -1);
        }
        Due.due("count(5)", x.count(5), 8);
        Due.shelf(x, "nothing good", -5);
        Due.due("the tape is empty behind a full shelf", x.count(7), 0);
        Due.due("it was not read, so it has no fault", x.fault(), -1);
        Due.bench(x, 0, "swap 0 0", -6);
        Due.shelf(x, "swap 0 1", -5);
        Due.due("the tape is empty again", x.count(7), 0);
        Due.due("the fault is as it was", x.fault(), 7);
        Due.due("the shelf, too", x.count(5), 8);
    }

    // Promise 9.
    private static void depths() {
        GrainBench x = new GrainBench();
        Due.bench(x, 0, "split 0 1 three;turn 2 four;lose 3 half;count 4;shift 0 1;swap 0 1;if 4 = 0 do turn 0 half", 7);
        Due.due("deep without grains", x.deep(0), 1);
        x.grain(0);
        Due.due("deep of one", x.deep(0), 100);
        x.grain(0);
        Due.due("deep of two", x.deep(0), 10000);
        x.grain(4);
        Due.due("deep of three", x.deep(0), 300001);
        Due.due("deep(4)", x.deep(4), -1);
        Due.due("deep(-1)", x.deep(-1), -1);
        Due.bench(x, 1, "turn 0 three;turn 0 three;turn 0 half", 3);
        Due.due("50 by 50 by 50", x.deep(1), 125000);
        Due.bench(x, 1, sixteen("turn 0 three"), 16);
        Due.due("far too deep", x.deep(1), 300001);
        Due.bench(x, 2, "turn 0 half;turn 0 half;turn 0 half;turn 0 half;turn 0 half;turn 0 half", 6);
        Due.due("64 by 64 by 64", x.deep(2), 262144);
    }

    private static void way(GrainBench x, int bench, int from, int to, long... want) {
        for (int what = 0; what < want.length; what++) {
            Due.due("way(" + bench + ", " + from + ", " + to + ", " + what + ")", x.way(bench, from, to, what), want[what]);
        }
    }

    // Promise 10.
    private static void ways() {
        GrainBench x = new GrainBench();
        Due.bench(x, 0, "split 0 1 three", 1);
        way(x, 0, 0, 0, 3, 0, 0, 0, 5);
        way(x, 0, 0, 2, 0, 0, 4, 0, 5);
        way(x, 0, 3, 1, 0, 0, 4, 0, 5);
        way(x, 0, 3, 3, 3, 0, 0, 0, 5);
        way(x, 0, 0, 3, 0, 0, 0, 0, 5);
        way(x, 0, 4, 4, 5, 0, 0, 0, 5);
        Due.bench(x, 1, "turn 2 four", 1);
        way(x, 1, 4, 5, 3, 0, 0, 0, 5);
        way(x, 1, 5, 4, -3, 0, 0, 0, 5);
        way(x, 1, 5, 5, 4, 0, 0, 0, 5);
        Due.bench(x, 2, "shift 1 1;shift 1 mark 0 2;swap 1 2;lose 2 half;shift 2 3", 5);
        way(x, 2, 2, 4, 0, -1, 0, 0, 2);
        way(x, 2, 3, 5, 0, 1, 0, 0, 2);
        way(x, 2, 4, 2, 2, 0, 0, 0, 2);
        Due.bench(x, 3, "split 0 1 half;count 0;if 0 = 0 do shift 1 1;if 0 = 1 do turn 1 three;if 0 = 2 do swap 1 2", 5);
        way(x, 3, 0, 0, 0, 5, 0, 0, 10);
        way(x, 3, 0, 2, 0, -5, 0, 0, 10);
        way(x, 3, 0, 4, 0, 0, 0, 0, 10);
        Due.bench(x, 3, "turn 0 three;turn 0 three;turn 0 three;turn 0 three;turn 0 three;turn 0 three;turn 0 three", 7);
        Due.due("5 to the 7th", x.way(3, 0, 0, 4), 78125);
        Due.bench(x, 3, "turn 0 three;turn 0 three;turn 0 three;turn 0 three;turn 0 three;turn 0 three;turn 0 three;turn 0 three", 8);
        way(x, 3, 0, 0, NOTHING, NOTHING, NOTHING, NOTHING, NOTHING);
        Due.due("what 5", x.way(0, 0, 0, 5), NOTHING);
        Due.due("what -1", x.way(0, 0, 0, -1), NOTHING);
        Due.due("from 10", x.way(0, 10, 0, 0), NOTHING);
        Due.due("from -1", x.way(0, -1, 0, 4), NOTHING);
        Due.due("to 10", x.way(0, 0, 10, 4), NOTHING);
        Due.due("to -1", x.way(0, 0, -1, 0), NOTHING);
        Due.due("bench -1", x.way(-1, 0, 0, 0), NOTHING);
        for (int far : FAR) {
            Due.due("way far", x.way(far, far, far, far), NOTHING);
        }
    }

    // Promise 11.
    private static void oddsOfOne() {
        GrainBench x = new GrainBench();
        x.grain(0);
        // Path 0 has 9 / 25 less 16 r / 50, path 1 has i times 12 / 25 and 12 r / 50; squared by hand.
        Due.bench(x, 0, "split 0 1 three;split 1 2 half;split 0 1 three", 3);
        Due.odds(x, "roots", 0, Due.row(1, 0, 0, 0, 0), Due.share(209, -144, 625));
        Due.odds(x, "roots", 0, Due.row(0, 1, 0, 0, 0), Due.share(216, 144, 625));
        Due.odds(x, "roots", 0, Due.row(0, 0, 1, 0, 0), Due.share(8, 0, 25));
        Due.bench(x, 1, "lose 0 four;lose 0 four;lose 0 half", 3);
        Due.odds(x, "lost thrice", 1, Due.row(1, 0, 0, 0, 0), Due.share(128, 0, 625));
        Due.odds(x, "lost thrice", 1, Due.row(0, 0, 0, 0, 0), Due.share(497, 0, 625));
        GrainBench y = new GrainBench();
        Due.bench(y, 0, "lose 1 half;lose 2 half;lose 0 half", 3);
        for (int i = 0; i < 3; i++) {
            y.grain(1);
        }
        Due.odds(y, "all lost at the last", 0, Due.row(0, 0, 0, 0, 0), Due.share(1, 0, 8));
        Due.odds(y, "two lost at the last", 0, Due.row(1, 0, 0, 0, 0), Due.share(3, 0, 8));
        Due.bench(x, 2, "turn 0 half;split 0 1 half;turn 0 half;split 0 1 half", 4);
        Due.odds(x, "marks", 2, Due.row(1, 0, 0, 0, 0), Due.share(2, -1, 4));
        Due.odds(x, "marks", 2, Due.row(0, 1, 0, 0, 0), Due.share(2, 1, 4));
    }

    // Promise 11.
    private static void oddsOfMany() {
        GrainBench x = new GrainBench();
        Due.bench(x, 0, "split 0 1 half", 1);
        x.grain(0);
        x.grain(0);
        Due.odds(x, "two alike in one path", 0, Due.row(2, 0, 0, 0, 0), Due.share(1, 0, 4));
        Due.odds(x, "two alike in one path", 0, Due.row(1, 1, 0, 0, 0), Due.share(1, 0, 2));
        x.grain(2);
        Due.odds(x, "two and one", 0, Due.row(3, 0, 0, 0, 0), Due.share(3, 0, 8));
        Due.odds(x, "two and one", 0, Due.row(2, 1, 0, 0, 0), Due.share(1, 0, 8));
        Due.odds(x, "two and one", 0, Due.row(1, 2, 0, 0, 0), Due.share(1, 0, 8));
        Due.odds(x, "two and one", 0, Due.row(0, 3, 0, 0, 0), Due.share(3, 0, 8));
        Due.odds(x, "a grain more", 0, Due.row(3, 1, 0, 0, 0), Due.share(0, 0, 1));
        Due.odds(x, "far more", 0, Due.row(3, 3, 3, 3, 3), Due.share(0, 0, 1));
        Due.odds(x, "a grain less", 0, Due.row(1, 1, 0, 0, 0), Due.share(0, 0, 1));
        x.clear();
        x.grain(0);
        x.grain(0);
        x.grain(0);
        Due.odds(x, "three alike", 0, Due.row(3, 0, 0, 0, 0), Due.share(1, 0, 8));
        Due.odds(x, "three alike", 0, Due.row(1, 2, 0, 0, 0), Due.share(3, 0, 8));
        x.clear();
        x.grain(2);
        x.grain(0);
        Due.odds(x, "alike never part", 0, Due.row(1, 1, 0, 0, 0), Due.share(0, 0, 1));
        Due.bench(x, 1, "turn 1 half;split 0 1 half", 2);
        Due.odds(x, "half alike", 1, Due.row(1, 1, 0, 0, 0), Due.share(1, 0, 4));
        Due.bench(x, 2, "split 0 1 three", 1);
        Due.odds(x, "9 less 16, squared", 2, Due.row(1, 1, 0, 0, 0), Due.share(49, 0, 625));
        Due.bench(x, 3, "lose 0 half;lose 1 half;split 0 1 half", 3);
        Due.odds(x, "one lost", 3, Due.row(1, 0, 0, 0, 0), Due.share(1, 0, 4));
        Due.odds(x, "both lost", 3, Due.row(0, 0, 0, 0, 0), Due.share(1, 0, 4));
        Due.odds(x, "none lost", 3, Due.row(0, 2, 0, 0, 0), Due.share(1, 0, 8));
        x.clear();
        x.grain(0);
        x.grain(3);
        Due.odds(x, "unlike ones part", 0, Due.row(1, 1, 0, 0, 0), Due.share(1, 0, 2));
    }

    // Promise 11.
    private static void oddsBehindWaiting() {
        GrainBench x = new GrainBench();
        x.grain(0);
        x.grain(2);
        // Both in path 0, or both in 1: only where path 0 is empty do those in path 1 split again.
        Due.bench(x, 0, "split 0 1 half;count 0;if 0 = 0 do split 1 2 half", 3);
        Due.odds(x, "waited", 0, Due.row(2, 0, 0, 0, 0), Due.share(1, 0, 2));
        Due.odds(x, "waited", 0, Due.row(0, 2, 0, 0, 0), Due.share(1, 0, 8));
        Due.odds(x, "waited", 0, Due.row(0, 1, 1, 0, 0), Due.share(1, 0, 4));
        Due.odds(x, "waited", 0, Due.row(0, 0, 2, 0, 0), Due.share(1, 0, 8));
        Due.bench(x, 1, "split 0 1 half;count 0;if 0 = 1 do swap 1 2;if 0 = 2 do swap 1 2", 4);
        Due.odds(x, "waited in vain", 1, Due.row(0, 2, 0, 0, 0), Due.share(1, 0, 2));
        x.clear();
        x.grain(0);
        x.grain(1);
        x.grain(4);
        Due.bench(x, 2, "count 0;if 0 = 2 do swap 2 3;if 0 = 1 do swap 3 4", 3);
        Due.odds(x, "both marks are counted", 2, Due.row(2, 0, 0, 1, 0), Due.share(1, 0, 1));
        Due.bench(x, 3, "lose 0 half;count 0;if 0 = 0 do swap 2 3", 3);
        Due.odds(x, "hidden ones are not", 3, Due.row(0, 0, 0, 1, 0), Due.share(1, 0, 4));
        Due.odds(x, "hidden ones are not", 3, Due.row(1, 0, 1, 0, 0), Due.share(1, 0, 2));
        GrainBench y = new GrainBench();
        y.grain(0);
        y.grain(8);
        Due.bench(y, 0, "count 4;if 4 = 1 do swap 0 1;if 4 = 2 do swap 1 2", 3);
        Due.odds(y, "one in the highest path", 0, Due.row(0, 1, 0, 0, 1), Due.share(1, 0, 1));
        y.grain(9);
        Due.odds(y, "two in the highest path", 0, Due.row(1, 0, 0, 0, 2), Due.share(1, 0, 1));
        Due.bench(y, 0, "count 4;if 4 = 2 do swap 0 2;if 4 = 1 do swap 2 3", 3);
        Due.odds(y, "two of both marks", 0, Due.row(0, 0, 1, 0, 2), Due.share(1, 0, 1));
    }

    // Promises 11 and 13.
    private static void oddsRefused() {
        GrainBench x = new GrainBench();
        x.grain(0);
        long[] none = Due.share(0, 0, -1);
        Due.odds(x, "bench 4", 4, Due.row(1, 0, 0, 0, 0), none);
        Due.odds(x, "bench -1", -1, Due.row(1, 0, 0, 0, 0), none);
        for (int path = 0; path < 5; path++) {
            int[] row = new int[5];
            row[path] = -1;
            Due.odds(x, "a count of -1", 0, row, none);
            row[path] = 4;
            Due.odds(x, "a count of 4", 0, row, none);
            row[path] = Integer.MIN_VALUE;
            Due.odds(x, "a count far below", 0, row, none);
            row[path] = Integer.MAX_VALUE;
            Due.odds(x, "a count far above", 0, row, none);
        }
        Due.due("what 3", x.odds(0, 1, 0, 0, 0, 0, 3), -1);
        Due.due("what -1", x.odds(9, 9, 0, 0, 0, 0, -1), -1);
        Due.bench(x, 1, sixteen("turn 0 half"), 16);
        Due.odds(x, "65,536 is not too deep", 1, Due.row(1, 0, 0, 0, 0), Due.share(1, 0, 1));
        x.grain(2);
        Due.odds(x, "65,536 squared is", 1, Due.row(1, 1, 0, 0, 0), none);
        Due.clicks(x, "too deep", 1, 3, none);
        Due.clicks(x, "bits -1", 0, -1, none);
        Due.clicks(x, "bits 32", 0, 32, none);
        Due.clicks(x, "bench 4", 4, 0, none);
        Due.due("clicks what 3", x.clicks(0, 0, 3), -1);
        Due.due("clicks what -1", x.clicks(4, 99, -1), -1);
    }

    // Promises 12 and 13.
    private static void darkClicks() {
        GrainBench x = new GrainBench();
        Due.due("dark was 0", x.dark(0, 9), 0);
        Due.due("dark was 9", x.dark(0, 1), 9);
        Due.due("dark(4, 2)", x.dark(4, 2), 0);
        Due.due("dark(5, 0)", x.dark(5, 0), -1);
        Due.due("dark(-1, 0)", x.dark(-1, 0), -1);
        Due.due("dark(4, 10)", x.dark(4, 10), -1);
        Due.due("dark(4, -1)", x.dark(4, -1), -1);
        Due.due("dark stays", x.dark(4, 2), 2);
        Due.clicks(x, "no grain, no click", 0, 0, Due.share(18, 0, 25));
        Due.clicks(x, "no grain, 0 clicks", 0, 1, Due.share(2, 0, 25));
        Due.clicks(x, "no grain, both", 0, 17, Due.share(1, 0, 50));
        Due.clicks(x, "1 can't", 0, 2, Due.share(0, 0, 1));
        x.grain(0);
        Due.clicks(x, "a grain always clicks", 0, 1, Due.share(4, 0, 5));
        Due.clicks(x, "a grain always clicks", 0, 0, Due.share(0, 0, 1));
        x.grain(3);
        Due.bench(x, 0, "split 0 1 half", 1);
        Due.clicks(x, "both in 0 or in 1, or parted", 0, 3, Due.share(21, 0, 50));
        Due.clicks(x, "both in 1", 0, 2, Due.share(9, 0, 50));
        x.clear();
        x.grain(0);
        Due.bench(x, 1, "turn 0 half;split 0 1 half;turn 0 half;split 0 1 half", 4);
        x.dark(0, 0);
        x.dark(4, 0);
        Due.clicks(x, "roots", 1, 1, Due.share(2, -1, 4));
        x.dark(1, 5);
        Due.clicks(x, "roots and dark", 1, 3, Due.share(2, -1, 8));
        for (int path = 0; path < 5; path++) {
            x.dark(path, 9);
        }
        x.clear();
        Due.clicks(x, "all dark", 0, 31, Due.share(59049, 0, 100000));
        Due.clicks(x, "none dark", 0, 0, Due.share(1, 0, 100000));
        GrainBench three = new GrainBench();
        three.grain(0);
        three.grain(5);
        three.grain(8);
        Due.clicks(three, "three apart", 0, 1 | 4 | 16, Due.share(1, 0, 1));
        Due.clicks(three, "two of three apart", 0, 4 | 16, Due.share(0, 0, 1));
    }

    // Promises 14 and 15.
    private static void runsAndCounted() {
        GrainBench x = new GrainBench();
        Due.due("run(0, -1, 0)", x.run(0, -1, 0), -1);
        Due.due("run(0, 0, -1)", x.run(0, 0, -1), -1);
        Due.due("run(0, 0, 1000)", x.run(0, 0, 1000), -1);
        Due.due("run(9, 32, 0): the number first", x.run(9, 32, 0), -1);
        Due.due("run(-1, 0, 0)", x.run(-1, 0, 0), -2);
        for (int i = 0; i < 200; i++) {
            Due.due("run", x.run(i % 4, i % 32, i % 2 == 0 ? 0 : 999), i + 1);
        }
        Due.due("run 201", x.run(0, 0, 0), -5);
        Due.due("run 201 of no bench", x.run(4, 0, 0), -2);
        Due.due("run 201 of no number", x.run(0, 0, 1000), -1);
        Due.due("count(6)", x.count(6), 200);
        Due.due("counted at 0", x.counted(0, -1, 0), 50);
        Due.due("counted of late ones", x.counted(1, -1, 998), 0);
        Due.due("counted at 999", x.counted(1, -1, 999), 50);
        Due.due("counted by bits", x.counted(0, 4, 0), 7);
        Due.due("counted by other bits", x.counted(0, 5, 999), 0);
        Due.due("counted of no clicks", x.counted(0, 0, 999), 7);
        Due.due("counted of no clicks elsewhere", x.counted(1, 0, 999), 0);
        Due.due("counted(4, ..)", x.counted(4, -1, 0), -1);
        Due.due("counted(-1, ..)", x.counted(-1, -1, 0), -1);
        Due.due("counted, bits -2", x.counted(0, -2, 0), -1);
        Due.due("counted, bits 32", x.counted(0, 32, 0), -1);
        Due.due("counted, day -1", x.counted(0, 0, -1), -1);
        Due.due("counted, day 1000", x.counted(0, 0, 1000), -1);
    }

    // Promise 16.
    private static void wrongRuns() {
        GrainBench x = new GrainBench();
        x.grain(0);
        x.grain(2);
        Due.bench(x, 0, "split 0 1 half", 1);
        x.run(0, 3, 0);
        x.run(0, 1, 0);
        x.run(0, 3, 7);
        x.run(1, 1, 0);
        Due.due("wrong on day 0", x.wrong(0, 0), 1);
        Due.due("wrong on day 7", x.wrong(0, 7), 2);
        Due.due("wrong of another bench", x.wrong(1, 7), 1);
        Due.due("wrong without runs", x.wrong(2, 7), 0);
        x.run(2, 0, 8);
        Due.due("wrong without clicks", x.wrong(2, 8), 1);
        x.dark(1, 1);
        Due.due("wrong no more, for it may be dark", x.wrong(0, 7), 0);
        x.clear();
        x.grain(0);
        x.dark(1, 0);
        Due.due("wrong with one grain", x.wrong(0, 7), 2);
        Due.due("wrong(4, 0)", x.wrong(4, 0), -1);
        Due.due("wrong(-1, 0)", x.wrong(-1, 0), -1);
        Due.due("wrong(0, 1000)", x.wrong(0, 1000), -1);
        Due.due("wrong(0, -1)", x.wrong(0, -1), -1);
        x.grain(0);
        Due.bench(x, 3, sixteen("turn 0 half"), 16);
        Due.due("wrong, too deep", x.wrong(3, 0), -1);
        Due.due("misfit, too deep", x.misfit(3, 0), -1);
    }

    // Promises 17 and 18.
    private static void misfits() {
        GrainBench x = new GrainBench();
        x.grain(0);
        Due.due("misfit without runs", x.misfit(0, 0), -1);
        Due.due("fits without runs", x.fits(0), -1);
        Due.bench(x, 0, "split 0 1 half", 1);
        x.run(0, 1, 0);
        Due.due("misfit of 1000 and 500, 0 and 500", x.misfit(0, 0), 1000);
        x.run(0, 2, 1);
        Due.due("misfit of halves", x.misfit(0, 1), 0);
        x.run(0, 1, 2);
        Due.due("misfit of 666 and 333", x.misfit(0, 2), 166 + 167);
        // (2 - r) / 4: 2 - 1 of 4, 250; (2 + r) / 4: 2 + 1 of 4, 750.
        Due.bench(x, 1, "turn 0 half;split 0 1 half;turn 0 half;split 0 1 half", 4);
        x.run(1, 1, 2);
        x.run(1, 2, 2);
        Due.due("misfit with roots", x.misfit(1, 2), 500);
        // (209 - 144 r) / 625: 209 - 203 is 6, 9; (216 + 144 r) / 625: 419, 670; 8 / 25: 320.
        Due.bench(x, 2, "split 0 1 three;split 1 2 half;split 0 1 three", 3);
        x.run(2, 4, 2);
        Due.due("misfit with more roots", x.misfit(2, 2), 9 + 670 + 680);
        x.run(2, 1, 5);
        x.run(2, 1, 5);
        x.run(2, 1, 5);
        Due.due("misfit with more roots, the less likely seen more", x.misfit(2, 5), 741 + 670 + 70);
        Due.due("fits", x.fits(2), 0);
        Due.due("fits on day 0", x.fits(0), 0);
        Due.bench(x, 3, "split 0 1 half", 1);
        x.run(3, 1, 3);
        x.run(3, 2, 3);
        Due.due("fits on day 3", x.fits(3), 3);
        Due.bench(x, 0, "swap 0 1", 1);
        x.run(0, 2, 4);
        Due.due("fits(-1)", x.fits(-1), -1);
        Due.due("fits(1000)", x.fits(1000), -1);
        GrainBench silent = new GrainBench();
        silent.grain(0);
        silent.run(0, 0, 0);
        Due.due("misfit of no clicks", silent.misfit(0, 0), 2000);
        Due.due("misfit(4, 0)", x.misfit(4, 0), -1);
        Due.due("misfit(-1, 0)", x.misfit(-1, 0), -1);
        Due.due("misfit(0, 1000)", x.misfit(0, 1000), -1);
        Due.due("misfit(0, -1)", x.misfit(0, -1), -1);
        GrainBench alike = new GrainBench();
        alike.run(2, 0, 0);
        alike.run(1, 0, 0);
        Due.due("fits of alike ones the lowest", alike.fits(0), 1);
    }

    // Promises 19 and 20.
    private static void pairsAndNotes() {
        GrainBench x = new GrainBench();
        for (int bits = 0; bits < 32; bits++) {
            x.run(0, bits, 3);
        }
        Due.due("like of all clicks", x.pairs(0, 3, 0), 2);
        Due.due("unlike of all clicks", x.pairs(0, 3, 1), 2);
        Due.due("like the day ahead", x.pairs(0, 2, 0), 0);
        Due.due("pairs what 2", x.pairs(0, 3, 2), -1);
        Due.due("pairs what -1", x.pairs(0, 3, -1), -1);
        Due.due("pairs(4, ..)", x.pairs(4, 3, 0), -1);
        Due.due("pairs(-1, ..)", x.pairs(-1, 3, 0), -1);
        Due.due("pairs day 1000", x.pairs(0, 1000, 0), -1);
        Due.due("pairs day -1", x.pairs(0, -1, 0), -1);
        x.run(1, 10, 4);
        x.run(1, 10, 4);
        x.run(1, 6, 4);
        x.run(2, 5, 4);
        Due.due("like of bench 1", x.pairs(1, 4, 0), 2);
        Due.due("unlike of bench 1", x.pairs(1, 4, 1), 1);
        Due.due("notes with a bench that has none", x.notes(4, 0), NOTHING);
        x.run(3, 16 | 5, 4);
        Due.due("counter 4 clicked", x.notes(4, 0), NOTHING);
        x.run(3, 5, 5);
        // 0, 1 / 3, 1, 1: the minus is best put where it costs nothing.
        Due.due("notes upper", x.notes(5, 0), 7);
        Due.due("notes lower", x.notes(5, 1), 3);
        Due.due("notes above 2", x.notes(5, 2), 1);
        x.run(0, 5, 6);
        x.run(0, 5, 6);
        // 1 / 3, 1 / 3, 1, 1: 2 and no more.
        Due.due("notes upper of 2", x.notes(6, 0), 2);
        Due.due("notes lower of 2", x.notes(6, 1), 1);
        Due.due("notes not above 2", x.notes(6, 2), 0);
        Due.due("notes the day ahead", x.notes(4, 2), NOTHING);
        Due.due("notes what 3", x.notes(6, 3), NOTHING);
        Due.due("notes what -1", x.notes(6, -1), NOTHING);
        Due.due("notes day 1000", x.notes(1000, 0), NOTHING);
        Due.due("notes day -1", x.notes(-1, 0), NOTHING);
        GrainBench minus = new GrainBench();
        for (int bench = 0; bench < 4; bench++) {
            minus.run(bench, bench == 2 ? 10 : 6, 0);
        }
        Due.due("three minuses", minus.notes(0, 0), 4);
        GrainBench flat = new GrainBench();
        for (int bench = 0; bench < 4; bench++) {
            flat.run(bench, 5, 0);
            flat.run(bench, 9, 0);
        }
        Due.due("upper of 0", flat.notes(0, 0), 0);
        Due.due("lower of 0", flat.notes(0, 1), 1);
    }

    /** 4 / 5, 4 / 5, 1 / 5 and 0: at most 9 / 5. */
    // Promise 20.
    private static void notesBelowTwo() {
        int[] like = {9, 9, 3, 1};
        int[] unlike = {1, 1, 2, 1};
        GrainBench x = new GrainBench();
        for (int bench = 0; bench < 4; bench++) {
            for (int i = 0; i < like[bench]; i++) {
                x.run(bench, i % 2 == 0 ? 5 : 10, 999);
            }
            for (int i = 0; i < unlike[bench]; i++) {
                x.run(bench, i % 2 == 0 ? 6 : 9, 999);
            }
        }
        Due.due("upper below 2", x.notes(999, 0), 9);
        Due.due("lower below 2", x.notes(999, 1), 5);
        Due.due("below 2", x.notes(999, 2), 0);
        Due.due("the day ahead", x.notes(998, 0), NOTHING);
    }

    private static void planned(GrainBench x, String name, long... want) {
        int[] places = {-1, -2, -3, 0, 1, 2, 3};
        for (int i = 0; i < places.length; i++) {
            Due.due(name + ", planned(" + places[i] + ")", x.planned(places[i]), i < want.length ? want[i] : NOTHING);
        }
        Due.due(name + ", planned(-4)", x.planned(-4), NOTHING);
    }

    // Promises 21 and 22.
    private static void plans() {
        GrainBench x = new GrainBench();
        Due.due("plan without grains", x.plan(0, 0, 0, 0, 0, 0), -1);
        x.grain(0);
        Due.due("plan with an empty shelf", x.plan(3, 0, 1, 0, 0, 0), 0);
        planned(x, "empty shelf", 0, 0, 1);
        Due.shelf(x, "split 0 1 four", 0);
        Due.shelf(x, "split 1 2 half", 1);
        Due.shelf(x, "split 0 1 three", 2);
        Due.due("plan of one", x.plan(1, 0, 1, 0, 0, 0), 1);
        planned(x, "one", 16, 0, 25, 2);
        // four and three make a whole swap; so do half and half, behind 4 / 5 of the way.
        Due.due("plan of two", x.plan(2, 0, 1, 0, 0, 0), 2);
        planned(x, "two", 1, 0, 1, 0, 2);
        Due.due("plan of three", x.plan(3, 0, 0, 1, 0, 0), 3);
        planned(x, "three", 16, 0, 25, 2, 1, 1);
        Due.due("plan(4, ..)", x.plan(4, 0, 0, 1, 0, 0), -1);
        Due.due("plan(-1, ..)", x.plan(-1, 0, 0, 1, 0, 0), -1);
        Due.due("plan with a count of 4", x.plan(1, 0, 0, 0, 0, 4), -1);
        Due.due("plan with a count of -1", x.plan(1, -1, 0, 0, 0, 0), -1);
        planned(x, "the latest stays", 16, 0, 25, 2, 1, 1);
        Due.due("plan of no grain at all", x.plan(3, 0, 0, 0, 0, 0), 0);
        planned(x, "no grain at all", 0, 0, 1);
        Due.due("plan of what can't be", x.plan(3, 2, 2, 2, 2, 2), 0);
        planned(x, "what can't be", 0, 0, 1);
        x.clear();
        Due.due("plan without grains", x.plan(1, 0, 0, 0, 0, 0), -1);
        planned(x, "without grains", 0, 0, 1);
        x.grain(0);
        x.grain(0);
        x.grain(0);
        Due.due("plan too deep", x.plan(3, 0, 0, 0, 3, 0), 0);
        Due.due("plan of three grains", x.plan(3, 0, 3, 0, 0, 0), 2);
        planned(x, "three grains", 1, 0, 1, 0, 2);
        Due.due("plan of three grains further", x.plan(3, 0, 0, 3, 0, 0), 3);
        planned(x, "three grains further", 4096, 0, 15625, 2, 1, 1);
    }

    // Promise 21.
    private static void planFullShelf() {
        GrainBench x = new GrainBench();
        String[] parts = {"swap 3 4", "swap 1 2", "swap 0 1", "turn 0 half", "turn 1 half", "turn 2 half", "shift 0 1", "swap 2 3"};
        for (int i = 0; i < parts.length; i++) {
            Due.shelf(x, parts[i], i);
        }
        x.grain(1);
        Due.due("three of eight", x.plan(3, 0, 0, 0, 1, 0), 3);
        planned(x, "three of eight", 1, 0, 1, 2, 1, 7);
        Due.due("four would be needed", x.plan(3, 0, 0, 0, 0, 1), 0);
        planned(x, "four would be needed", 0, 0, 1);
    }

    /** Three of these go through 15,625 for two grains, and through far more than 300,000 for three. */
    // Promise 21.
    private static void planTooDeep() {
        GrainBench x = new GrainBench();
        Due.shelf(x, "split 0 1 three", 0);
        Due.shelf(x, "split 1 2 three", 1);
        Due.shelf(x, "split 2 3 three", 2);
        x.grain(0);
        x.grain(0);
        Due.due("not too deep", x.plan(3, 0, 0, 0, 2, 0), 3);
        planned(x, "not too deep", 16777216, 0, 244140625, 0, 1, 2);
        x.grain(0);
        Due.due("too deep", x.plan(3, 0, 0, 0, 3, 0), 0);
        planned(x, "too deep", 0, 0, 1);
    }

    // Promise 21.
    private static void planTies() {
        GrainBench x = new GrainBench();
        x.grain(0);
        Due.shelf(x, "shift 0 1", 0);
        Due.shelf(x, "split 0 1 half", 1);
        Due.shelf(x, "turn 0 half", 2);
        Due.shelf(x, "swap 0 2", 3);
        Due.shelf(x, "swap 0 1", 4);
        Due.shelf(x, "swap 1 2", 5);
        Due.due("the shortest", x.plan(3, 0, 1, 0, 0, 0), 1);
        planned(x, "the shortest", 1, 0, 1, 4);
        Due.due("nothing to do", x.plan(3, 1, 0, 0, 0, 0), 0);
        planned(x, "nothing to do", 1, 0, 1);
        GrainBench y = new GrainBench();
        y.grain(0);
        Due.shelf(y, "split 0 1 half", 0);
        Due.shelf(y, "swap 0 2", 1);
        Due.shelf(y, "swap 0 2", 2);
        Due.shelf(y, "swap 2 1", 3);
        Due.due("the first as rows", y.plan(3, 0, 0, 1, 0, 0), 1);
        planned(y, "the first as rows", 1, 0, 1, 1);
        Due.due("two halves ahead of two swaps", y.plan(2, 0, 1, 0, 0, 0), 2);
        planned(y, "two halves", 1, 0, 1, 0, 0);
        // 2 times (216 + 144 r) / 625 times 8 / 25, for both are alike.
        GrainBench z = new GrainBench();
        z.grain(2);
        z.grain(2);
        Due.shelf(z, "split 2 0 half", 0);
        Due.shelf(z, "split 0 1 three", 1);
        Due.due("with roots", z.plan(3, 1, 0, 1, 0, 0), 3);
        planned(z, "with roots", 3456, 2304, 15625, 1, 0, 1);
    }

    private static void planRow(String name, int[] modes, String[] parts, int[] row, long... want) {
        GrainBench x = new GrainBench();
        for (int mode : modes) {
            x.grain(mode);
        }
        for (int i = 0; i < parts.length; i++) {
            Due.shelf(x, parts[i], i);
        }
        Due.due(name, x.plan(3, row[0], row[1], row[2], row[3], row[4]), want.length - 3);
        planned(x, name, want);
    }

    /** Odds that lie near one another; these answers came from the program and the model confirmed them. */
    // Promise 21.
    private static void planRoots() {
        planRow("above (216 + 144 r) / 625", new int[] {1, 0},
                new String[] {"split 0 1 three", "split 1 2 half", "split 2 0 three", "shift 0 mark 0 3"},
                Due.row(0, 1, 1, 0, 0), 3456, 2304, 15625, 0, 1, 0);
        planRow("5 and 2 r", new int[] {1, 0, 3}, new String[] {"split 2 1 half", "split 0 1 half"},
                Due.row(0, 1, 2, 0, 0), 5, 2, 64, 0, 1, 0);
        planRow("no roots in the best", new int[] {0, 1}, new String[] {"split 0 2 half", "turn 2 half", "split 0 1 four"},
                Due.row(0, 1, 1, 0, 0), 288, 0, 625, 0, 2, 2);
        planRow("three alike apart", new int[] {2, 2, 2},
                new String[] {"split 1 0 four", "turn 1 four", "turn 0 four", "split 0 2 half"},
                Due.row(1, 1, 1, 0, 0), 1944, 0, 15625, 0, 3);
        planRow("great numbers", new int[] {3, 1, 0}, new String[] {"split 2 0 four", "turn 0 half", "split 0 1 four"},
                Due.row(0, 3, 0, 0, 0), 36080640, 20072448, 244140625, 2, 1, 2);
    }

    // Promise 23.
    private static void builds() {
        GrainBench x = new GrainBench();
        Due.due("build without a plan", x.build(0), -6);
        Due.due("build(4) without a plan", x.build(4), -2);
        x.grain(0);
        Due.shelf(x, "split 0 1 four", 0);
        Due.shelf(x, "split 0 1 three", 1);
        x.plan(2, 0, 1, 0, 0, 0);
        Due.tell(x, "swap 3 4");
        Due.due("build(3)", x.build(3), 2);
        Due.due("the tape is left alone", x.count(7), 8);
        Due.due("count(4)", x.count(4), 2);
        Due.odds(x, "built", 3, Due.row(0, 1, 0, 0, 0), Due.share(1, 0, 1));
        Due.due("build(-1)", x.build(-1), -2);
        x.plan(0, 0, 1, 0, 0, 0);
        Due.due("build of no parts", x.build(3), 0);
        Due.odds(x, "built empty", 3, Due.row(1, 0, 0, 0, 0), Due.share(1, 0, 1));
        for (int far : FAR) {
            Due.due("build(" + far + ")", x.build(far), -2);
            Due.due("planned(" + far + ")", x.planned(far), NOTHING);
        }
    }

    private static void status(GrainBench x, String call, long ignored, int want) {
        Due.due("status behind " + call, x.status(), want);
    }

    // Promise 25.
    private static void statuses() {
        GrainBench x = new GrainBench();
        status(x, "grain(10)", x.grain(10), -1);
        status(x, "clear", x.clear(), -1);
        status(x, "feed", x.feed(0, 0, 0, 0, 0), -1);
        status(x, "end(99)", x.end(99), -1);
        status(x, "odds", x.odds(9, 0, 0, 0, 0, 0, 0), -1);
        status(x, "grain(0)", x.grain(0), 0);
        status(x, "bench(4)", x.bench(4), -2);
        status(x, "plan", x.plan(0, 1, 0, 0, 0, 0), -2);
        status(x, "build(0)", x.build(0), 0);
        status(x, "shelf", x.shelf(), -6);
        status(x, "fault", x.fault(), -6);
        status(x, "dark(0, 1)", x.dark(0, 1), 0);
        status(x, "dark(0, 10)", x.dark(0, 10), -1);
        status(x, "run(0, 0, 0)", x.run(0, 0, 0), 0);
        status(x, "run(4, 0, 0)", x.run(4, 0, 0), -2);
        status(x, "counted", x.counted(0, 99, 0), -2);
        status(x, "bench(0)", x.bench(0), 0);
        status(x, "build(7)", x.build(7), -2);
        x.grain(0);
        x.grain(0);
        status(x, "grain(0) when full", x.grain(0), -5);
        status(x, "way", x.way(9, 9, 9, 9), -5);
    }

    /** Odds are kept inside between calls; nothing that changes them may be overlooked. */
    // Promises 2, 3, 6, 11 and 23.
    private static void keptUntilChanged() {
        GrainBench x = new GrainBench();
        x.grain(0);
        Due.odds(x, "through", 0, Due.row(1, 0, 0, 0, 0), Due.share(1, 0, 1));
        Due.bench(x, 0, "swap 0 1", 1);
        Due.odds(x, "behind bench()", 0, Due.row(0, 1, 0, 0, 0), Due.share(1, 0, 1));
        x.grain(2);
        Due.odds(x, "behind grain()", 0, Due.row(1, 1, 0, 0, 0), Due.share(1, 0, 1));
        x.way(0, 0, 2, 0);
        Due.odds(x, "behind way()", 0, Due.row(1, 1, 0, 0, 0), Due.share(1, 0, 1));
        x.clear();
        Due.odds(x, "behind clear()", 0, Due.row(0, 0, 0, 0, 0), Due.share(1, 0, 1));
        x.grain(0);
        Due.odds(x, "behind grain() again", 0, Due.row(0, 0, 0, 0, 0), Due.share(0, 0, 1));
        Due.shelf(x, "swap 0 3", 0);
        x.plan(1, 0, 0, 0, 1, 0);
        x.build(0);
        Due.odds(x, "behind build()", 0, Due.row(0, 0, 0, 1, 0), Due.share(1, 0, 1));
        Due.bench(x, 0, "swap 0", -6);
        Due.odds(x, "behind a refused bench()", 0, Due.row(0, 0, 0, 1, 0), Due.share(1, 0, 1));
    }
}
