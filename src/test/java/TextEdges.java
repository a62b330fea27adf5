/**
 * Each sentence on tapes, texts and faults that names an edge has a test of its own here. The comment
 * beside a test names the promise; "Terms" are those of the document that the promise rests on.
 */
public final class TextEdges {
    private static final int BLANKS = 0x20202020;

    public static void main(String[] args) {
        Due.all(TextEdges.class);
    }

    private static int feedBlanks(GrainBench x) {
        return x.feed(BLANKS, BLANKS, BLANKS, BLANKS, BLANKS);
    }

    private static GrainBench withTapeOf(int bytes) {
        GrainBench x = new GrainBench();
        for (int length = 0; length < bytes; length += 20) {
            feedBlanks(x);
        }
        x.end(bytes);
        return x;
    }

    private static String blanks(int many) {
        return " ".repeat(many);
    }

    // Promise 4: "Twenty bytes come behind the TAPE .. how many it has".
    static void feedTellsHowManyBytes() {
        GrainBench x = new GrainBench();
        Due.due("first feed", feedBlanks(x), 20);
        Due.due("second feed", feedBlanks(x), 40);
        Due.due("count(7)", x.count(7), 40);
    }

    // Promise 4: "four of each number, the highest first". The text is "split 3 4 three".
    static void feedHasTheHighestByteFirst() {
        GrainBench x = new GrainBench();
        x.feed(0x73706c69, 0x74203320, 0x34207468, 0x72656520, BLANKS);
        Due.due("bench(0)", x.bench(0), 1);
        Due.due("way from path 3 to 4", x.way(0, 6, 8, 2), 4);
    }

    // Promise 4: a number below 0 is four bytes like others; 255 is no blank.
    static void feedOfNegativeNumbers() {
        GrainBench x = new GrainBench();
        x.feed(BLANKS, -1, BLANKS, BLANKS, BLANKS);
        Due.due("bench(0)", x.bench(0), -6);
        Due.due("fault", x.fault(), 4);
        x.feed(BLANKS, BLANKS, 0x202020A0, BLANKS, BLANKS);
        Due.due("bench(0) with 160", x.bench(0), -6);
        Due.due("fault at 160", x.fault(), 11);
    }

    // Promise 4: 400 bytes are not more than 400.
    static void feedUpToFourHundred() {
        GrainBench x = withTapeOf(380);
        Due.due("feed", feedBlanks(x), 400);
    }

    // Promise 4: "NONE, if there would be more than 400": a full tape.
    static void feedOfAFullTape() {
        GrainBench x = withTapeOf(400);
        Due.due("feed", feedBlanks(x), -1);
        Due.due("count(7)", x.count(7), 400);
    }

    // Promise 4: 381 and 20 would be 401.
    static void feedBeyondFourHundredByOne() {
        GrainBench x = withTapeOf(381);
        Due.due("feed", feedBlanks(x), -1);
        Due.due("count(7)", x.count(7), 381);
    }

    // Promise 4: none of the twenty bytes comes behind the tape where not all have room.
    static void feedThatIsNoneLeavesTheTape() {
        GrainBench x = new GrainBench();
        Due.tell(x, "swap 0 1" + blanks(390 - 8));
        Due.due("feed", x.feed(0x3f3f3f3f, 0, 0, 0, 0), -1);
        Due.due("count(7)", x.count(7), 390);
        Due.due("bench(0)", x.bench(0), 1);
    }

    // Promise 5: "The TAPE has its first n bytes alone: n", all of them.
    static void endOfAllBytes() {
        GrainBench x = withTapeOf(20);
        Due.due("end(20)", x.end(20), 20);
        Due.due("count(7)", x.count(7), 20);
    }

    // Promise 5: none of them.
    static void endOfNoBytes() {
        GrainBench x = withTapeOf(20);
        Due.due("end(0)", x.end(0), 0);
        Due.due("count(7)", x.count(7), 0);
    }

    // Promise 5: "NONE, if it has not so many": by one; the tape stays.
    static void endOfOneTooMany() {
        GrainBench x = withTapeOf(20);
        Due.due("end(21)", x.end(21), -1);
        Due.due("count(7)", x.count(7), 20);
    }

    // Promise 5: "or n is below 0": by one; the tape stays.
    static void endBelowZero() {
        GrainBench x = withTapeOf(20);
        Due.due("end(-1)", x.end(-1), -1);
        Due.due("count(7)", x.count(7), 20);
    }

    // Promise 5: n far away.
    static void endFarAway() {
        GrainBench x = withTapeOf(20);
        for (int far : Due.FAR) {
            Due.due("end(" + far + ")", x.end(far), -1);
        }
        Due.due("count(7)", x.count(7), 20);
    }

    // Promise 5: an empty tape has its first 0 bytes, and not one.
    static void endOfAnEmptyTape() {
        GrainBench x = new GrainBench();
        Due.due("end(0)", x.end(0), 0);
        Due.due("end(1)", x.end(1), -1);
    }

    // Promise 5: a full tape has 400 bytes, and not 401.
    static void endOfAFullTape() {
        GrainBench x = withTapeOf(400);
        Due.due("end(401)", x.end(401), -1);
        Due.due("end(400)", x.end(400), 400);
        Due.due("end(399)", x.end(399), 399);
    }

    // Promise 5: bytes that were cut off do not come again.
    static void endTakesBytesAway() {
        GrainBench x = withTapeOf(20);
        x.end(5);
        Due.due("end(6)", x.end(6), -1);
    }

    // Promises 4 and 5: what is fed next comes behind the first n bytes. "swap" and " 0 1" are fed apart.
    static void feedBehindEnd() {
        GrainBench x = new GrainBench();
        x.feed(0x73776170, 0x3f3f3f3f, 0x3f3f3f3f, 0x3f3f3f3f, 0x3f3f3f3f);
        x.end(4);
        Due.due("feed", x.feed(0x20302031, BLANKS, BLANKS, BLANKS, BLANKS), 24);
        Due.due("bench(0)", x.bench(0), 1);
    }

    // Promise 5: a token is cut, too.
    static void endWithinAToken() {
        GrainBench x = new GrainBench();
        Due.tell(x, "turn 0 halfs");
        x.end(11);
        Due.due("bench(0)", x.bench(0), 1);
        Due.tell(x, "shift 0 31");
        x.end(9);
        Due.due("bench(0)", x.bench(0), 1);
    }

    // Promise 6: "blanks alone: none", and a bench of parts gives way to none.
    static void benchOfBlanksAlone() {
        GrainBench x = Due.with("swap 0 1");
        Due.bench(x, 0, "   ", 0);
        Due.due("count(1)", x.count(1), 0);
        Due.due("fault", x.fault(), -1);
        Due.way(x, 0, 0, 1, 0, 0, 0, 1);
    }

    // Promise 6: 400 blanks are blanks alone.
    static void benchOfFourHundredBlanks() {
        GrainBench x = withTapeOf(400);
        Due.due("bench(0)", x.bench(0), 0);
        Due.due("fault", x.fault(), -1);
    }

    // Promise 6: an empty tape has no part either.
    static void benchOfAnEmptyTape() {
        GrainBench x = Due.with("swap 0 1");
        Due.due("bench(0)", x.bench(0), 0);
        Due.due("count(1)", x.count(1), 0);
        Due.due("fault", x.fault(), -1);
    }

    // Promise 6, Terms: "a TAPE of at most 400 bytes": all of them are read, the last one, too.
    static void benchOfFourHundredBytes() {
        GrainBench x = new GrainBench();
        Due.bench(x, 0, blanks(391) + "shift 0 3", 1);
        Due.due("way", x.way(0, 0, 0, 2), -1);
    }

    // Promise 6, Terms: "BENCHES 0 .. 3", the lowest and the highest; each its own.
    static void benchesFromZeroToThree() {
        GrainBench x = new GrainBench();
        for (int bench = 0; bench < 4; bench++) {
            Due.bench(x, bench, Due.times(bench + 1, "swap 0 1"), bench + 1);
        }
        for (int bench = 0; bench < 4; bench++) {
            Due.due("count(" + (bench + 1) + ")", x.count(bench + 1), bench + 1);
        }
    }

    // Promise 6: "-2" for a bench just above the highest.
    static void benchFour() {
        GrainBench x = new GrainBench();
        Due.bench(x, 4, "swap 0 1", -2);
        Due.due("status", x.status(), -2);
    }

    // Promise 6: "-2" for a bench just below the lowest.
    static void benchBelowZero() {
        GrainBench x = new GrainBench();
        Due.bench(x, -1, "swap 0 1", -2);
        Due.due("status", x.status(), -2);
    }

    // Promise 6: "-2" far away.
    static void benchFarAway() {
        GrainBench x = new GrainBench();
        for (int far : Due.FAR) {
            Due.bench(x, far, "swap 0 1", -2);
        }
        for (int what = 1; what <= 4; what++) {
            Due.due("count(" + what + ")", x.count(what), 0);
        }
    }

    // Promise 6: "-2 (ahead of reading it)": a bad text is not looked at.
    static void noBenchAheadOfABadText() {
        GrainBench x = new GrainBench();
        Due.bench(x, 4, "?", -2);
        Due.due("fault", x.fault(), -1);
    }

    // Promise 6: "The TAPE, which is empty then", behind a good text.
    static void tapeBehindABench() {
        GrainBench x = Due.with("swap 0 1");
        Due.due("count(7)", x.count(7), 0);
    }

    // Promise 6: behind a bad text, too.
    static void tapeBehindABadText() {
        GrainBench x = new GrainBench();
        Due.bench(x, 0, "?", -6);
        Due.due("count(7)", x.count(7), 0);
    }

    // Promise 6: where there is no such bench, too.
    static void tapeBehindNoBench() {
        GrainBench x = new GrainBench();
        Due.bench(x, 4, "swap 0 1", -2);
        Due.due("count(7)", x.count(7), 0);
        Due.due("the next feed", feedBlanks(x), 20);
    }

    // Promise 6: "-6: it stays", the bench that was there.
    static void benchStaysBehindABadText() {
        GrainBench x = Due.with("swap 0 1");
        Due.bench(x, 0, "turn 0 half;turn 0 half;turn", -6);
        Due.due("count(1)", x.count(1), 1);
        Due.way(x, 0, 2, 1, 0, 0, 0, 1);
    }

    // Promise 6, Terms: "16 at most", sixteen are.
    static void sixteenParts() {
        GrainBench x = new GrainBench();
        Due.bench(x, 0, Due.times(16, "swap 0 1"), 16);
        Due.due("count(1)", x.count(1), 16);
    }

    // Promises 6 and 8, Terms: "FAULT at the 17th's first TOKEN", here one blank behind its ";".
    static void seventeenParts() {
        GrainBench x = new GrainBench();
        Due.fault(x, Due.times(16, "swap 0 1") + "; swap 0 1", 16 * 9 + 1);
        Due.due("count(1)", x.count(1), 0);
    }

    // Promises 6 and 8, Terms: the 17th part has no token but the end.
    static void seventeenthPartIsTheEnd() {
        Due.fault(new GrainBench(), Due.times(16, "swap 0 1") + ";  ", 16 * 9 + 2);
    }

    // Promises 6 and 8, Terms: a part behind ";" can't be empty: at the end ..
    static void emptyPartAtTheEnd() {
        Due.fault(new GrainBench(), "swap 0 1;", 9);
    }

    // Promises 6 and 8, Terms: .. in the midst ..
    static void emptyPartInTheMidst() {
        Due.fault(new GrainBench(), "swap 0 1; ;swap 0 1", 10);
    }

    // Promises 6 and 8, Terms: .. and at first.
    static void emptyPartAtFirst() {
        Due.fault(new GrainBench(), " ;swap 0 1", 1);
    }

    // Promises 6 and 8, Terms: two parts need a ";" between them.
    static void partsWithoutSemicolon() {
        Due.fault(new GrainBench(), "swap 0 1 swap 0 1", 9);
    }

    // Promise 6, Terms: "any blanks (32) between TOKENS": none where the tokens end of themselves.
    static void noBlanks() {
        GrainBench x = new GrainBench();
        Due.bench(x, 0, "swap0 1;shift0mark1 3;count0;if0=1do turn2half;lose3four", 5);
    }

    // Promise 6, Terms: many blanks, also ahead of the first token and behind the last.
    static void manyBlanks() {
        GrainBench x = new GrainBench();
        Due.bench(x, 0, "   swap   0   1   ;   count   2   ;   if   2   =   0   do   swap   0   1   ", 3);
    }

    // Promises 6 and 8, Terms: only 32 is a blank; 31, 33, a tab, a line's end, 0 and 160 are not.
    static void otherBytesAreNoBlanks() {
        for (int sign : new int[] {31, 33, 9, 10, 13, 0, 160}) {
            Due.fault(new GrainBench(), "swap" + (char) sign + "0 1", 4);
        }
    }

    // Promises 6 and 8, Terms: "longest rows of letters a .. z": more letters make another token.
    static void longestRowsOfLetters() {
        GrainBench x = new GrainBench();
        Due.fault(x, "swapz 0 1", 0);
        Due.fault(x, "aswap 0 1", 0);
        Due.fault(x, "swa p 0 1", 0);
        Due.fault(x, "turn 0 halfhalf", 7);
    }

    // Promises 6 and 8, Terms: the bytes beside a and z, and great letters, are no letters.
    static void onlySmallLetters() {
        GrainBench x = new GrainBench();
        Due.fault(x, "swap`0 1", 4);
        Due.fault(x, "swap{0 1", 4);
        Due.fault(x, "Swap 0 1", 0);
        Due.fault(x, "swaP 0 1", 0);
    }

    // Promises 6 and 8, Terms: "of digits": two digits side by side are one token.
    static void longestRowsOfDigits() {
        GrainBench x = new GrainBench();
        Due.bench(x, 0, "swap 01", -6);
        Due.fault(x, "swap 12 0", 5);
        Due.fault(x, "shift 0 12", 8);
        Due.fault(x, "shift 0 19", 8);
    }

    // Promises 6 and 8, Terms: the bytes beside 0 and 9 are no digits.
    static void onlyDigits() {
        GrainBench x = new GrainBench();
        Due.fault(x, "swap 0/1", 6);
        Due.fault(x, "swap 0:1", 6);
    }

    // Promises 6 and 8, Terms: "single other bytes": two of them are two tokens.
    static void otherBytesAreSingle() {
        GrainBench x = new GrainBench();
        Due.fault(x, "count 0;if 0 == 1 do swap 1 2", 14);
        Due.fault(x, "swap 0 1;;", 9);
    }

    // Promises 6 and 8, Terms: a part begins with a word of the language.
    static void noSuchPart() {
        GrainBench x = new GrainBench();
        Due.fault(x, "do swap 0 1", 0);
        Due.fault(x, "mark 0 1", 0);
        Due.fault(x, "half", 0);
        Due.fault(x, "0", 0);
    }

    // Promise 6, Terms: "PATHS 0 .. 4", the lowest and the highest in each part.
    static void pathsFromZeroToFour() {
        GrainBench x = new GrainBench();
        Due.bench(x, 0, "split 0 4 half;split 4 0 half;turn 0 half;turn 4 half;shift 0 1;shift 4 1;swap 0 4;swap 4 0;"
                + "lose 0 half;lose 4 half;count 0;count 4;if 0 = 1 do swap 1 2;if 4 = 1 do swap 1 2", 14);
    }

    // Promises 6 and 8, Terms: a path 5 in each part.
    static void pathFive() {
        GrainBench x = new GrainBench();
        Due.fault(x, "split 5 0 half", 6);
        Due.fault(x, "split 0 5 half", 8);
        Due.fault(x, "turn 5 half", 5);
        Due.fault(x, "shift 5 1", 6);
        Due.fault(x, "swap 5 0", 5);
        Due.fault(x, "swap 0 5", 7);
        Due.fault(x, "lose 5 half", 5);
        Due.fault(x, "count 5", 6);
        Due.fault(x, "count 4;if 5 = 1 do swap 0 1", 11);
    }

    // Promises 6 and 8, Terms: there is no minus in a number.
    static void pathBelowZero() {
        Due.fault(new GrainBench(), "turn -1 half", 5);
    }

    // Promises 6 and 8, Terms: rows of digits that would be 0 or 1 if they wrapped around.
    static void numbersThatWouldWrap() {
        GrainBench x = new GrainBench();
        Due.fault(x, "turn 256 half", 5);
        Due.fault(x, "turn 4294967296 half", 5);
        Due.fault(x, "turn 18446744073709551617 half", 5);
        Due.fault(x, "shift 0 4294967297", 8);
        Due.fault(x, "shift 0 " + "9".repeat(392), 8);
    }

    // Promise 6, Terms: shift's "NUMBER (0 .. 3)": each of them.
    static void shiftsFromZeroToThree() {
        GrainBench x = new GrainBench();
        Due.bench(x, 0, "shift 0 0;shift 0 1;shift 0 2;shift 0 3", 4);
    }

    // Promises 6 and 8, Terms: a shift of 4.
    static void shiftOfFour() {
        GrainBench x = new GrainBench();
        Due.fault(x, "shift 0 4", 8);
        Due.fault(x, "shift 0 mark 1 4", 15);
    }

    // Promise 6, Terms: "MARKS 0 and 1".
    static void marksZeroAndOne() {
        GrainBench x = new GrainBench();
        Due.bench(x, 0, "shift 0 mark 0 1;shift 0 mark 1 1", 2);
    }

    // Promises 6 and 8, Terms: a mark 2; no mark at all; a mark and no number.
    static void markTwo() {
        GrainBench x = new GrainBench();
        Due.fault(x, "shift 0 mark 2 1", 13);
        Due.fault(x, "shift 0 mark", 12);
        Due.fault(x, "shift 0 mark 1", 14);
    }

    // Promises 6 and 8, Terms: "mark" belongs to shift alone.
    static void markElsewhere() {
        GrainBench x = new GrainBench();
        Due.fault(x, "turn 0 mark 1 half", 7);
        Due.fault(x, "swap 0 mark 1 1", 7);
    }

    // Promises 6 and 8, Terms: KIND is one of three words.
    static void noSuchKind() {
        GrainBench x = new GrainBench();
        Due.fault(x, "turn 0 two", 7);
        Due.fault(x, "split 0 1 five", 10);
        Due.fault(x, "lose 0 3", 7);
        Due.fault(x, "swap 0 1 half", 9);
        Due.fault(x, "shift 0 half", 8);
        Due.fault(x, "count 0 half", 8);
    }

    // Promises 6 and 8, Terms: "Two PATHS in a PART are unlike (else the second one is the FAULT)".
    static void alikePaths() {
        GrainBench x = new GrainBench();
        for (int path = 0; path < 5; path++) {
            Due.fault(x, "split " + path + " " + path + " half", 8);
            Due.fault(x, "swap " + path + " " + path, 7);
        }
        Due.fault(x, "count 0;if 0 = 1 do swap 1 1", 27);
    }

    // Promises 6 and 8, Terms: "A PATH that was COUNTED ahead is the FAULT in all that follows but "if"".
    static void countedPathInEachPart() {
        GrainBench x = new GrainBench();
        Due.fault(x, "count 0;split 0 1 half", 14);
        Due.fault(x, "count 0;split 1 0 half", 16);
        Due.fault(x, "count 0;turn 0 half", 13);
        Due.fault(x, "count 0;shift 0 1", 14);
        Due.fault(x, "count 0;swap 0 1", 13);
        Due.fault(x, "count 0;swap 1 0", 15);
        Due.fault(x, "count 0;lose 0 half", 13);
        Due.fault(x, "count 4;swap 0 1;turn 4 half", 22);
    }

    // Promises 6 and 8, Terms: a path is counted once.
    static void countedPathCountedAgain() {
        Due.fault(new GrainBench(), "count 0;count 0", 14);
    }

    // Promises 6 and 8, Terms: a deed behind "do" has no counted path, be it the one of its "if" or another.
    static void countedPathBehindDo() {
        GrainBench x = new GrainBench();
        Due.fault(x, "count 0;if 0 = 1 do turn 0 half", 25);
        Due.fault(x, "count 0;count 1;if 0 = 1 do swap 2 1", 35);
    }

    // Promise 6, Terms: the other paths are not counted, and what stands ahead of "count" is not behind it.
    static void pathsThatWereNotCounted() {
        GrainBench x = new GrainBench();
        Due.bench(x, 0, "turn 0 half;lose 0 half;count 0;turn 1 half;lose 1 half;swap 2 3", 6);
    }

    // Promises 6 and 8, Terms: "one that was not is the FAULT behind "if"".
    static void waitForAPathThatWasNotCounted() {
        GrainBench x = new GrainBench();
        Due.fault(x, "if 0 = 1 do swap 1 2", 3);
        Due.fault(x, "count 1;if 0 = 1 do swap 2 3", 11);
        Due.fault(x, "if 0 = 1 do swap 1 2;count 0", 3);
    }

    // Promise 6, Terms: all five can be counted, and any of them be waited for, again and again.
    static void waitForEachPath() {
        GrainBench x = new GrainBench();
        Due.bench(x, 0, "count 1;count 2;count 3;if 1 = 0 do swap 0 4;if 3 = 2 do swap 0 4;if 1 = 1 do swap 0 4;"
                + "count 0;count 4", 8);
    }

    // Promise 6, Terms: what was counted in one text was not counted in the next.
    static void countedPathsAreOfOneText() {
        GrainBench x = Due.with("count 0");
        Due.bench(x, 0, "turn 0 half", 1);
        Due.bench(x, 1, "count 0;turn", -6);
        Due.fault(x, "if 0 = 1 do swap 1 2", 3);
        Due.tell(x, "count 0");
        x.bench(2);
        Due.shelf(x, "turn 0 half", 0);
    }

    // Promise 6, Terms: ""=" NUMBER (0 .. 3)": each of them.
    static void waitForZeroToThree() {
        GrainBench x = new GrainBench();
        Due.bench(x, 0, "count 0;if 0 = 0 do swap 1 2;if 0 = 1 do swap 1 2;if 0 = 2 do swap 1 2;if 0 = 3 do swap 1 2", 5);
    }

    // Promises 6 and 8, Terms: to wait for 4.
    static void waitForFour() {
        Due.fault(new GrainBench(), "count 0;if 0 = 4 do swap 1 2", 15);
    }

    // Promises 6 and 8, Terms: each token behind "if" left out.
    static void waitWithoutAToken() {
        GrainBench x = new GrainBench();
        Due.fault(x, "count 0;if swap 1 2", 11);
        Due.fault(x, "count 0;if 0 swap 1 2", 13);
        Due.fault(x, "count 0;if 0 = swap 1 2", 15);
        Due.fault(x, "count 0;if = 1 do swap 1 2", 11);
        Due.fault(x, "count 0;if 0 1 do swap 1 2", 13);
        Due.fault(x, "count 0;if 0 = do swap 1 2", 15);
        Due.fault(x, "count 0;if 0 = 1 swap 1 2", 17);
        Due.fault(x, "count 0;if 0 = 1 do", 19);
    }

    // Promises 6 and 8, Terms: only a DEED stands behind "do".
    static void onlyADeedBehindDo() {
        GrainBench x = new GrainBench();
        Due.fault(x, "count 0;if 0 = 1 do lose 1 half", 20);
        Due.fault(x, "count 0;if 0 = 1 do count 1", 20);
        Due.fault(x, "count 0;if 0 = 1 do if 0 = 1 do swap 1 2", 20);
    }

    // Promise 6, Terms: "3 "lose" at most", three are.
    static void threeLosses() {
        GrainBench x = new GrainBench();
        Due.bench(x, 0, "lose 0 half;lose 0 three;lose 4 four", 3);
        Due.bench(x, 1, "lose 0 half;lose 0 three;lose 4 four", 3);
    }

    // Promises 6 and 8, Terms: "FAULT at the 4th's first TOKEN", though a later token of it is bad, too.
    static void fourLosses() {
        GrainBench x = new GrainBench();
        Due.fault(x, Due.times(3, "lose 0 half") + "; lose 1 half", 37);
        Due.fault(x, Due.times(3, "lose 0 half") + ";lose 9 half", 36);
    }

    // Promise 6, Terms: losses of a text that was refused are no losses of the next.
    static void lossesAreOfOneText() {
        GrainBench x = new GrainBench();
        Due.fault(x, Due.times(3, "lose 0 half") + ";", 36);
        Due.bench(x, 0, Due.times(3, "lose 0 half"), 3);
    }

    // Promise 8, Terms: "FAULT: the place of the first TOKEN that can't go on there", the lowest place.
    static void faultAtTheFirstByte() {
        Due.fault(new GrainBench(), "?", 0);
    }

    // Promise 8, Terms: the first of two.
    static void faultIsTheFirstOfTwo() {
        Due.fault(new GrainBench(), "turn 0 half;swap 3 3;turn 9 half", 19);
    }

    // Promise 8, Terms: "(the end's: the TEXT's length)", where the text ends with a token ..
    static void faultAtTheEnd() {
        GrainBench x = new GrainBench();
        Due.fault(x, "swap 0", 6);
        Due.fault(x, "swap", 4);
        Due.fault(x, "lose 0", 6);
        Due.fault(x, "count", 5);
        Due.fault(x, "split 0 1", 9);
        Due.fault(x, "shift 0", 7);
    }

    // Promise 8, Terms: .. and where blanks stand behind the last token.
    static void faultAtTheEndBehindBlanks() {
        Due.fault(new GrainBench(), "swap 0   ", 9);
    }

    // Promise 8, Terms: the end of a full tape.
    static void faultAtFourHundred() {
        Due.fault(new GrainBench(), blanks(396) + "swap", 400);
    }

    // Promise 8: the last byte of a full tape.
    static void faultAtTheLastByteOfAFullTape() {
        Due.fault(new GrainBench(), blanks(391) + "swap 0 1?", 399);
    }

    // Promise 8: "NONE without", ahead of any text.
    static void faultAheadOfAnyText() {
        Due.due("fault", new GrainBench().fault(), -1);
    }

    // Promise 8: "of the latest": a good text has none, though the one ahead had.
    static void faultBehindAGoodText() {
        GrainBench x = new GrainBench();
        Due.fault(x, "?", 0);
        Due.bench(x, 0, "swap 0 1", 1);
        Due.due("fault behind bench()", x.fault(), -1);
        Due.fault(x, "?", 0);
        Due.shelf(x, "swap 0 1", 0);
        Due.due("fault behind shelf()", x.fault(), -1);
    }

    // Promise 8: "that read a TEXT": a bench() refused by -2 read none, so the fault stays ..
    static void faultStaysBehindNoBench() {
        GrainBench x = new GrainBench();
        Due.fault(x, " ?", 1);
        Due.bench(x, 4, "swap 0 1", -2);
        Due.due("fault", x.fault(), 1);
    }

    // Promise 8: .. nor did a shelf() refused by -5.
    static void faultStaysBehindAFullShelf() {
        GrainBench x = withFullShelf();
        Due.fault(x, " ?", 1);
        Due.shelf(x, "swap 0 1", -5);
        Due.due("fault", x.fault(), 1);
    }

    // Promise 8: build() reads no text.
    static void faultStaysBehindBuild() {
        GrainBench x = Due.lit(0);
        x.plan(0, 1, 0, 0, 0, 0);
        Due.fault(x, " ?", 1);
        x.build(0);
        Due.due("fault", x.fault(), 1);
    }

    private static GrainBench withFullShelf() {
        GrainBench x = new GrainBench();
        for (int i = 0; i < 8; i++) {
            Due.shelf(x, "swap 0 1", i);
        }
        return x;
    }

    // Promise 7, Terms: "8 PARTS at most": "its number" is 0 for the first and 7 for the eighth.
    static void eightPartsOnTheShelf() {
        Due.due("count(5)", withFullShelf().count(5), 8);
    }

    // Promise 7: "-5" for the ninth; the shelf stays.
    static void ninthPartOnTheShelf() {
        GrainBench x = withFullShelf();
        Due.shelf(x, "swap 0 1", -5);
        Due.due("status", x.status(), -5);
        Due.due("count(5)", x.count(5), 8);
    }

    // Promise 7: "-5 (ahead of reading it)": a bad text is not looked at.
    static void fullShelfAheadOfABadText() {
        GrainBench x = withFullShelf();
        Due.shelf(x, "?", -5);
        Due.due("fault", x.fault(), -1);
    }

    // Promise 7: "The TAPE, which is empty then", behind a part ..
    static void tapeBehindAShelvedPart() {
        GrainBench x = new GrainBench();
        Due.shelf(x, "swap 0 1", 0);
        Due.due("count(7)", x.count(7), 0);
    }

    // Promise 7: .. behind a bad text ..
    static void tapeBehindABadPart() {
        GrainBench x = new GrainBench();
        Due.shelf(x, "?", -6);
        Due.due("count(7)", x.count(7), 0);
    }

    // Promise 7: .. and where there is no room.
    static void tapeBehindAFullShelf() {
        GrainBench x = withFullShelf();
        Due.shelf(x, "swap 0 1", -5);
        Due.due("count(7)", x.count(7), 0);
        Due.due("the next feed", feedBlanks(x), 20);
    }

    // Promise 7: "-6": the shelf stays, and the next part has the number that was free.
    static void shelfStaysBehindABadText() {
        GrainBench x = new GrainBench();
        Due.shelf(x, "swap 0 1", 0);
        Due.shelf(x, "swap 0 0", -6);
        Due.due("fault", x.fault(), 7);
        Due.due("count(5)", x.count(5), 1);
        Due.shelf(x, "swap 0 1", 1);
    }

    // Promises 7 and 8: a shelf's text is one DEED, so blanks alone or nothing can't be.
    static void shelfOfNothing() {
        GrainBench x = new GrainBench();
        Due.due("shelf() of an empty tape", x.shelf(), -6);
        Due.due("fault", x.fault(), 0);
        Due.shelf(x, "   ", -6);
        Due.due("fault of blanks", x.fault(), 3);
    }

    // Promises 7 and 8, Terms: "each a DEED": no other part.
    static void shelfOfOtherParts() {
        GrainBench x = new GrainBench();
        for (String text : new String[] {"lose 0 half", "count 0", "if 0 = 1 do swap 1 2"}) {
            Due.shelf(x, text, -6);
            Due.due("fault of '" + text + "'", x.fault(), 0);
        }
    }

    // Promises 7 and 8, Terms: one deed, not two, nor a ";" behind it.
    static void shelfOfTwoParts() {
        GrainBench x = new GrainBench();
        Due.shelf(x, "swap 0 1;swap 0 1", -6);
        Due.due("fault of two", x.fault(), 8);
        Due.shelf(x, "swap 0 1 ;", -6);
        Due.due("fault of ';'", x.fault(), 9);
    }

    // Promise 7, Terms: each DEED, with blanks around it.
    static void shelfOfEachDeed() {
        GrainBench x = new GrainBench();
        Due.shelf(x, "  split 0 4 half  ", 0);
        Due.shelf(x, "turn 4 three", 1);
        Due.shelf(x, "shift 0 mark 1 3", 2);
        Due.shelf(x, "shift 0 0", 3);
        Due.shelf(x, "swap 4 0", 4);
    }
}
