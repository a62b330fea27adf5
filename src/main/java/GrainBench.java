/**
 * Benches for single grains of light, told in a small language, with exact odds of what is counted.
 *
 * <p>Inside, a grain sits on a SEAT: 0 for no grain at all, 1 to 10 for the document's modes 0 to 9,
 * 11 to 16 for the hidden modes of the three losses. A product of up to three grains is then always
 * three seats in rising order, whatever the number of grains.
 */
public final class GrainBench {
    public static final int NONE = -1;

    private static final int NOTHING = -2000000000;
    private static final int NO_NUMBER = -1;
    private static final int NO_BENCH = -2;
    private static final int NO_ROOM = -5;
    private static final int NO_TEXT = -6;

    private static final int BENCHES = 4;
    private static final int PATHS = 5;
    private static final int MODES = 10;
    private static final int MOST_GRAINS = 3;
    private static final int MOST_BYTES = 400;
    private static final int MOST_PARTS = 16;
    private static final int MOST_LOSSES = 3;
    private static final int MOST_SHELVED = 8;
    private static final int MOST_PLANNED = 3;
    private static final int MOST_RUNS = 200;
    private static final int DAYS = 1000;
    private static final int CLICK_ROWS = 32;
    private static final int DEEPEST = 300000;
    private static final int TENTHS = 10;

    /** Seats in the open, that of no grain among them; and all seats with the hidden ones. */
    private static final int OPEN_SEATS = MODES + 1;
    private static final int ALL_SEATS = OPEN_SEATS + 2 * MOST_LOSSES;
    /** Rows of counts: three paths in rising order, 0 for none, 1 to 5 for the paths. */
    private static final int COUNT_ROWS = 56;

    private static final int ACT_SPLIT = 0;
    private static final int ACT_TURN = 1;
    private static final int ACT_SHIFT = 2;
    private static final int ACT_SWAP = 3;
    private static final int ACT_LOSE = 4;
    private static final int ACT_COUNT = 5;

    private static final int KIND_NONE = 0;
    private static final int KIND_THREE = 1;
    private static final int KIND_FOUR = 2;
    private static final int KIND_HALF = 3;

    private final Tape tape;
    private final Reader reader;
    private final Layout[] layouts;
    private final Layout shelved;
    private final Chances[] chances;
    private final Log log;
    private final Planner planner;
    private final Optic optic;
    private final Beam firstBeam;
    private final Beam secondBeam;
    private final Share share;
    private final int[] seats;
    private final int[] darkTenths;
    private int grains;
    private int latestFault;
    private int refusal;

    public GrainBench() {
        tape = new Tape();
        reader = new Reader(tape);
        layouts = new Layout[BENCHES];
        chances = new Chances[BENCHES];
        for (int i = 0; i < BENCHES; i++) {
            layouts[i] = new Layout(MOST_PARTS);
            chances[i] = new Chances();
        }
        shelved = new Layout(MOST_SHELVED);
        log = new Log();
        optic = new Optic();
        planner = new Planner(shelved);
        firstBeam = new Beam(ALL_SEATS);
        secondBeam = new Beam(ALL_SEATS);
        share = new Share();
        seats = new int[MOST_GRAINS];
        darkTenths = new int[PATHS];
        latestFault = NONE;
    }

    public int grain(int mode) {
        if (mode < 0 || mode >= MODES) {
            return refuse(NO_NUMBER);
        }
        if (grains >= MOST_GRAINS) {
            return refuse(NO_ROOM);
        }
        seats[grains] = mode + 1;
        grains++;
        forgetChances();
        return allow(grains);
    }

    public int clear() {
        int before = grains;
        grains = 0;
        for (int i = 0; i < MOST_GRAINS; i++) {
            seats[i] = 0;
        }
        forgetChances();
        return before;
    }

    public int feed(int a, int b, int c, int d, int e) {
        if (!tape.hasRoom(20)) {
            return NONE;
        }
        tape.write(a);
        tape.write(b);
        tape.write(c);
        tape.write(d);
        tape.write(e);
        return tape.length;
    }

    public int end(int n) {
        if (n < 0 || n > tape.length) {
            return NONE;
        }
        tape.length = n;
        return n;
    }

    public int bench(int bench) {
        if (!isBench(bench)) {
            // The tape is empty behind every call, also one that reads no text.
            tape.length = 0;
            return refuse(NO_BENCH);
        }
        latestFault = reader.readParts();
        tape.length = 0;
        if (latestFault != NONE) {
            return refuse(NO_TEXT);
        }
        layouts[bench].copyAll(reader.draft);
        chances[bench].fresh = false;
        return allow(layouts[bench].size);
    }

    public int shelf() {
        if (shelved.size >= MOST_SHELVED) {
            // As in bench(): the tape is empty behind every call.
            tape.length = 0;
            return refuse(NO_ROOM);
        }
        latestFault = reader.readDeedAlone();
        tape.length = 0;
        if (latestFault != NONE) {
            return refuse(NO_TEXT);
        }
        shelved.append(reader.draft.parts[0]);
        return allow(shelved.size - 1);
    }

    public int fault() {
        return latestFault;
    }

    public int deep(int bench) {
        return isBench(bench) ? layouts[bench].depthFor(grains) : NONE;
    }

    public int way(int bench, int from, int to, int what) {
        if (!isBench(bench) || from < 0 || from >= MODES || to < 0 || to >= MODES) {
            return NOTHING;
        }
        int depth = layouts[bench].depthFor(1);
        if (depth > DEEPEST || what < 0 || what > 4) {
            return NOTHING;
        }
        if (what == 4) {
            return depth;
        }
        Beam out = lightThrough(layouts[bench], Beam.keyOf(0, 0, from + 1));
        return (int) out.numberPart(Beam.keyOf(0, 0, to + 1), what);
    }

    public long odds(int bench, int p0, int p1, int p2, int p3, int p4, int what) {
        if (what < 0 || what > 2) {
            return NONE;
        }
        int counts = packCounts(p0, p1, p2, p3, p4);
        if (counts < 0 || !isTold(bench)) {
            return what == 2 ? -1 : 0;
        }
        chances[bench].shareOfRow(rowOfCounts(counts), share);
        return share.part(what);
    }

    public int dark(int path, int tenths) {
        if (path < 0 || path >= PATHS || tenths < 0 || tenths >= TENTHS) {
            return refuse(NO_NUMBER);
        }
        int before = darkTenths[path];
        darkTenths[path] = tenths;
        return allow(before);
    }

    public long clicks(int bench, int bits, int what) {
        if (what < 0 || what > 2) {
            return NONE;
        }
        if (!areBits(bits) || !isTold(bench)) {
            return what == 2 ? -1 : 0;
        }
        chances[bench].shareOfClicks(bits, darkTenths, share);
        return share.part(what);
    }

    public int run(int bench, int bits, int known) {
        if (!areBits(bits) || !isDay(known)) {
            return refuse(NO_NUMBER);
        }
        if (!isBench(bench)) {
            return refuse(NO_BENCH);
        }
        if (log.size >= MOST_RUNS) {
            return refuse(NO_ROOM);
        }
        log.append(bench, bits, known);
        return allow(log.size);
    }

    public int counted(int bench, int bits, int known) {
        if (!isBench(bench) || !isDay(known) || (bits != NONE && !areBits(bits))) {
            return NONE;
        }
        log.tally(bench, known);
        return bits == NONE ? log.all : log.seen[bits];
    }

    public int wrong(int bench, int known) {
        if (!isDay(known) || !isTold(bench)) {
            return NONE;
        }
        log.tally(bench, known);
        int sum = 0;
        for (int bits = 0; bits < CLICK_ROWS; bits++) {
            if (log.seen[bits] > 0) {
                chances[bench].shareOfClicks(bits, darkTenths, share);
                sum += share.isZero() ? log.seen[bits] : 0;
            }
        }
        return sum;
    }

    public int misfit(int bench, int known) {
        return isDay(known) && isTold(bench) ? sumApart(bench, known) : NONE;
    }

    public int fits(int known) {
        if (!isDay(known)) {
            return NONE;
        }
        int best = NONE;
        int least = 0;
        for (int i = 0; i < BENCHES; i++) {
            int apart = isTold(i) ? sumApart(i, known) : NONE;
            if (apart != NONE && (best == NONE || apart < least)) {
                best = i;
                least = apart;
            }
        }
        return best;
    }

    public int pairs(int bench, int known, int what) {
        if (!isBench(bench) || !isDay(known) || what < 0 || what > 1) {
            return NONE;
        }
        log.tally(bench, known);
        return what == 0 ? log.like() : log.unlike();
    }

    public long notes(int known, int what) {
        if (!isDay(known) || what < 0 || what > 2 || !log.sumSides(known, share)) {
            return NOTHING;
        }
        if (what == 0) {
            return share.u;
        }
        if (what == 1) {
            return share.w;
        }
        return share.u > 2 * share.w ? 1 : 0;
    }

    public int plan(int n, int p0, int p1, int p2, int p3, int p4) {
        int counts = packCounts(p0, p1, p2, p3, p4);
        if (n < 0 || n > MOST_PLANNED || counts < 0 || grains == 0) {
            return NONE;
        }
        planner.search(n, startKey(), grains, rowOfCounts(counts));
        return planner.bestSize;
    }

    public long planned(int i) {
        if (planner.bestSize == NONE || i < -3 || i >= planner.bestSize) {
            return NOTHING;
        }
        return i < 0 ? planner.best.part(-1 - i) : planner.bestRow[i];
    }

    public int build(int bench) {
        if (!isBench(bench)) {
            return refuse(NO_BENCH);
        }
        if (planner.bestSize == NONE) {
            return refuse(NO_TEXT);
        }
        Layout layout = layouts[bench];
        layout.size = 0;
        for (int i = 0; i < planner.bestSize; i++) {
            layout.append(shelved.parts[planner.bestRow[i]]);
        }
        chances[bench].fresh = false;
        return allow(layout.size);
    }

    public int count(int what) {
        if (what >= 1 && what <= BENCHES) {
            return layouts[what - 1].size;
        }
        switch (what) {
            case 0:
                return grains;
            case 5:
                return shelved.size;
            case 6:
                return log.size;
            case 7:
                return tape.length;
            default:
                return NONE;
        }
    }

    public int status() {
        return refusal;
    }

    private int refuse(int why) {
        refusal = why;
        return why;
    }

    private int allow(int answer) {
        refusal = 0;
        return answer;
    }

    private static boolean isBench(int bench) {
        return bench >= 0 && bench < BENCHES;
    }

    private static boolean isDay(int day) {
        return day >= 0 && day < DAYS;
    }

    private static boolean areBits(int bits) {
        return bits >= 0 && bits < CLICK_ROWS;
    }

    /** Four bits for each path, or NONE if a count is not one of 0 to 3. */
    private static int packCounts(int p0, int p1, int p2, int p3, int p4) {
        int most = Math.max(Math.max(Math.max(p0, p1), Math.max(p2, p3)), p4);
        int least = Math.min(Math.min(Math.min(p0, p1), Math.min(p2, p3)), p4);
        if (least < 0 || most > MOST_GRAINS) {
            return NONE;
        }
        return p0 | p1 << 4 | p2 << 8 | p3 << 12 | p4 << 16;
    }

    /** The place of a row of counts among all rows; NONE if it holds more grains than there may be. */
    private static int rowOfCounts(int counts) {
        int low = 0;
        int mid = 0;
        int high = 0;
        for (int path = 1; path <= PATHS; path++) {
            int here = counts >> 4 * (path - 1) & 15;
            for (int i = 0; i < here; i++) {
                if (low != 0) {
                    return NONE;
                }
                low = mid;
                mid = high;
                high = path;
            }
        }
        return Beam.placeOfKey(Beam.keyOf(low, mid, high));
    }

    private void forgetChances() {
        for (int i = 0; i < BENCHES; i++) {
            chances[i].fresh = false;
        }
    }

    private int startKey() {
        return Beam.keyOf(seats[0], seats[1], seats[2]);
    }

    /** Whether there is such a bench and its odds can be told; they stand in its chances then. */
    private boolean isTold(int bench) {
        if (!isBench(bench)) {
            return false;
        }
        Chances told = chances[bench];
        if (told.fresh) {
            return told.depth <= DEEPEST;
        }
        told.fresh = true;
        told.depth = layouts[bench].depthFor(grains);
        if (told.depth > DEEPEST) {
            return false;
        }
        int start = startKey();
        long under = (long) told.depth * told.depth * Beam.orders(start);
        told.gather(lightThrough(layouts[bench], start), under);
        return true;
    }

    /** How far the runs of a bench whose odds are told lie apart from them; NONE without runs. */
    private int sumApart(int bench, int known) {
        log.tally(bench, known);
        if (log.all <= 0) {
            return NONE;
        }
        int sum = 0;
        for (int bits = 0; bits < CLICK_ROWS; bits++) {
            chances[bench].shareOfClicks(bits, darkTenths, share);
            sum += Math.abs(1000 * log.seen[bits] / log.all - share.thousandths());
        }
        return sum;
    }

    private Beam lightThrough(Layout layout, int start) {
        Beam now = firstBeam;
        Beam next = secondBeam;
        now.begin(start);
        for (int i = 0; i < layout.size; i++) {
            Part part = layout.parts[i];
            if (part.act != ACT_COUNT) {
                optic.aim(part);
                now.send(part, optic, next);
                Beam passed = now;
                now = next;
                next = passed;
            }
        }
        return now;
    }

    /** The bytes that were fed, 0 to 255 each. */
    private static final class Tape {
        private final int[] bytes = new int[MOST_BYTES];
        private int length;

        private boolean hasRoom(int more) {
            return length + more <= MOST_BYTES;
        }

        private void write(int four) {
            for (int shift = 24; shift >= 0 && length < MOST_BYTES; shift -= 8) {
                bytes[length] = four >> shift & 255;
                length++;
            }
        }
    }

    /** One part of a bench. Parts are made once and written over, so that calls make no objects. */
    private static final class Part {
        private int act;
        private int first;
        private int second;
        private int kind;
        /** The only mark that a shift acts on, or NONE for both. */
        private int mark;
        private int times;
        /** The counted path that is waited for, or NONE. */
        private int waitPath;
        private int waitCount;
        /** Which of the bench's losses this is. */
        private int loss;

        private void reset() {
            act = ACT_COUNT;
            first = 0;
            second = 0;
            kind = KIND_NONE;
            mark = NONE;
            times = 0;
            waitPath = NONE;
            waitCount = 0;
            loss = 0;
        }

        private void copyPart(Part other) {
            act = other.act;
            first = other.first;
            second = other.second;
            kind = other.kind;
            mark = other.mark;
            times = other.times;
            waitPath = other.waitPath;
            waitCount = other.waitCount;
            loss = other.loss;
        }

        /** What the factors of the kind are told through. */
        private int base() {
            if (kind == KIND_NONE) {
                return 1;
            }
            return kind == KIND_HALF ? 2 : 5;
        }

        private int stays() {
            if (kind == KIND_THREE) {
                return 3;
            }
            return kind == KIND_FOUR ? 4 : 1;
        }

        private int goes() {
            if (kind == KIND_THREE) {
                return 4;
            }
            return kind == KIND_FOUR ? 3 : 1;
        }

        /** How often the root of two stands in both factors of the kind. */
        private int roots() {
            return kind == KIND_HALF ? 1 : 0;
        }

        private boolean joinsPaths() {
            return act == ACT_SPLIT || act == ACT_SWAP;
        }

        private boolean actsOn(int key) {
            return waitPath == NONE || Beam.grainsIn(key, waitPath + 1) == waitCount;
        }
    }

    /** A row of parts: a bench, or the shelf. */
    private static final class Layout {
        private final Part[] parts;
        private int size;

        private Layout(int room) {
            parts = new Part[room];
            for (int i = 0; i < room; i++) {
                parts[i] = new Part();
            }
        }

        private void append(Part part) {
            if (size < parts.length) {
                parts[size].copyPart(part);
                size++;
            }
        }

        private void copyAll(Layout other) {
            size = 0;
            for (int i = 0; i < other.size; i++) {
                append(other.parts[i]);
            }
        }

        private int depthFor(int grains) {
            int depth = 1;
            for (int i = 0; i < size; i++) {
                depth = deepen(depth, parts[i].base(), grains);
            }
            return depth;
        }

        /** The depth behind one more part, held at one above the deepest that can be told. */
        private static int deepen(int depth, int base, int grains) {
            int product = depth;
            for (int i = 0; i < grains && product <= DEEPEST; i++) {
                product *= base;
            }
            return Math.min(product, DEEPEST + 1);
        }
    }

    /** Reads the tape's text into a draft. Where a step fails, the present token is the fault. */
    private static final class Reader {
        private final Tape tape;
        private final Layout draft = new Layout(MOST_PARTS);
        /** The present token: its place, the place behind it, its number or NONE if it is none. */
        private int start;
        private int stop;
        private int value;
        private int countedPaths;
        private int losses;

        private Reader(Tape tape) {
            this.tape = tape;
        }

        /** Reads a bench's text: the place of its fault, or NONE. */
        private int readParts() {
            restart();
            if (atEnd()) {
                return NONE;
            }
            for (int i = 0; i < MOST_PARTS; i++) {
                if (!readPart()) {
                    return start;
                }
                if (atEnd()) {
                    return NONE;
                }
                if (!take(";")) {
                    return start;
                }
            }
            return start;
        }

        /** Reads a text that is one deed: the place of its fault, or NONE. */
        private int readDeedAlone() {
            restart();
            Part part = draft.parts[0];
            part.reset();
            return readDeed(part) && atEnd() ? NONE : start;
        }

        private void restart() {
            draft.size = 0;
            countedPaths = 0;
            losses = 0;
            stop = 0;
            advance();
        }

        private boolean readPart() {
            if (draft.size >= MOST_PARTS) {
                return false;
            }
            Part part = draft.parts[draft.size];
            part.reset();
            boolean good;
            if (take("if")) {
                good = readWait(part) && readDeed(part);
            } else if (says("lose")) {
                good = readLoss(part);
            } else if (take("count")) {
                good = readCounter(part);
            } else {
                good = readDeed(part);
            }
            draft.size += good ? 1 : 0;
            return good;
        }

        private boolean readWait(Part part) {
            part.waitPath = readPath(true, NONE);
            if (part.waitPath == NONE || !take("=")) {
                return false;
            }
            part.waitCount = readNumber(MOST_GRAINS);
            return part.waitCount != NONE && take("do");
        }

        private boolean readLoss(Part part) {
            if (losses >= MOST_LOSSES) {
                return false;
            }
            advance();
            part.act = ACT_LOSE;
            part.loss = losses;
            losses++;
            return readFirst(part) && readKind(part);
        }

        private boolean readCounter(Part part) {
            part.act = ACT_COUNT;
            if (!readFirst(part)) {
                return false;
            }
            countedPaths |= 1 << part.first;
            return true;
        }

        private boolean readDeed(Part part) {
            if (take("split")) {
                part.act = ACT_SPLIT;
                return readFirst(part) && readSecond(part) && readKind(part);
            }
            if (take("turn")) {
                part.act = ACT_TURN;
                return readFirst(part) && readKind(part);
            }
            if (take("shift")) {
                part.act = ACT_SHIFT;
                return readFirst(part) && readShift(part);
            }
            if (take("swap")) {
                part.act = ACT_SWAP;
                return readFirst(part) && readSecond(part);
            }
            return false;
        }

        private boolean readShift(Part part) {
            if (take("mark")) {
                part.mark = readNumber(1);
                if (part.mark == NONE) {
                    return false;
                }
            }
            part.times = readNumber(3);
            return part.times != NONE;
        }

        private boolean readFirst(Part part) {
            part.first = readPath(false, NONE);
            return part.first != NONE;
        }

        private boolean readSecond(Part part) {
            part.second = readPath(false, part.first);
            return part.second != NONE;
        }

        private boolean readKind(Part part) {
            if (take("three")) {
                part.kind = KIND_THREE;
            } else if (take("four")) {
                part.kind = KIND_FOUR;
            } else if (take("half")) {
                part.kind = KIND_HALF;
            }
            return part.kind != KIND_NONE;
        }

        /** A path that was counted ahead or was not, as wanted, and that is not the unlike one. */
        private int readPath(boolean wantCounted, int unlike) {
            int path = value;
            if (path < 0 || path >= PATHS || path == unlike) {
                return NONE;
            }
            boolean isCounted = (countedPaths >> path & 1) == 1;
            if (isCounted != wantCounted) {
                return NONE;
            }
            advance();
            return path;
        }

        private int readNumber(int most) {
            int number = value;
            if (number < 0 || number > most) {
                return NONE;
            }
            advance();
            return number;
        }

        private boolean take(String word) {
            boolean found = says(word);
            if (found) {
                advance();
            }
            return found;
        }

        private boolean says(String word) {
            if (word.length() != stop - start) {
                return false;
            }
            for (int i = start; i < stop; i++) {
                if (tape.bytes[i] != word.charAt(i - start)) {
                    return false;
                }
            }
            return true;
        }

        private boolean atEnd() {
            return start >= tape.length;
        }

        /** Goes to the next token; at the end it is an empty one behind the last byte. */
        private void advance() {
            int length = tape.length;
            start = stop;
            while (start < length && tape.bytes[start] == ' ') {
                start++;
            }
            stop = start;
            value = NONE;
            if (start >= length) {
                return;
            }
            if (isDigit(tape.bytes[start])) {
                value = 0;
                while (stop < length && isDigit(tape.bytes[stop])) {
                    // Held low so that a long row of digits does not wrap.
                    value = Math.min(value * 10 + tape.bytes[stop] - '0', 1000);
                    stop++;
                }
                return;
            }
            stop++;
            if (isLetter(tape.bytes[start])) {
                while (stop < length && isLetter(tape.bytes[stop])) {
                    stop++;
                }
            }
        }

        private static boolean isLetter(int sign) {
            return sign >= 'a' && sign <= 'z';
        }

        private static boolean isDigit(int sign) {
            return sign >= '0' && sign <= '9';
        }
    }

    /**
     * How one part sends a grain on: from each seat on one or two branches, each with a whole factor,
     * roots of two and quarter turns (powers of i). Branch b of seat s stands at 2 s + b.
     */
    private static final class Optic {
        private final int[] branches = new int[ALL_SEATS];
        private final int[] target = new int[2 * ALL_SEATS];
        private final int[] factor = new int[2 * ALL_SEATS];
        private final int[] roots = new int[2 * ALL_SEATS];
        private final int[] quarters = new int[2 * ALL_SEATS];

        private void aim(Part part) {
            for (int seat = 0; seat < ALL_SEATS; seat++) {
                branches[seat] = 0;
                // A grain that is not met is told through the same base, so that all numbers share one.
                lead(seat, seat, seat == 0 ? 1 : part.base(), 0, 0);
            }
            for (int mark = 0; mark < 2; mark++) {
                int here = seatOf(part.first, mark);
                int there = seatOf(part.second, mark);
                switch (part.act) {
                    case ACT_SPLIT:
                        fork(part, here, there, 1);
                        fork(part, there, here, 1);
                        break;
                    case ACT_TURN:
                        fork(part, here, seatOf(part.first, 1 - mark), 2 * mark);
                        break;
                    case ACT_SHIFT:
                        bend(here, here, part.mark == NONE || part.mark == mark ? part.times : 0);
                        break;
                    case ACT_SWAP:
                        bend(here, there, 0);
                        bend(there, here, 0);
                        break;
                    case ACT_LOSE:
                        fork(part, here, seatOf(PATHS + part.loss, mark), 1);
                        break;
                    default:
                        break;
                }
            }
        }

        private static int seatOf(int path, int mark) {
            return 2 * path + mark + 1;
        }

        private void fork(Part part, int from, int to, int turns) {
            branches[from] = 0;
            lead(from, from, part.stays(), part.roots(), 0);
            lead(from, to, part.goes(), part.roots(), turns);
        }

        private void bend(int from, int to, int turns) {
            branches[from] = 0;
            lead(from, to, 1, 0, turns);
        }

        private void lead(int from, int to, int times, int rootCount, int turns) {
            int at = 2 * from + branches[from];
            branches[from]++;
            target[at] = to;
            factor[at] = times;
            roots[at] = rootCount;
            quarters[at] = turns;
        }
    }

    /**
     * A sum of products of grains, each with its number (a + b r) + (c + d r) i, all through one depth
     * that is held elsewhere. Only products that have been met are listed, for most never are.
     * A key holds a product's three seats in rising order, five bits each.
     */
    private static final class Beam {
        private final int[] keys;
        private final boolean[] listed;
        private final long[] a;
        private final long[] b;
        private final long[] c;
        private final long[] d;
        private int size;

        private Beam(int seatCount) {
            int room = seatCount * (seatCount + 1) * (seatCount + 2) / 6;
            keys = new int[room];
            listed = new boolean[room];
            a = new long[room];
            b = new long[room];
            c = new long[room];
            d = new long[room];
        }

        private static int keyOf(int x, int y, int z) {
            int low = Math.min(Math.min(x, y), z);
            int high = Math.max(Math.max(x, y), z);
            return low | x + y + z - low - high << 5 | high << 10;
        }

        private static int low(int key) {
            return key & 31;
        }

        private static int mid(int key) {
            return key >> 5 & 31;
        }

        private static int high(int key) {
            return key >> 10 & 31;
        }

        /** The place of a key's three rising numbers among all such, those of a lower highest one first. */
        private static int placeOfKey(int key) {
            int low = key & 31;
            int mid = key >> 5 & 31;
            int high = key >> 10 & 31;
            return low + mid * (mid + 1) / 2 + high * (high + 1) * (high + 2) / 6;
        }

        /** The product of k! over the seats with k grains. */
        private static int orders(int key) {
            int low = low(key);
            int mid = mid(key);
            int pairAbove = mid != 0 && mid == high(key) ? 2 : 1;
            if (low == 0 || low != mid) {
                return pairAbove;
            }
            return pairAbove == 2 ? 6 : 2;
        }

        /** 1 to 5 for a seat in a path, 0 for a hidden one and for no grain. */
        private static int pathOf(int seat) {
            return seat < OPEN_SEATS ? (seat + 1) / 2 : 0;
        }

        private static int grainsIn(int key, int path) {
            int sum = pathOf(low(key)) == path ? 1 : 0;
            sum += pathOf(mid(key)) == path ? 1 : 0;
            return sum + (pathOf(high(key)) == path ? 1 : 0);
        }

        private static int rowOfKey(int key) {
            return placeOfKey(keyOf(pathOf(low(key)), pathOf(mid(key)), pathOf(high(key))));
        }

        /** The paths with grains as bits. */
        private static int pathsOf(int key) {
            // The bit that stands for no path is shifted out.
            return (1 << pathOf(low(key)) | 1 << pathOf(mid(key)) | 1 << pathOf(high(key))) >> 1;
        }

        private void begin(int key) {
            wipe();
            add(key, placeOfKey(key), 1, 0, 0, 0);
        }

        private void wipe() {
            for (int i = 0; i < size; i++) {
                int at = placeOfKey(keys[i]);
                listed[at] = false;
                a[at] = 0;
                b[at] = 0;
                c[at] = 0;
                d[at] = 0;
            }
            size = 0;
        }

        private void add(int key, int at, long addA, long addB, long addC, long addD) {
            if (at < 0 || at >= listed.length) {
                return;
            }
            if (!listed[at]) {
                listed[at] = true;
                keys[size] = key;
                size++;
            }
            a[at] += addA;
            b[at] += addB;
            c[at] += addC;
            d[at] += addD;
        }

        private boolean isZero(int at) {
            return a[at] == 0 && b[at] == 0 && c[at] == 0 && d[at] == 0;
        }

        private long numberPart(int key, int what) {
            int at = placeOfKey(key);
            if (at >= listed.length) {
                return 0;
            }
            switch (what) {
                case 0:
                    return a[at];
                case 1:
                    return b[at];
                case 2:
                    return c[at];
                default:
                    return d[at];
            }
        }

        /** Writes into out what this beam is behind the part, at which the optic has been aimed. */
        private void send(Part part, Optic optic, Beam out) {
            out.wipe();
            for (int i = 0; i < size; i++) {
                int key = keys[i];
                int at = placeOfKey(key);
                if (isZero(at)) {
                    continue;
                }
                if (part.actsOn(key)) {
                    spread(key, optic, out);
                } else {
                    out.addScaled(key, idleFactor(key, part.base()), 0, 0, this, at);
                }
            }
        }

        /** Whether a grain may be in a path that the part names. */
        private boolean isMetBy(Part part) {
            for (int i = 0; i < size; i++) {
                int met = grainsIn(keys[i], part.first + 1);
                met += part.joinsPaths() ? grainsIn(keys[i], part.second + 1) : 0;
                if (met > 0 && !isZero(placeOfKey(keys[i]))) {
                    return true;
                }
            }
            return false;
        }

        private static long idleFactor(int key, int base) {
            long factor = low(key) == 0 ? 1 : base;
            factor *= mid(key) == 0 ? 1 : base;
            return high(key) == 0 ? factor : factor * base;
        }

        private void spread(int key, Optic optic, Beam out) {
            int from = placeOfKey(key);
            int lowAt = 2 * low(key);
            int midAt = 2 * mid(key);
            int highAt = 2 * high(key);
            int lowStop = lowAt + optic.branches[low(key)];
            int midStop = midAt + optic.branches[mid(key)];
            int highStop = highAt + optic.branches[high(key)];
            for (int x = lowAt; x < lowStop; x++) {
                for (int y = midAt; y < midStop; y++) {
                    for (int z = highAt; z < highStop; z++) {
                        int to = keyOf(optic.target[x], optic.target[y], optic.target[z]);
                        long factor = optic.factor[x] * optic.factor[y] * optic.factor[z];
                        int roots = optic.roots[x] + optic.roots[y] + optic.roots[z];
                        int turns = optic.quarters[x] + optic.quarters[y] + optic.quarters[z];
                        out.addScaled(to, factor, roots, turns, this, from);
                    }
                }
            }
        }

        /** Adds another beam's number, times a factor, roots of two and quarter turns. */
        private void addScaled(int key, long factor, int roots, int turns, Beam from, int at) {
            int to = placeOfKey(key);
            long times = roots >= 2 ? 2 * factor : factor;
            boolean odd = (roots & 1) == 1;
            long newA = times * (odd ? 2 * from.b[at] : from.a[at]);
            long newB = times * (odd ? from.a[at] : from.b[at]);
            long newC = times * (odd ? 2 * from.d[at] : from.c[at]);
            long newD = times * (odd ? from.c[at] : from.d[at]);
            switch (turns & 3) {
                case 0:
                    add(key, to, newA, newB, newC, newD);
                    break;
                case 1:
                    add(key, to, -newC, -newD, newA, newB);
                    break;
                case 2:
                    add(key, to, -newA, -newB, -newC, -newD);
                    break;
                default:
                    add(key, to, newC, newD, -newA, -newB);
                    break;
            }
        }

        /** The whole part of a product's size squared, times its orders. */
        private long weightWhole(int key) {
            int at = placeOfKey(key);
            long sum = a[at] * a[at] + 2 * b[at] * b[at] + c[at] * c[at] + 2 * d[at] * d[at];
            return sum * orders(key);
        }

        /** The root's part of a product's size squared, times its orders. */
        private long weightRoot(int key) {
            int at = placeOfKey(key);
            return 2 * (a[at] * b[at] + c[at] * d[at]) * orders(key);
        }

        private void shareOfRow(int row, long under, Share out) {
            long u = 0;
            long v = 0;
            for (int i = 0; i < size; i++) {
                if (rowOfKey(keys[i]) == row) {
                    u += weightWhole(keys[i]);
                    v += weightRoot(keys[i]);
                }
            }
            out.put(u, v, under);
        }
    }

    /** (u + v r) / w in lowest terms, w above 0. */
    private static final class Share {
        private long u;
        private long v;
        private long w = 1;

        private void put(long newU, long newV, long newW) {
            long common = divisor(divisor(Math.abs(newU), Math.abs(newV)), newW);
            if (common <= 0) {
                u = 0;
                v = 0;
                w = 1;
                return;
            }
            u = newU / common;
            v = newV / common;
            w = newW / common;
        }

        private void copyShare(Share other) {
            u = other.u;
            v = other.v;
            w = other.w;
        }

        private static long divisor(long x, long y) {
            long high = x;
            long low = y;
            // Euclid's steps on 63 bits are fewer than a hundred.
            for (int i = 0; i < 200 && low != 0; i++) {
                long rest = high % low;
                high = low;
                low = rest;
            }
            return high;
        }

        private long part(int what) {
            if (what == 0) {
                return u;
            }
            return what == 1 ? v : w;
        }

        private boolean isZero() {
            return u == 0 && v == 0;
        }

        /** In lowest terms w is below 2^51, so nothing here wraps. */
        private int thousandths() {
            if (w <= 0) {
                return 0;
            }
            return (int) ((u + v * 1414 / 1000) * 1000 / w);
        }

        /** The sign of this share less the other one, exactly. */
        private int compareShare(Share other) {
            long common = divisor(w, other.w);
            if (common <= 0) {
                return 0;
            }
            long mine = other.w / common;
            long others = w / common;
            return signOf(u * mine - other.u * others, v * mine - other.v * others);
        }

        /** The sign of x + y r; squares of x and y could wrap, so they are made smaller instead. */
        private static int signOf(long x, long y) {
            if (x >= 0 && y >= 0) {
                return x == 0 && y == 0 ? 0 : 1;
            }
            if (x <= 0 && y <= 0) {
                return -1;
            }
            int sign = x > 0 ? 1 : -1;
            long whole = Math.abs(x);
            long rooted = Math.abs(y);
            for (int i = 0; i < 200; i++) {
                if (whole >= 2 * rooted) {
                    return sign;
                }
                if (whole <= rooted) {
                    return -sign;
                }
                // p - q r is (1 - r) times (2 q - p) - (p - q) r, and 1 - r is below 0.
                long rest = whole - rooted;
                whole = 2 * rooted - whole;
                rooted = rest;
                sign = -sign;
            }
            return 0;
        }
    }

    /** What can be counted behind a bench, all through one number; kept until bench or grains change. */
    private static final class Chances {
        private final long[] rowU = new long[COUNT_ROWS];
        private final long[] rowV = new long[COUNT_ROWS];
        /** By the set of paths that have grains. */
        private final long[] setU = new long[CLICK_ROWS];
        private final long[] setV = new long[CLICK_ROWS];
        private long under = 1;
        private int depth;
        private boolean fresh;

        private void gather(Beam beam, long newUnder) {
            under = newUnder;
            for (int i = 0; i < COUNT_ROWS; i++) {
                rowU[i] = 0;
                rowV[i] = 0;
            }
            for (int i = 0; i < CLICK_ROWS; i++) {
                setU[i] = 0;
                setV[i] = 0;
            }
            for (int i = 0; i < beam.size; i++) {
                int key = beam.keys[i];
                long u = beam.weightWhole(key);
                long v = beam.weightRoot(key);
                int row = Beam.rowOfKey(key);
                int set = Beam.pathsOf(key);
                rowU[row] += u;
                rowV[row] += v;
                setU[set] += u;
                setV[set] += v;
            }
        }

        private void shareOfRow(int row, Share out) {
            if (row < 0 || row >= COUNT_ROWS) {
                out.put(0, 0, 1);
            } else {
                out.put(rowU[row], rowV[row], under);
            }
        }

        private void shareOfClicks(int bits, int[] dark, Share out) {
            long u = 0;
            long v = 0;
            for (int set = 0; set < CLICK_ROWS; set++) {
                boolean canBe = (set & ~bits) == 0 && (setU[set] != 0 || setV[set] != 0);
                if (canBe) {
                    int weight = darkWeight(set, bits, dark);
                    u += setU[set] * weight;
                    v += setV[set] * weight;
                }
            }
            out.put(u, v, under * 100000);
        }

        /** How often in 100,000 just these bits click where the paths of the set have grains. */
        private static int darkWeight(int set, int bits, int[] dark) {
            int weight = 1;
            for (int path = 0; path < PATHS && path < dark.length; path++) {
                if ((set >> path & 1) == 1) {
                    weight *= TENTHS;
                } else if ((bits >> path & 1) == 1) {
                    weight *= dark[path];
                } else {
                    weight *= TENTHS - dark[path];
                }
            }
            return weight;
        }
    }

    /** The runs that were told, and tallies of them as known on a day. */
    private static final class Log {
        private final int[] benches = new int[MOST_RUNS];
        private final int[] clicked = new int[MOST_RUNS];
        private final int[] days = new int[MOST_RUNS];
        private int size;
        /** The latest tally: how many runs by their clicks, and in all. */
        private final int[] seen = new int[CLICK_ROWS];
        private int all;
        private final int[] sideUpper = new int[BENCHES];
        private final int[] sideLower = new int[BENCHES];

        private void append(int bench, int bits, int day) {
            if (size < MOST_RUNS) {
                benches[size] = bench;
                clicked[size] = bits;
                days[size] = day;
                size++;
            }
        }

        private void tally(int bench, int day) {
            for (int i = 0; i < CLICK_ROWS; i++) {
                seen[i] = 0;
            }
            all = 0;
            for (int i = 0; i < size; i++) {
                if (benches[i] == bench && days[i] <= day) {
                    seen[clicked[i]]++;
                    all++;
                }
            }
        }

        /** Counters 0 and 2 alone, or 1 and 3 alone. */
        private int like() {
            return seen[1 | 4] + seen[2 | 8];
        }

        /** Counters 0 and 3 alone, or 1 and 2 alone. */
        private int unlike() {
            return seen[1 | 8] + seen[2 | 4];
        }

        /** Puts the greatest sum of the sides into out; false if of some bench no run pairs. */
        private boolean sumSides(int day, Share out) {
            long lower = 1;
            for (int i = 0; i < BENCHES; i++) {
                tally(i, day);
                sideUpper[i] = like() - unlike();
                sideLower[i] = like() + unlike();
                if (sideLower[i] <= 0) {
                    return false;
                }
                lower *= sideLower[i];
            }
            long greatest = -4 * lower;
            for (int minus = 0; minus < 1 << BENCHES; minus++) {
                if ((Integer.bitCount(minus) & 1) == 1) {
                    greatest = Math.max(greatest, signedSum(minus, lower));
                }
            }
            out.put(greatest, 0, lower);
            return true;
        }

        private long signedSum(int minus, long lower) {
            long sum = 0;
            for (int i = 0; i < BENCHES; i++) {
                long under = sideLower[i];
                if (under > 0) {
                    long term = sideUpper[i] * (lower / under);
                    sum += (minus >> i & 1) == 1 ? -term : term;
                }
            }
            return sum;
        }
    }

    /** Tries all short rows of the shelf's parts and keeps the best of the latest search. */
    private static final class Planner {
        /** Far above the steps that all rows of three out of eight parts need. */
        private static final int MOST_STEPS = 10000;

        private final Layout shelved;
        private final Optic[] optics = new Optic[MOST_SHELVED];
        /** What stands behind the first parts of the row that is tried, by how many they are. */
        private final Beam[] beams = new Beam[MOST_PLANNED + 1];
        private final int[] depths = new int[MOST_PLANNED + 1];
        /** The row that is tried, and the part that comes next behind so many of it. */
        private final int[] row = new int[MOST_PLANNED + 1];
        private final int[] following = new int[MOST_PLANNED + 1];
        private final int[] bestRow = new int[MOST_PLANNED];
        private int bestSize = NONE;
        private final Share best = new Share();
        private final Share trial = new Share();

        private Planner(Layout shelved) {
            this.shelved = shelved;
            for (int i = 0; i < MOST_SHELVED; i++) {
                optics[i] = new Optic();
            }
            for (int i = 0; i <= MOST_PLANNED; i++) {
                beams[i] = new Beam(OPEN_SEATS);
            }
        }

        private void search(int most, int start, int grains, int wanted) {
            int orders = Beam.orders(start);
            for (int i = 0; i < shelved.size; i++) {
                optics[i].aim(shelved.parts[i]);
            }
            bestSize = NONE;
            beams[0].begin(start);
            depths[0] = 1;
            following[0] = 0;
            weigh(0, wanted, orders);
            int length = 0;
            for (int step = 0; step < MOST_STEPS && length >= 0; step++) {
                if (length >= most || length >= MOST_PLANNED || following[length] >= shelved.size) {
                    length--;
                } else if (lengthen(length, most, grains)) {
                    length++;
                    weigh(length, wanted, orders);
                }
            }
        }

        /** Puts the part that follows behind the row of this length, unless that is too deep or vain. */
        private boolean lengthen(int length, int most, int grains) {
            int next = following[length];
            following[length]++;
            Part part = shelved.parts[next];
            int deeper = Layout.deepen(depths[length], part.base(), grains);
            if (deeper > DEEPEST || isVain(part, beams[length], length + 1 >= most)) {
                return false;
            }
            row[length] = next;
            beams[length].send(part, optics[next], beams[length + 1]);
            depths[length + 1] = deeper;
            following[length + 1] = 0;
            return true;
        }

        /**
         * Whether rows with the part here have the odds of shorter ones without it, which come ahead:
         * it meets no grain, or it is the last part and leaves each grain in its path.
         */
        private static boolean isVain(Part part, Beam beam, boolean isLast) {
            return (isLast && !part.joinsPaths()) || !beam.isMetBy(part);
        }

        /** Keeps the row if it is better; rows of one length come in their order, so the first stays. */
        private void weigh(int length, int wanted, int orders) {
            long under = (long) depths[length] * depths[length] * orders;
            beams[length].shareOfRow(wanted, under, trial);
            int compared = bestSize == NONE ? 1 : trial.compareShare(best);
            if (compared > 0 || (compared == 0 && length < bestSize)) {
                best.copyShare(trial);
                bestSize = length;
                for (int i = 0; i < length; i++) {
                    bestRow[i] = row[i];
                }
            }
        }
    }
}
