import java.util.Arrays;
import java.util.NoSuchElementException;

/** Two weavers who weave one cloth from its two ends toward the middle. */
public final class TwoWeavers {
    public static final int NONE = -1;

    private static final int NOT_FOUND = -2;

    private static final int LEFT = 0;
    private static final int RIGHT = 1;

    private static final int TAPE_ROOM = 900;
    private static final int KIND_ROOM = 8;
    private static final int COLOUR_ROOM = 2;
    private static final int STORE_LEVELS = 10;
    private static final int USES = STORE_LEVELS * STORE_LEVELS;
    private static final int SIDE_ROOM = 24;
    private static final int MOTIF_ROOM = 4;
    private static final int MOTIF_ROWS = 4;
    private static final int NOTE_ROOM = 6;
    private static final int ACT_ROOM = 12;
    private static final int MARK_ROOM = 3;
    private static final int MOST_WEEKS = 9;

    private static final int NO_TROUBLE = 0;
    private static final int NONE_SUCH = 1;
    private static final int A_NUMBER = 2;
    private static final int NO_ROOM = 3;
    private static final int A_FAULT = 4;
    private static final int NOT_SO = 5;
    private static final int THERE_IS_NONE = 6;

    private static final int PLAIN = 0;
    private static final int MIRRORED = 1;
    private static final int TURNING = 2;
    private static final int GROWING = 3;

    private final byte[] tape = new byte[TAPE_ROOM];
    private int tapeLength = 0;
    private final Reader reader = new Reader();
    private Plan plan = new Plan();
    private Loom loom = new Loom();
    private boolean clothTold = false;
    private int latestTrouble = NO_TROUBLE;
    private final Loom[] acts = new Loom[ACT_ROOM];
    private int actCount = 0;
    private final Loom[] marks = new Loom[MARK_ROOM];
    private int markCount = 0;
    private final Ends ends = new Ends();
    private final Best best = new Best();
    private final Tally tally = new Tally();
    private final Interleaving interleaving = new Interleaving();

    public TwoWeavers() {
        for (int i = 0; i < ACT_ROOM; i++) {
            acts[i] = new Loom();
        }
        for (int i = 0; i < MARK_ROOM; i++) {
            marks[i] = new Loom();
        }
    }

    // ---- the cloth

    public int feed(int a, int b, int c, int d, int e) {
        if (tapeLength + 20 > TAPE_ROOM) {
            return NONE;
        }
        addBytes(a);
        addBytes(b);
        addBytes(c);
        addBytes(d);
        addBytes(e);
        return tapeLength;
    }

    public int cloth(int n) {
        if (n < 0 || n > tapeLength) {
            return refused(A_NUMBER);
        }
        boolean understood = reader.read(tape, n);
        tapeLength = 0;
        if (!understood) {
            return refused(A_FAULT);
        }
        takeWhatWasRead();
        return answer(plan.kinds);
    }

    public int fault() {
        return reader.faultNumber;
    }

    public int where() {
        return latestTrouble == A_FAULT ? reader.faultPlace : NONE;
    }

    // ---- kinds of rows

    public int row(int r, int what) {
        if (!isKind(r)) {
            return refused(NONE_SUCH);
        }
        switch (what) {
            case 0: return answer(plan.kindColour[r]);
            case 1: return answer(plan.kindTakes[r]);
            case 2: return answer(plan.isSeam(r) ? 1 : 0);
            case 3: return answer(plan.partner[r]);
            default: return refused(NONE_SUCH);
        }
    }

    public int next(int r, int right) {
        if (!isKind(r) || !isKind(right)) {
            return refused(NONE_SUCH);
        }
        return answer(hasBit(plan.rightOf[r], right) ? 1 : 0);
    }

    public int instead(int r, int other) {
        if (!isKind(r) || !isKind(other) || r == other) {
            return refused(NONE_SUCH);
        }
        return answer(plan.standsFor(r, other) ? 1 : 0);
    }

    public int spare(int r) {
        if (!isKind(r)) {
            return refused(NONE_SUCH);
        }
        for (int other = 0; other < plan.kinds; other++) {
            if (plan.kindColour[other] != plan.kindColour[r] && plan.standsFor(other, r)) {
                return answer(other);
            }
        }
        return answer(NOT_FOUND);
    }

    // ---- what is woven

    public int rows(int side) {
        return isSide(side) ? answer(loom.counts[side]) : refused(NONE_SUCH);
    }

    public int at(int side, int place) {
        return isPlace(side, place) ? answer(loom.rowAt(side, place)) : refused(NONE_SUCH);
    }

    public int colour(int side, int colour, int what) {
        if (!isSide(side) || !isColour(colour)) {
            return refused(NONE_SUCH);
        }
        switch (what) {
            case 0: return answer(loom.storeOf(side, colour));
            case 1: return answer(loom.inCloth(plan, side, colour));
            case 2: return answer(loom.wastes[side * COLOUR_ROOM + colour]);
            default: return refused(NONE_SUCH);
        }
    }

    public int units() {
        if (!clothTold) {
            return refused(NONE_SUCH);
        }
        return answer(plan.unitsOf(loom.counts[LEFT], loom.counts[RIGHT]));
    }

    public int may(int side) {
        return isSide(side) ? answer(loom.choices(plan, side)) : refused(NONE_SUCH);
    }

    public boolean weave(int side, int r) {
        if (!isSide(side) || !isKind(r)) {
            return denied(NONE_SUCH);
        }
        int hindrance = loom.hindrance(plan, side, r);
        if (hindrance != NO_TROUBLE) {
            return denied(hindrance);
        }
        keepAct();
        loom.addRow(plan, side, r);
        return granted();
    }

    public boolean rip(int side) {
        if (!isSide(side)) {
            return denied(NONE_SUCH);
        }
        if (loom.counts[side] == 0) {
            return denied(THERE_IS_NONE);
        }
        keepAct();
        loom.dropRow(plan, side);
        return granted();
    }

    public int weeks(int n) {
        if (!clothTold) {
            return refused(NONE_SUCH);
        }
        if (n < 1 || n > MOST_WEEKS) {
            return refused(A_NUMBER);
        }
        best.find(plan, loom, ends);
        keepAct();
        loom.weeksGone += n;
        return answer(weaveTowardBest(n * plan.rate));
    }

    public boolean undo() {
        if (actCount == 0) {
            return denied(THERE_IS_NONE);
        }
        actCount--;
        loom.copyFrom(acts[actCount]);
        best.forget();
        return granted();
    }

    // ---- meeting

    public int meets() {
        if (!clothTold) {
            return refused(NONE_SUCH);
        }
        return answer(loom.sidesMeet(plan) ? 1 : 0);
    }

    public int meeting(int what) {
        if (!clothTold || what < 0 || what > 3) {
            return refused(NONE_SUCH);
        }
        best.find(plan, loom, ends);
        if (!best.found) {
            return answer(NOT_FOUND);
        }
        switch (what) {
            case 0: return answer(best.leftRipped + best.rightRipped);
            case 1: return answer(best.leftWoven + best.rightWoven);
            case 2: return answer(best.leftRipped);
            default: return answer(best.leftWoven);
        }
    }

    public int woven(int i) {
        if (!clothTold || i < 0) {
            return refused(NONE_SUCH);
        }
        best.find(plan, loom, ends);
        if (!best.found) {
            return refused(THERE_IS_NONE);
        }
        if (i >= best.leftWoven + best.rightWoven) {
            return refused(NONE_SUCH);
        }
        return answer(best.sequence[i]);
    }

    public int takes(int side, int colour) {
        if (!isSide(side) || !isColour(colour)) {
            return refused(NONE_SUCH);
        }
        best.find(plan, loom, ends);
        if (!best.found) {
            return refused(THERE_IS_NONE);
        }
        return answer(best.taken[side * COLOUR_ROOM + colour]);
    }

    public int far(int side) {
        if (!isSide(side)) {
            return refused(NONE_SUCH);
        }
        return answer(ends.longestWalk(plan, loom, side));
    }

    public long ways() {
        if (!clothTold) {
            return refused(NONE_SUCH);
        }
        latestTrouble = NO_TROUBLE;
        return tally.countMeetings(plan, loom);
    }

    public int sure(int side, int r) {
        if (!isSide(side) || !isKind(r)) {
            return refused(NONE_SUCH);
        }
        if (!hasBit(loom.choices(plan, side), r)) {
            return refused(NOT_SO);
        }
        return answer(ends.sureAmong(plan, loom, side, 1 << r) != 0 ? 1 : 0);
    }

    public int sureRows(int side) {
        if (!isSide(side)) {
            return refused(NONE_SUCH);
        }
        return answer(ends.sureAmong(plan, loom, side, loom.choices(plan, side)));
    }

    public int third() {
        if (!clothTold) {
            return refused(NONE_SUCH);
        }
        int leftLast = loom.lastRow(LEFT);
        int rightLast = loom.lastRow(RIGHT);
        if (leftLast < 0 || rightLast < 0) {
            return refused(THERE_IS_NONE);
        }
        return answer(plan.rightOf[leftLast] & plan.leftOf[rightLast]);
    }

    // ---- answers, motifs, orders

    public int answered(int place) {
        if (!clothTold || place < 0 || place >= SIDE_ROOM) {
            return refused(NONE_SUCH);
        }
        if (place >= loom.sharedPlaces()) {
            return refused(THERE_IS_NONE);
        }
        return answer(loom.answersAt(plan, place) ? 1 : 0);
    }

    public int wrongs() {
        if (!clothTold) {
            return refused(NONE_SUCH);
        }
        int count = 0;
        for (int place = 0; place < loom.sharedPlaces(); place++) {
            if (!loom.answersAt(plan, place)) {
                count++;
            }
        }
        return answer(count);
    }

    public int mend() {
        if (!clothTold) {
            return refused(NONE_SUCH);
        }
        int wrong = loom.firstWrong(plan);
        return answer(wrong < 0 ? 0 : loom.sharedPlaces() - wrong);
    }

    public int mendBy() {
        if (!clothTold) {
            return refused(NONE_SUCH);
        }
        if (loom.firstWrong(plan) < 0) {
            return answer(NOT_FOUND);
        }
        return answer(loom.counts[LEFT] <= loom.counts[RIGHT] ? LEFT : RIGHT);
    }

    public int seen(int motif, int side) {
        if (!isMotif(motif) || !isSide(side)) {
            return refused(NONE_SUCH);
        }
        int count = 0;
        for (int place = 0; place < loom.counts[side]; place++) {
            if (loom.showsMotif(plan, motif, side, place)) {
                count++;
            }
        }
        return answer(count);
    }

    public int seenAt(int motif, int side) {
        if (!isMotif(motif) || !isSide(side)) {
            return refused(NONE_SUCH);
        }
        for (int place = 0; place < loom.counts[side]; place++) {
            if (loom.showsMotif(plan, motif, side, place)) {
                return answer(place);
            }
        }
        return answer(NOT_FOUND);
    }

    public long orders() {
        if (!clothTold) {
            return refused(NONE_SUCH);
        }
        latestTrouble = NO_TROUBLE;
        interleaving.hearNotes(plan);
        return interleaving.count(loom.counts[LEFT], loom.counts[RIGHT]);
    }

    public long ahead(int left, int right) {
        if (!isPlace(LEFT, left) || !isPlace(RIGHT, right)) {
            return refused(NONE_SUCH);
        }
        latestTrouble = NO_TROUBLE;
        interleaving.hearNotes(plan);
        interleaving.putLeftAhead(left, right);
        return interleaving.count(loom.counts[LEFT], loom.counts[RIGHT]);
    }

    // ---- marks, what is seen

    public int mark() {
        if (!clothTold) {
            return refused(NONE_SUCH);
        }
        if (markCount >= MARK_ROOM) {
            return refused(NO_ROOM);
        }
        marks[markCount].copyFrom(loom);
        markCount++;
        return answer(markCount - 1);
    }

    public boolean back(int mark) {
        if (mark < 0 || mark >= markCount) {
            return denied(NONE_SUCH);
        }
        loom.copyFrom(marks[mark]);
        actCount = 0;
        best.forget();
        return granted();
    }

    public int led(int i) throws NoSuchElementException {
        int stuck = clothTold ? plan.allKinds() & ~loom.choices(plan, LEFT) & ~loom.choices(plan, RIGHT) : 0;
        int before = 0;
        for (int r = 0; r < plan.kinds; r++) {
            if (hasBit(stuck, r)) {
                if (before == i) {
                    return r;
                }
                before++;
            }
        }
        throw new NoSuchElementException("no such row that neither side can weave");
    }

    public int size(int what) {
        switch (what) {
            case 0: return plan.kinds;
            case 1: return plan.colours;
            case 2: return plan.motifs;
            case 3: return plan.notes;
            case 4: return plan.length;
            case 5: return plan.slack;
            case 6: return plan.hands[LEFT];
            case 7: return plan.hands[RIGHT];
            case 8: return plan.rate;
            case 9: return loom.weeksGone;
            case 10: return actCount;
            case 11: return markCount;
            case 12: return tapeLength;
            default: return NONE;
        }
    }

    public int trouble() {
        return latestTrouble;
    }

    // ---- what the calls share

    private int answer(int value) {
        latestTrouble = NO_TROUBLE;
        return value;
    }

    private int refused(int why) {
        latestTrouble = why;
        return NONE;
    }

    private boolean granted() {
        latestTrouble = NO_TROUBLE;
        return true;
    }

    private boolean denied(int why) {
        latestTrouble = why;
        return false;
    }

    private boolean isKind(int r) {
        return clothTold && r >= 0 && r < plan.kinds;
    }

    private boolean isColour(int colour) {
        return clothTold && colour >= 0 && colour < plan.colours;
    }

    private boolean isMotif(int motif) {
        return clothTold && motif >= 0 && motif < plan.motifs;
    }

    private boolean isSide(int side) {
        return clothTold && (side == LEFT || side == RIGHT);
    }

    private boolean isPlace(int side, int place) {
        return isSide(side) && place >= 0 && place < loom.counts[side];
    }

    private static boolean hasBit(int bits, int number) {
        return (bits >> number & 1) != 0;
    }

    private void addBytes(int four) {
        for (int shift = 24; shift >= 0 && tapeLength < TAPE_ROOM; shift -= 8) {
            tape[tapeLength] = (byte) (four >> shift);
            tapeLength++;
        }
    }

    /** What was read becomes the cloth; the reader goes on with the former one's objects, so none is new. */
    private void takeWhatWasRead() {
        Plan formerPlan = plan;
        Loom formerLoom = loom;
        plan = reader.plan;
        loom = reader.loom;
        reader.plan = formerPlan;
        reader.loom = formerLoom;
        clothTold = true;
        actCount = 0;
        markCount = 0;
        best.forget();
    }

    /** Keeps what stands ahead of an act; the oldest one makes room. */
    private void keepAct() {
        if (actCount >= ACT_ROOM) {
            Loom oldest = acts[0];
            for (int i = 1; i < ACT_ROOM; i++) {
                acts[i - 1] = acts[i];
            }
            acts[ACT_ROOM - 1] = oldest;
            actCount = ACT_ROOM - 1;
        }
        acts[actCount].copyFrom(loom);
        actCount++;
        best.forget();
    }

    /**
     * Each side weaves up to so many rows of the best meeting that was found. What is left of a best
     * meeting is the best one of what then stands, so one search serves all rows of all weeks.
     */
    private int weaveTowardBest(int mostOfEach) {
        if (!best.found || best.leftRipped + best.rightRipped > 0) {
            return 0;
        }
        int total = best.leftWoven + best.rightWoven;
        int byLeft = Math.min(mostOfEach, best.leftWoven);
        for (int i = 0; i < byLeft; i++) {
            loom.addRow(plan, LEFT, best.sequence[i]);
        }
        int byRight = Math.min(mostOfEach, best.rightWoven);
        for (int i = 0; i < byRight; i++) {
            loom.addRow(plan, RIGHT, best.sequence[total - 1 - i]);
        }
        return byLeft + byRight;
    }

    /** What the text of a cloth tells for good. */
    private static final class Plan {
        int length = 0;
        int slack = 0;
        int rate = 0;
        final int[] hands = new int[2];
        int colours = 0;
        int kinds = 0;
        final int[] kindColour = new int[KIND_ROOM];
        final int[] kindTakes = new int[KIND_ROOM];
        final int[] partner = new int[KIND_ROOM];
        int seams = 0;
        final int[] rightOf = new int[KIND_ROOM];
        final int[] leftOf = new int[KIND_ROOM];
        int motifs = 0;
        final int[] motifKind = new int[MOTIF_ROOM];
        final int[] motifLength = new int[MOTIF_ROOM];
        final int[] motifRows = new int[MOTIF_ROOM * MOTIF_ROWS];
        int notes = 0;
        final int[] noteSide = new int[NOTE_ROOM];
        final int[] noteFirst = new int[NOTE_ROOM];
        final int[] noteLatter = new int[NOTE_ROOM];

        void clear() {
            length = 0;
            slack = 0;
            rate = 0;
            hands[LEFT] = 0;
            hands[RIGHT] = 0;
            colours = 0;
            kinds = 0;
            seams = 0;
            motifs = 0;
            notes = 0;
        }

        void addKind(int colour, int takes) {
            if (kinds >= KIND_ROOM) {
                return;
            }
            kindColour[kinds] = colour;
            kindTakes[kinds] = takes;
            partner[kinds] = kinds;
            rightOf[kinds] = 0;
            leftOf[kinds] = 0;
            kinds++;
        }

        void allow(int left, int right) {
            rightOf[left] |= 1 << right;
            leftOf[right] |= 1 << left;
        }

        int allKinds() {
            return (1 << kinds) - 1;
        }

        boolean isSeam(int r) {
            return hasBit(seams, r);
        }

        /** Rows that a side may weave behind its last one, as bits, whatever is in store. */
        int behind(int side, int last) {
            if (last < 0) {
                return allKinds();
            }
            if (hasBit(seams, last)) {
                return 0;
            }
            return side == LEFT ? rightOf[last] : leftOf[last];
        }

        boolean standsFor(int r, int other) {
            return r != other && isSeam(r) == isSeam(other)
                && (leftOf[other] & ~leftOf[r]) == 0 && (rightOf[other] & ~rightOf[r]) == 0;
        }

        int takesOf(int r, int colour) {
            return kindColour[r] == colour ? kindTakes[r] : 0;
        }

        int unitsOf(int left, int right) {
            return left * hands[LEFT] + right * hands[RIGHT];
        }

        boolean fits(int units) {
            return units >= length && units <= length + slack;
        }

        /** Whether so many rows of both sides together may come to the length, however they are shared. */
        boolean mayFit(int rows) {
            return rows * Math.max(hands[LEFT], hands[RIGHT]) >= length
                && rows * Math.min(hands[LEFT], hands[RIGHT]) <= length + slack;
        }

        /** Beyond so many rows a side alone is longer than the cloth may become. */
        int mostRows(int side) {
            int most = 0;
            while (most < SIDE_ROOM && (most + 1) * hands[side] <= length + slack) {
                most++;
            }
            return most;
        }

        /** Whether one of these rows may come right of one of those. */
        boolean joins(int lefts, int rights) {
            for (int r = 0; r < kinds; r++) {
                if (hasBit(lefts, r) && (rightOf[r] & rights) != 0) {
                    return true;
                }
            }
            return false;
        }
    }

    /** What both sides have woven, and what is left and lost of their colours. */
    private static final class Loom {
        final int[] laid = new int[2 * SIDE_ROOM];
        final int[] counts = new int[2];
        final int[] stores = new int[2 * COLOUR_ROOM];
        final int[] wastes = new int[2 * COLOUR_ROOM];
        int weeksGone = 0;

        void clear() {
            Arrays.fill(counts, 0);
            Arrays.fill(stores, 0);
            Arrays.fill(wastes, 0);
            weeksGone = 0;
        }

        void copyFrom(Loom other) {
            for (int i = 0; i < 2 * SIDE_ROOM; i++) {
                laid[i] = other.laid[i];
            }
            for (int side = LEFT; side <= RIGHT; side++) {
                counts[side] = other.counts[side];
            }
            for (int i = 0; i < 2 * COLOUR_ROOM; i++) {
                stores[i] = other.stores[i];
                wastes[i] = other.wastes[i];
            }
            weeksGone = other.weeksGone;
        }

        int rowAt(int side, int place) {
            return laid[side * SIDE_ROOM + place];
        }

        int storeOf(int side, int colour) {
            return stores[side * COLOUR_ROOM + colour];
        }

        int lastRow(int side) {
            return lastAfter(side, 0);
        }

        /** The last row of a side of which some are ripped; NONE if none stays. */
        int lastAfter(int side, int ripped) {
            int stays = counts[side] - ripped;
            return stays > 0 && stays <= SIDE_ROOM ? rowAt(side, stays - 1) : NONE;
        }

        /** The trouble that keeps a side from weaving a row now. */
        int hindrance(Plan plan, int side, int r) {
            if (counts[side] >= SIDE_ROOM) {
                return NO_ROOM;
            }
            if (!hasBit(plan.behind(side, lastRow(side)), r)) {
                return NOT_SO;
            }
            return plan.kindTakes[r] > storeOf(side, plan.kindColour[r]) ? THERE_IS_NONE : NO_TROUBLE;
        }

        int choices(Plan plan, int side) {
            int bits = 0;
            for (int r = 0; r < plan.kinds; r++) {
                if (hindrance(plan, side, r) == NO_TROUBLE) {
                    bits |= 1 << r;
                }
            }
            return bits;
        }

        void addRow(Plan plan, int side, int r) {
            if (counts[side] >= SIDE_ROOM) {
                return;
            }
            laid[side * SIDE_ROOM + counts[side]] = r;
            counts[side]++;
            stores[side * COLOUR_ROOM + plan.kindColour[r]] -= plan.kindTakes[r];
        }

        void dropRow(Plan plan, int side) {
            int r = lastRow(side);
            if (r < 0) {
                return;
            }
            counts[side]--;
            wastes[side * COLOUR_ROOM + plan.kindColour[r]] += plan.kindTakes[r];
        }

        int inCloth(Plan plan, int side, int colour) {
            int sum = 0;
            for (int place = 0; place < counts[side]; place++) {
                sum += plan.takesOf(rowAt(side, place), colour);
            }
            return sum;
        }

        boolean sidesMeet(Plan plan) {
            int left = lastRow(LEFT);
            int right = lastRow(RIGHT);
            return left >= 0 && right >= 0 && hasBit(plan.rightOf[left], right)
                && plan.fits(plan.unitsOf(counts[LEFT], counts[RIGHT]));
        }

        int sharedPlaces() {
            return Math.min(counts[LEFT], counts[RIGHT]);
        }

        boolean answersAt(Plan plan, int place) {
            return plan.partner[rowAt(LEFT, place)] == rowAt(RIGHT, place);
        }

        /** The first place whose rows don't answer each other; NONE if all do. */
        int firstWrong(Plan plan) {
            for (int place = 0; place < sharedPlaces(); place++) {
                if (!answersAt(plan, place)) {
                    return place;
                }
            }
            return NONE;
        }

        boolean showsMotif(Plan plan, int motif, int side, int place) {
            switch (plan.motifKind[motif]) {
                case PLAIN: return showsRows(plan, motif, side, place, false);
                case MIRRORED: return showsRows(plan, motif, side, place, true);
                case TURNING: return showsRows(plan, motif, side, place, false)
                    || showsRows(plan, motif, side, place, true);
                default: return showsGrowing(plan, motif, side, place);
            }
        }

        private boolean showsRows(Plan plan, int motif, int side, int place, boolean turned) {
            int length = plan.motifLength[motif];
            if (place + length > counts[side]) {
                return false;
            }
            for (int i = 0; i < length; i++) {
                int wanted = plan.motifRows[motif * MOTIF_ROWS + (turned ? length - 1 - i : i)];
                if (rowAt(side, place + i) != wanted) {
                    return false;
                }
            }
            return true;
        }

        private boolean showsGrowing(Plan plan, int motif, int side, int place) {
            int spot = place;
            for (int i = 0; i < plan.motifLength[motif]; i++) {
                for (int time = 0; time <= i; time++) {
                    if (spot >= counts[side] || rowAt(side, spot) != plan.motifRows[motif * MOTIF_ROWS + i]) {
                        return false;
                    }
                    spot++;
                }
            }
            return true;
        }
    }

    /** Reads the text of a cloth, token by token, up to its end or its first fault. */
    private static final class Reader {
        private static final int END = 0;
        private static final int WORD = 1;
        private static final int WHOLE = 2;
        private static final int SEMICOLON = 3;
        private static final int COMMA = 4;
        private static final int NO_TOKEN = 5;

        private static final int FORM = 1;
        private static final int UNTOLD = 2;
        private static final int AGAIN = 3;
        private static final int BOUNDS = 4;
        private static final int MANY = 5;
        private static final int LACKS = 6;
        private static final int MISPLACED = 7;

        private static final int COLOUR_NAME = 0;
        private static final int ROW_NAME = 1;
        private static final int MOTIF_NAME = 2;

        private static final int NAME_ROOM = COLOUR_ROOM + KIND_ROOM + MOTIF_ROOM;
        private static final int SIDE_TOLD_ROOM = 12;

        private byte[] text = new byte[0];
        private int end = 0;
        private int tokenPlace = 0;
        private int tokenEnd = 0;
        private int token = END;
        private long wordCode = 0;
        private int whole = 0;
        private int found = 0;
        Plan plan = new Plan();
        Loom loom = new Loom();
        private final long[] nameCodes = new long[NAME_ROOM];
        private final int[] nameSorts = new int[NAME_ROOM];
        private final int[] nameNumbers = new int[NAME_ROOM];
        private int nameCount = 0;
        private boolean lengthTold = false;
        private int sidesTold = 0;
        private int nextTold = 0;
        private int answersTold = 0;
        int faultNumber = 0;
        int faultPlace = NONE;

        /** Whether the first bytes tell a cloth; it stands in plan and loom then. */
        boolean read(byte[] bytes, int length) {
            begin(bytes, Math.min(length, bytes.length));
            advance();
            for (int line = 0; line <= TAPE_ROOM; line++) {
                if (!readLine()) {
                    return false;
                }
                if (token == END) {
                    return lengthTold && plan.kinds > 0 || fail(LACKS);
                }
                if (token != SEMICOLON) {
                    return fail(FORM);
                }
                advance();
            }
            return fail(FORM);
        }

        private void begin(byte[] bytes, int length) {
            text = bytes;
            end = length;
            tokenEnd = 0;
            plan.clear();
            loom.clear();
            nameCount = 0;
            lengthTold = false;
            sidesTold = 0;
            nextTold = 0;
            answersTold = 0;
            faultNumber = 0;
            faultPlace = NONE;
        }

        private boolean fail(int number) {
            faultNumber = number;
            faultPlace = tokenPlace;
            return false;
        }

        // ---- tokens

        private void advance() {
            tokenPlace = tokenEnd;
            while (tokenPlace < end && text[tokenPlace] == ' ') {
                tokenPlace++;
            }
            if (tokenPlace >= end) {
                tokenEnd = end;
                token = END;
            } else if (isLetter(text[tokenPlace])) {
                takeWord();
            } else if (isDigit(text[tokenPlace])) {
                takeWhole();
            } else {
                takeSign();
            }
        }

        private void takeWord() {
            tokenEnd = tokenPlace;
            wordCode = 0;
            while (tokenEnd < end && isLetter(text[tokenEnd])) {
                wordCode = wordCode * 27 + (text[tokenEnd] - 'a' + 1);
                tokenEnd++;
            }
            token = tokenEnd - tokenPlace <= 8 ? WORD : NO_TOKEN;
        }

        private void takeWhole() {
            tokenEnd = tokenPlace;
            whole = 0;
            while (tokenEnd < end && isDigit(text[tokenEnd])) {
                whole = whole * 10 + (text[tokenEnd] - '0');
                tokenEnd++;
            }
            token = tokenEnd - tokenPlace <= 3 ? WHOLE : NO_TOKEN;
        }

        private void takeSign() {
            tokenEnd = tokenPlace + 1;
            if (text[tokenPlace] == ';') {
                token = SEMICOLON;
            } else {
                token = text[tokenPlace] == ',' ? COMMA : NO_TOKEN;
            }
        }

        private static boolean isLetter(int sign) {
            return sign >= 'a' && sign <= 'z';
        }

        private static boolean isDigit(int sign) {
            return sign >= '0' && sign <= '9';
        }

        private boolean isWord(String word) {
            if (token != WORD || tokenEnd - tokenPlace != word.length()) {
                return false;
            }
            for (int i = 0; i < word.length(); i++) {
                if (text[tokenPlace + i] != word.charAt(i)) {
                    return false;
                }
            }
            return true;
        }

        private boolean isName() {
            return token == WORD && !isWord("cloth") && !isWord("colour") && !isWord("row")
                && !isWord("next") && !isWord("answers") && !isWord("left") && !isWord("right")
                && !isWord("motif") && !isWord("note") && !isWord("seam") && !isWord("then")
                && !isWord("before");
        }

        // ---- parts of lines: each "pass" goes behind what it found, a "find" stays at it

        private boolean passWord(String word) {
            if (!isWord(word)) {
                return fail(FORM);
            }
            advance();
            return true;
        }

        private boolean passWhole(int least, int most) {
            if (token != WHOLE) {
                return fail(FORM);
            }
            if (whole < least || whole > most) {
                return fail(BOUNDS);
            }
            found = whole;
            advance();
            return true;
        }

        private boolean passNewName(int sort, int number) {
            if (!isName()) {
                return fail(FORM);
            }
            if (nameIndex() >= 0) {
                return fail(AGAIN);
            }
            if (nameCount < NAME_ROOM) {
                nameCodes[nameCount] = wordCode;
                nameSorts[nameCount] = sort;
                nameNumbers[nameCount] = number;
                nameCount++;
            }
            advance();
            return true;
        }

        private int nameIndex() {
            for (int i = 0; i < nameCount; i++) {
                if (nameCodes[i] == wordCode) {
                    return i;
                }
            }
            return NONE;
        }

        /** Stays at the name, as more may be wrong with it where it stands. */
        private boolean findName(int sort) {
            if (!isName()) {
                return fail(FORM);
            }
            int index = nameIndex();
            if (index < 0 || nameSorts[index] != sort) {
                return fail(UNTOLD);
            }
            found = nameNumbers[index];
            return true;
        }

        // ---- lines

        private boolean readLine() {
            if (isWord("cloth")) {
                return readCloth();
            }
            if (isWord("colour")) {
                return readColour();
            }
            if (isWord("row")) {
                return readKind();
            }
            if (isWord("next")) {
                return readNext();
            }
            if (isWord("answers")) {
                return readAnswers();
            }
            if (isWord("left")) {
                return readSide(LEFT);
            }
            if (isWord("right")) {
                return readSide(RIGHT);
            }
            if (isWord("motif")) {
                return readMotif();
            }
            return isWord("note") ? readNote() : fail(FORM);
        }

        private boolean readCloth() {
            if (lengthTold) {
                return fail(AGAIN);
            }
            lengthTold = true;
            advance();
            if (!passWord("length") || !passWhole(4, 60)) {
                return false;
            }
            plan.length = found;
            if (!passWord("slack") || !passWhole(0, 9)) {
                return false;
            }
            plan.slack = found;
            if (!passWord("left") || !passWhole(1, 9)) {
                return false;
            }
            plan.hands[LEFT] = found;
            if (!passWord("right") || !passWhole(1, 9)) {
                return false;
            }
            plan.hands[RIGHT] = found;
            if (!passWord("rate") || !passWhole(1, 5)) {
                return false;
            }
            plan.rate = found;
            return true;
        }

        private boolean readColour() {
            if (plan.colours >= COLOUR_ROOM) {
                return fail(MANY);
            }
            advance();
            if (!passNewName(COLOUR_NAME, plan.colours) || !passWord("left") || !passWhole(0, 9)) {
                return false;
            }
            loom.stores[LEFT * COLOUR_ROOM + plan.colours] = found;
            if (!passWord("right") || !passWhole(0, 9)) {
                return false;
            }
            loom.stores[RIGHT * COLOUR_ROOM + plan.colours] = found;
            plan.colours++;
            return true;
        }

        private boolean readKind() {
            if (plan.kinds >= KIND_ROOM) {
                return fail(MANY);
            }
            advance();
            if (!passNewName(ROW_NAME, plan.kinds) || !passWord("of") || !findName(COLOUR_NAME)) {
                return false;
            }
            int colour = found;
            advance();
            if (!passWhole(0, 3)) {
                return false;
            }
            if (isWord("seam")) {
                plan.seams |= 1 << plan.kinds;
                advance();
            }
            plan.addKind(colour, found);
            return true;
        }

        private boolean readNext() {
            advance();
            if (!findName(ROW_NAME)) {
                return false;
            }
            int left = found;
            if (hasBit(nextTold, left)) {
                return fail(AGAIN);
            }
            nextTold |= 1 << left;
            advance();
            if (!passWord("then")) {
                return false;
            }
            int told = 0;
            for (int i = 0; i <= KIND_ROOM; i++) {
                if (!findName(ROW_NAME)) {
                    return false;
                }
                if (hasBit(told, found)) {
                    return fail(AGAIN);
                }
                told |= 1 << found;
                plan.allow(left, found);
                advance();
                if (token != COMMA) {
                    return true;
                }
                advance();
            }
            return fail(FORM);
        }

        private boolean readAnswers() {
            advance();
            if (!findName(ROW_NAME)) {
                return false;
            }
            if (hasBit(answersTold, found)) {
                return fail(AGAIN);
            }
            int one = found;
            advance();
            if (!findName(ROW_NAME)) {
                return false;
            }
            if (hasBit(answersTold, found)) {
                return fail(AGAIN);
            }
            answersTold |= 1 << one | 1 << found;
            plan.partner[one] = found;
            plan.partner[found] = one;
            advance();
            return true;
        }

        private boolean readSide(int side) {
            if (hasBit(sidesTold, side)) {
                return fail(AGAIN);
            }
            sidesTold |= 1 << side;
            advance();
            for (int i = 0; i <= SIDE_TOLD_ROOM; i++) {
                if (!findName(ROW_NAME)) {
                    return false;
                }
                if (i == SIDE_TOLD_ROOM) {
                    return fail(MANY);
                }
                if (loom.hindrance(plan, side, found) != NO_TROUBLE) {
                    return fail(MISPLACED);
                }
                loom.addRow(plan, side, found);
                advance();
                if (token != COMMA) {
                    return true;
                }
                advance();
            }
            return fail(FORM);
        }

        private boolean readMotif() {
            if (plan.motifs >= MOTIF_ROOM) {
                return fail(MANY);
            }
            int motif = plan.motifs;
            advance();
            if (!passNewName(MOTIF_NAME, motif)) {
                return false;
            }
            int kind = motifKindHere();
            if (kind < 0) {
                return fail(FORM);
            }
            plan.motifKind[motif] = kind;
            plan.motifs++;
            advance();
            for (int i = 0; i <= MOTIF_ROWS; i++) {
                if (!findName(ROW_NAME)) {
                    return false;
                }
                if (i == MOTIF_ROWS) {
                    return fail(MANY);
                }
                plan.motifRows[motif * MOTIF_ROWS + i] = found;
                plan.motifLength[motif] = i + 1;
                advance();
                if (token != COMMA) {
                    return true;
                }
                advance();
            }
            return fail(FORM);
        }

        private int motifKindHere() {
            if (isWord("plain")) {
                return PLAIN;
            }
            if (isWord("mirrored")) {
                return MIRRORED;
            }
            if (isWord("turning")) {
                return TURNING;
            }
            return isWord("growing") ? GROWING : NONE;
        }

        private boolean readNote() {
            if (plan.notes >= NOTE_ROOM) {
                return fail(MANY);
            }
            advance();
            if (!isWord("left") && !isWord("right")) {
                return fail(FORM);
            }
            int side = isWord("left") ? LEFT : RIGHT;
            advance();
            if (!passWhole(0, SIDE_ROOM - 1)) {
                return false;
            }
            int first = found;
            if (!passWord("before") || !passWord(side == LEFT ? "right" : "left")
                || !passWhole(0, SIDE_ROOM - 1)) {
                return false;
            }
            plan.noteSide[plan.notes] = side;
            plan.noteFirst[plan.notes] = first;
            plan.noteLatter[plan.notes] = found;
            plan.notes++;
            return true;
        }
    }

    /** What one weaver may weave, one row behind the other, with what is in store. */
    private static final class Walk {
        private final int[] steps = new int[KIND_ROOM];
        private final int[] stores = new int[COLOUR_ROOM];
        private final int[] chainEnds = new int[(SIDE_ROOM + 1) * USES];
        final int[] lasts = new int[SIDE_ROOM + 1];
        int longest = 0;

        /** Rows will follow each other as a side weaves them. */
        void headInward(Plan plan, int side) {
            for (int r = 0; r < plan.kinds; r++) {
                steps[r] = plan.behind(side, r);
            }
        }

        /** Rows will follow each other as the left wove them, from its latest one back. */
        void headBack(Plan plan) {
            for (int r = 0; r < plan.kinds; r++) {
                steps[r] = plan.leftOf[r] & ~plan.seams;
            }
        }

        /** Finds, for each number of rows up to most and what they use, with which rows such chains end. */
        void spread(Plan plan, int first, int store0, int store1, int most) {
            Arrays.fill(chainEnds, 0);
            Arrays.fill(lasts, 0);
            longest = 0;
            stores[0] = Math.min(store0, STORE_LEVELS - 1);
            stores[1] = Math.min(store1, STORE_LEVELS - 1);
            int bound = Math.min(most, SIDE_ROOM);
            if (bound > 0) {
                lengthen(plan, 1, 0, 0, first);
            }
            for (int rows = 1; rows < bound && lasts[rows] != 0; rows++) {
                for (int used0 = 0; used0 <= stores[0]; used0++) {
                    for (int used1 = 0; used1 <= stores[1]; used1++) {
                        int from = chainEnds[rows * USES + used0 * STORE_LEVELS + used1];
                        if (from != 0) {
                            lengthen(plan, rows + 1, used0, used1, followers(plan, from));
                        }
                    }
                }
            }
        }

        private int followers(Plan plan, int from) {
            int bits = 0;
            for (int r = 0; r < plan.kinds; r++) {
                if (hasBit(from, r)) {
                    bits |= steps[r];
                }
            }
            return bits;
        }

        private void lengthen(Plan plan, int rows, int used0, int used1, int by) {
            for (int r = 0; r < plan.kinds; r++) {
                if (!hasBit(by, r)) {
                    continue;
                }
                int sum0 = used0 + plan.takesOf(r, 0);
                int sum1 = used1 + plan.takesOf(r, 1);
                if (sum0 <= stores[0] && sum1 <= stores[1]) {
                    chainEnds[rows * USES + sum0 * STORE_LEVELS + sum1] |= 1 << r;
                    lasts[rows] |= 1 << r;
                    longest = rows;
                }
            }
        }

        /** The first allowed row that ends a chain of so many rows, if so much is used besides. */
        int firstEnd(int rows, int allowed, int used0, int used1) {
            int bits = 0;
            for (int more0 = 0; more0 <= stores[0] - used0; more0++) {
                for (int more1 = 0; more1 <= stores[1] - used1; more1++) {
                    bits |= chainEnds[rows * USES + more0 * STORE_LEVELS + more1];
                }
            }
            for (int r = 0; r < KIND_ROOM; r++) {
                if (hasBit(bits & allowed, r)) {
                    return r;
                }
            }
            return NONE;
        }
    }

    /** With which rows a side's work may end, by the row that it goes on from and how many follow. */
    private static final class Ends {
        private static final int FROM_NONE = KIND_ROOM;
        private static final int STARTS = KIND_ROOM + 1;

        final Walk walk = new Walk();
        private final int[] lasts = new int[2 * STARTS * (SIDE_ROOM + 1)];
        private final int[] longest = new int[2 * STARTS];
        private final boolean[] known = new boolean[2 * STARTS];

        int longestWalk(Plan plan, Loom loom, int side) {
            walk.headInward(plan, side);
            walk.spread(plan, plan.behind(side, loom.lastRow(side)),
                loom.storeOf(side, 0), loom.storeOf(side, 1), SIDE_ROOM - loom.counts[side]);
            return walk.longest;
        }

        void forget() {
            for (int i = 0; i < 2 * STARTS; i++) {
                known[i] = false;
            }
        }

        int startOf(int last) {
            return last < 0 ? FROM_NONE : last;
        }

        /** Looks up or finds out how a side goes on from a row, or from none, with what is in store. */
        void learnFrom(Plan plan, Loom loom, int side, int last) {
            if (!known[side * STARTS + startOf(last)]) {
                learn(plan, side, last, loom.storeOf(side, 0), loom.storeOf(side, 1));
            }
        }

        private void learn(Plan plan, int side, int last, int store0, int store1) {
            walk.headInward(plan, side);
            walk.spread(plan, plan.behind(side, last), store0, store1, plan.mostRows(side));
            int start = side * STARTS + startOf(last);
            for (int more = 1; more <= SIDE_ROOM; more++) {
                lasts[start * (SIDE_ROOM + 1) + more] = walk.lasts[more];
            }
            lasts[start * (SIDE_ROOM + 1)] = last < 0 ? 0 : 1 << last;
            longest[start] = walk.longest;
            known[start] = true;
        }

        /** How many rows a side may weave at most when some are ripped, so that none is asked for in vain. */
        int mostMore(Loom loom, int side, int ripped) {
            int start = side * STARTS + startOf(loom.lastAfter(side, ripped));
            return Math.min(longest[start], SIDE_ROOM - loom.counts[side] + ripped);
        }

        int lastsOf(int side, int start, int more) {
            return lasts[(side * STARTS + start) * (SIDE_ROOM + 1) + more];
        }

        /** Rows, as bits, each of which a side can weave so that no row of the other's takes a meeting away. */
        int sureAmong(Plan plan, Loom loom, int side, int candidates) {
            int other = side == LEFT ? RIGHT : LEFT;
            int replies = loom.choices(plan, other);
            forget();
            learnBehind(plan, loom, side, candidates);
            learnBehind(plan, loom, other, replies);
            if (replies == 0) {
                learnFrom(plan, loom, other, loom.lastRow(other));
            }
            int bits = 0;
            for (int r = 0; r < plan.kinds; r++) {
                if (hasBit(candidates, r) && outlasts(plan, loom, side, r, replies)) {
                    bits |= 1 << r;
                }
            }
            return bits;
        }

        /** How a side goes on behind each of these rows, when it has woven that one too. */
        private void learnBehind(Plan plan, Loom loom, int side, int candidates) {
            for (int r = 0; r < plan.kinds; r++) {
                if (hasBit(candidates, r)) {
                    learn(plan, side, r, loom.storeOf(side, 0) - plan.takesOf(r, 0),
                        loom.storeOf(side, 1) - plan.takesOf(r, 1));
                }
            }
        }

        private boolean outlasts(Plan plan, Loom loom, int side, int r, int replies) {
            int other = side == LEFT ? RIGHT : LEFT;
            int mine = loom.counts[side] + 1;
            if (replies == 0) {
                int start = startOf(loom.lastRow(other));
                return side == LEFT ? meetsFrom(plan, r, mine, start, loom.counts[other])
                    : meetsFrom(plan, start, loom.counts[other], r, mine);
            }
            int theirs = loom.counts[other] + 1;
            for (int reply = 0; reply < plan.kinds; reply++) {
                if (hasBit(replies, reply) && !(side == LEFT ? meetsFrom(plan, r, mine, reply, theirs)
                    : meetsFrom(plan, reply, theirs, r, mine))) {
                    return false;
                }
            }
            return true;
        }

        private boolean meetsFrom(Plan plan, int leftStart, int leftCount, int rightStart, int rightCount) {
            for (int left = 0; left <= SIDE_ROOM - leftCount; left++) {
                for (int right = 0; right <= SIDE_ROOM - rightCount; right++) {
                    if (plan.fits(plan.unitsOf(leftCount + left, rightCount + right))
                        && plan.joins(lastsOf(LEFT, leftStart, left), lastsOf(RIGHT, rightStart, right))) {
                        return true;
                    }
                }
            }
            return false;
        }
    }

    /** The meeting with fewest rows ripped, then woven, and so on. */
    private static final class Best {
        boolean found = false;
        int leftRipped = 0;
        int rightRipped = 0;
        int leftWoven = 0;
        int rightWoven = 0;
        final int[] sequence = new int[2 * SIDE_ROOM];
        final int[] taken = new int[2 * COLOUR_ROOM];
        private int told = 0;
        private boolean known = false;

        void forget() {
            known = false;
        }

        /** Searches but once for what stands, as several calls ask for the same meeting. */
        void find(Plan plan, Loom loom, Ends ends) {
            if (known) {
                return;
            }
            known = true;
            found = false;
            ends.forget();
            int standing = loom.counts[LEFT] + loom.counts[RIGHT];
            for (int ripped = 0; ripped <= standing && !found; ripped++) {
                int stays = standing - ripped;
                for (int more = 0; more <= 2 * SIDE_ROOM - stays && !found; more++) {
                    found = plan.mayFit(stays + more) && findSplit(plan, loom, ends, ripped, more);
                }
            }
            if (found) {
                tellRows(plan, loom, ends);
            }
        }

        /** Shares so many rows ripped and woven out among the sides, as few of each to the left as can be. */
        private boolean findSplit(Plan plan, Loom loom, Ends ends, int ripped, int more) {
            int most = Math.min(ripped, loom.counts[LEFT]);
            for (int byLeft = Math.max(0, ripped - loom.counts[RIGHT]); byLeft <= most; byLeft++) {
                leftRipped = byLeft;
                rightRipped = ripped - byLeft;
                ends.learnFrom(plan, loom, LEFT, loom.lastAfter(LEFT, leftRipped));
                ends.learnFrom(plan, loom, RIGHT, loom.lastAfter(RIGHT, rightRipped));
                int leftMost = ends.mostMore(loom, LEFT, leftRipped);
                int rightMost = ends.mostMore(loom, RIGHT, rightRipped);
                for (int leftMore = Math.max(0, more - rightMost); leftMore <= Math.min(more, leftMost); leftMore++) {
                    leftWoven = leftMore;
                    rightWoven = more - leftMore;
                    if (meetsSo(plan, loom, ends)) {
                        return true;
                    }
                }
            }
            return false;
        }

        private boolean meetsSo(Plan plan, Loom loom, Ends ends) {
            int left = loom.counts[LEFT] - leftRipped + leftWoven;
            int right = loom.counts[RIGHT] - rightRipped + rightWoven;
            return plan.fits(plan.unitsOf(left, right))
                && plan.joins(leftLasts(loom, ends), rightLasts(loom, ends));
        }

        private int leftLasts(Loom loom, Ends ends) {
            return ends.lastsOf(LEFT, ends.startOf(loom.lastAfter(LEFT, leftRipped)), leftWoven);
        }

        private int rightLasts(Loom loom, Ends ends) {
            return ends.lastsOf(RIGHT, ends.startOf(loom.lastAfter(RIGHT, rightRipped)), rightWoven);
        }

        /** From left to right, each row the least with which a meeting of this shape still comes about. */
        private void tellRows(Plan plan, Loom loom, Ends ends) {
            Arrays.fill(taken, 0);
            told = 0;
            int leftLast = loom.lastAfter(LEFT, leftRipped);
            int rightLast = loom.lastAfter(RIGHT, rightRipped);
            Walk walk = ends.walk;
            if (leftWoven > 0) {
                walk.headBack(plan);
                walk.spread(plan, meetingLefts(plan, loom, ends),
                    loom.storeOf(LEFT, 0), loom.storeOf(LEFT, 1), leftWoven);
                tellSide(plan, walk, LEFT, leftWoven, plan.behind(LEFT, leftLast));
            }
            int inner = leftWoven > 0 && told > 0 ? sequence[told - 1] : leftLast;
            if (rightWoven > 0 && inner >= 0) {
                walk.headInward(plan, RIGHT);
                walk.spread(plan, plan.behind(RIGHT, rightLast),
                    loom.storeOf(RIGHT, 0), loom.storeOf(RIGHT, 1), rightWoven);
                tellSide(plan, walk, RIGHT, rightWoven, plan.rightOf[inner]);
            }
        }

        /** Rows with which the left may end so that the right can come beside it. */
        private int meetingLefts(Plan plan, Loom loom, Ends ends) {
            int lefts = leftLasts(loom, ends);
            int rights = rightLasts(loom, ends);
            int bits = 0;
            for (int r = 0; r < plan.kinds; r++) {
                if (plan.joins(lefts & 1 << r, rights)) {
                    bits |= 1 << r;
                }
            }
            return bits;
        }

        private void tellSide(Plan plan, Walk walk, int side, int rows, int firstAllowed) {
            int allowed = firstAllowed;
            for (int left = rows; left > 0; left--) {
                int r = walk.firstEnd(left, allowed, taken[side * COLOUR_ROOM], taken[side * COLOUR_ROOM + 1]);
                if (r < 0 || told >= 2 * SIDE_ROOM) {
                    return;
                }
                sequence[told] = r;
                told++;
                taken[side * COLOUR_ROOM + plan.kindColour[r]] += plan.kindTakes[r];
                // The right wove what stands further right earlier, so none of that is a seam row.
                allowed = side == LEFT ? plan.rightOf[r] : plan.rightOf[r] & ~plan.seams;
            }
        }
    }

    /** Counts meetings without ripping. */
    private static final class Tally {
        private static final long MOST_TOLD = 1000000000000000000L;

        private long[] current = new long[USES * KIND_ROOM];
        private long[] longer = new long[USES * KIND_ROOM];
        private final long[] byLast = new long[2 * (SIDE_ROOM + 1) * KIND_ROOM];

        long countMeetings(Plan plan, Loom loom) {
            Arrays.fill(byLast, 0L);
            countSide(plan, loom, LEFT);
            countSide(plan, loom, RIGHT);
            long sum = 0;
            for (int left = 0; left <= SIDE_ROOM - loom.counts[LEFT]; left++) {
                for (int right = 0; right <= SIDE_ROOM - loom.counts[RIGHT]; right++) {
                    if (plan.fits(plan.unitsOf(loom.counts[LEFT] + left, loom.counts[RIGHT] + right))) {
                        sum = plus(sum, countJoined(plan, left, right));
                    }
                }
            }
            return sum;
        }

        private long countJoined(Plan plan, int left, int right) {
            long sum = 0;
            for (int l = 0; l < plan.kinds; l++) {
                long lefts = byLast[slot(LEFT, left, l)];
                for (int r = 0; r < plan.kinds && lefts > 0; r++) {
                    if (hasBit(plan.rightOf[l], r)) {
                        sum = plus(sum, times(lefts, byLast[slot(RIGHT, right, r)]));
                    }
                }
            }
            return sum;
        }

        private static int slot(int side, int more, int last) {
            return (side * (SIDE_ROOM + 1) + more) * KIND_ROOM + last;
        }

        private static long plus(long a, long b) {
            return Math.min(MOST_TOLD, a + b);
        }

        private static long times(long a, long b) {
            if (a <= 0 || b <= 0) {
                return 0;
            }
            return b > MOST_TOLD / a ? MOST_TOLD : a * b;
        }

        private void countSide(Plan plan, Loom loom, int side) {
            int last = loom.lastRow(side);
            if (last >= 0) {
                byLast[slot(side, 0, last)] = 1;
            }
            int most = Math.min(SIDE_ROOM, plan.mostRows(side)) - loom.counts[side];
            Arrays.fill(longer, 0L);
            lengthen(plan, loom, side, 0, plan.behind(side, last), 1);
            for (int more = 1; more <= most; more++) {
                long[] former = current;
                current = longer;
                longer = former;
                Arrays.fill(longer, 0L);
                if (!countChains(plan, loom, side, more)) {
                    return;
                }
            }
        }

        /** Adds up chains of so many rows by their last ones, lengthens each; whether there was one. */
        private boolean countChains(Plan plan, Loom loom, int side, int more) {
            boolean some = false;
            for (int used = 0; used < USES; used++) {
                for (int r = 0; r < plan.kinds; r++) {
                    long chains = current[used * KIND_ROOM + r];
                    if (chains > 0) {
                        some = true;
                        int slot = slot(side, more, r);
                        byLast[slot] = plus(byLast[slot], chains);
                        lengthen(plan, loom, side, used, plan.behind(side, r), chains);
                    }
                }
            }
            return some;
        }

        private void lengthen(Plan plan, Loom loom, int side, int used, int by, long chains) {
            for (int r = 0; r < plan.kinds; r++) {
                if (!hasBit(by, r)) {
                    continue;
                }
                int sum0 = used / STORE_LEVELS + plan.takesOf(r, 0);
                int sum1 = used % STORE_LEVELS + plan.takesOf(r, 1);
                if (sum0 <= loom.storeOf(side, 0) && sum1 <= loom.storeOf(side, 1)) {
                    int slot = (sum0 * STORE_LEVELS + sum1) * KIND_ROOM + r;
                    longer[slot] = plus(longer[slot], chains);
                }
            }
        }
    }

    /** Counts orders in which rows of both sides may have come. */
    private static final class Interleaving {
        private final int[] leftsAhead = new int[SIDE_ROOM];
        private final int[] rightsAhead = new int[SIDE_ROOM];
        private final long[] byRights = new long[SIDE_ROOM + 1];

        void hearNotes(Plan plan) {
            Arrays.fill(leftsAhead, 0);
            Arrays.fill(rightsAhead, 0);
            for (int i = 0; i < plan.notes; i++) {
                if (plan.noteSide[i] == LEFT) {
                    putLeftAhead(plan.noteFirst[i], plan.noteLatter[i]);
                } else {
                    int left = plan.noteLatter[i];
                    rightsAhead[left] = Math.max(rightsAhead[left], plan.noteFirst[i] + 1);
                }
            }
        }

        void putLeftAhead(int left, int right) {
            leftsAhead[right] = Math.max(leftsAhead[right], left + 1);
        }

        /** A row that waits for one that isn't there never comes: then the count is none by itself. */
        long count(int lefts, int rights) {
            byRights[0] = 1;
            for (int right = 1; right <= rights; right++) {
                byRights[right] = leftsAhead[right - 1] == 0 ? byRights[right - 1] : 0;
            }
            for (int left = 1; left <= lefts; left++) {
                int waits = rightsAhead[left - 1];
                byRights[0] = waits == 0 ? byRights[0] : 0;
                for (int right = 1; right <= rights; right++) {
                    long byLeft = waits <= right ? byRights[right] : 0;
                    long byRight = leftsAhead[right - 1] <= left ? byRights[right - 1] : 0;
                    byRights[right] = byLeft + byRight;
                }
            }
            return byRights[rights];
        }
    }
}
