/** Who leads among movers with a value and a speed; DOC.md says what each call must do. */
public final class LeadTimes {
    public static final int NONE = -1;

    private static final int SLOTS = 16;
    private static final int CONTESTS = 15;
    private static final int FIRST_PAIR = 8;
    private static final int VALUE_LIMIT = 9999;
    private static final int JUMP_LIMIT = 1000000;
    private static final int SPEED_LIMIT = 99;
    private static final int PASS_LIMIT = 99;
    private static final int TIME_LIMIT = 9999;
    private static final int AHEAD_LIMIT = 999;
    private static final int HORIZON_LIMIT = 999;
    private static final int FIRST_HORIZON = 50;
    private static final int SAVED_LIMIT = 6;
    private static final int TEXT_LIMIT = 60;
    private static final int FIRST_CODE = 33;
    private static final int LAST_CODE = 126;
    private static final int NO_SPEED = -SPEED_LIMIT - 1;

    private final State now;
    private final State[] saved;
    private int oldest;
    private int savedCount;
    private final Course leading;
    private final Course[] courses;
    private final int[] wonBefore;
    private final Text text;

    public LeadTimes() {
        now = new State();
        saved = new State[SAVED_LIMIT];
        for (int i = 0; i < SAVED_LIMIT; i++) {
            saved[i] = new State();
        }
        oldest = 0;
        savedCount = 0;
        leading = new Course(0, SLOTS);
        courses = new Course[CONTESTS + 1];
        courses[1] = leading;
        int first = 0;
        int width = SLOTS / 2;
        for (int contest = 2; contest <= CONTESTS; contest++) {
            courses[contest] = new Course(first, width);
            first += width;
            if (first >= SLOTS) {
                first = 0;
                width = width / 2;
            }
        }
        wonBefore = new int[CONTESTS + 1];
        text = new Text();
    }

    // ---- movers

    public int add(int value, int speed) throws IllegalArgumentException, IllegalStateException {
        if (!isWithin(value, -VALUE_LIMIT, VALUE_LIMIT) || !isSpeed(speed)) {
            throw new IllegalArgumentException("value or speed is out of range");
        }
        int slot = now.freeSlot();
        if (slot == NONE) {
            throw new IllegalStateException("no slot is free");
        }
        save();
        now.put(slot, value, speed);
        foresee();
        return slot;
    }

    public int remove(int slot) throws IndexOutOfBoundsException {
        if (!now.has(slot)) {
            throw new IndexOutOfBoundsException("no mover on this slot");
        }
        save();
        int value = now.valueOf(slot);
        now.free(slot);
        foresee();
        return value;
    }

    public int speed(int slot, int speed) throws IndexOutOfBoundsException, IllegalArgumentException {
        if (!now.has(slot)) {
            throw new IndexOutOfBoundsException("no mover on this slot");
        }
        if (!isSpeed(speed)) {
            throw new IllegalArgumentException("speed is out of range");
        }
        save();
        int previous = now.speedOf(slot);
        now.changeSpeed(slot, speed);
        foresee();
        return previous;
    }

    public int jump(int slot, int by)
            throws IndexOutOfBoundsException, IllegalArgumentException, IllegalStateException {
        if (!now.has(slot)) {
            throw new IndexOutOfBoundsException("no mover on this slot");
        }
        if (!isWithin(by, -VALUE_LIMIT, VALUE_LIMIT)) {
            throw new IllegalArgumentException("by is out of range");
        }
        int value = now.valueOf(slot) + by;
        if (!isWithin(value, -JUMP_LIMIT, JUMP_LIMIT)) {
            throw new IllegalStateException("the value would be out of range");
        }
        save();
        now.changeValue(slot, value);
        foresee();
        return value;
    }

    public int swap(int slot, int other) throws IndexOutOfBoundsException {
        if (!isSlot(slot) || !isSlot(other)) {
            throw new IndexOutOfBoundsException("no such slot");
        }
        save();
        for (int contest = 1; contest <= CONTESTS; contest++) {
            wonBefore[contest] = winnerOf(contest);
        }
        now.exchange(slot, other);
        foresee();
        int changed = 0;
        for (int contest = 1; contest <= CONTESTS; contest++) {
            int before = wonBefore[contest];
            int sameMover = before == slot ? other : before == other ? slot : before;
            if (winnerOf(contest) != sameMover) {
                changed++;
            }
        }
        return changed;
    }

    public int pass(int by) throws IllegalArgumentException, IllegalStateException {
        if (!isWithin(by, 1, PASS_LIMIT)) {
            throw new IllegalArgumentException("by is out of range");
        }
        if (now.time + by > TIME_LIMIT) {
            throw new IllegalStateException("the time would be out of range");
        }
        return letPass(by);
    }

    public int passToTurn() throws IllegalStateException {
        int contest = firstToTurn();
        if (contest == NONE) {
            throw new IllegalStateException("no contest turns any more");
        }
        int by = courseOf(contest).wholeUnitsTo(1);
        if (by > TIME_LIMIT - now.time) {
            throw new IllegalStateException("the time would be out of range");
        }
        return letPass(by);
    }

    public int set(int setting, int value) throws IndexOutOfBoundsException, IllegalArgumentException {
        if (setting != 0 && setting != 1) {
            throw new IndexOutOfBoundsException("no such setting");
        }
        boolean fits = setting == 0 ? isWithin(value, 0, 1) : isWithin(value, 1, HORIZON_LIMIT);
        if (!fits) {
            throw new IllegalArgumentException("value is out of range");
        }
        save();
        int previous = setting(setting);
        if (setting == 0) {
            now.higherFirst = value;
        } else {
            now.horizon = value;
        }
        foresee();
        return previous;
    }

    // ---- texts

    public int append(int code) throws IllegalArgumentException, IllegalStateException {
        if (!isWithin(code, FIRST_CODE, LAST_CODE)) {
            throw new IllegalArgumentException("code is out of range");
        }
        if (text.length >= TEXT_LIMIT) {
            throw new IllegalStateException("the buffer is full");
        }
        text.put(code);
        return text.length;
    }

    public int clearBuffer() {
        int length = text.length;
        text.length = 0;
        return length;
    }

    public int firstError() {
        return text.soundLength();
    }

    public int addAll() throws IllegalArgumentException, IllegalStateException {
        if (!text.isComplete()) {
            throw new IllegalArgumentException("the buffer is not complete movers");
        }
        int movers = text.moversInside();
        if (movers > SLOTS - now.moverCount()) {
            throw new IllegalStateException("too few slots are free");
        }
        save();
        text.startReading();
        for (int read = 0; read < movers; read++) {
            int value = text.readNumber();
            int speed = text.readNumber();
            text.skipCode();
            now.put(now.freeSlot(), value, speed);
        }
        text.length = 0;
        foresee();
        return now.moverCount();
    }

    public int undo() throws IllegalStateException {
        if (savedCount < 1) {
            throw new IllegalStateException("no state is saved");
        }
        State latest = latestSaved();
        if (latest != null) {
            now.copyFrom(latest);
        }
        savedCount--;
        foresee();
        return savedCount;
    }

    // ---- looks; nothing is changed

    public int mover(int slot, int what) throws IndexOutOfBoundsException, IllegalArgumentException {
        if (!now.has(slot)) {
            throw new IndexOutOfBoundsException("no mover on this slot");
        }
        switch (what) {
            case 0:
                return now.valueOf(slot);
            case 1:
                return now.speedOf(slot);
            case 2:
                return now.rankOf(slot);
            case 3:
                return winsOf(slot);
            case 4:
                return leading.numerator(leading.rowOf(slot), now.time);
            case 5:
                return leading.denominator(leading.rowOf(slot));
            case 6:
                return now.addedAtOf(slot);
            default:
                throw new IllegalArgumentException("no such property");
        }
    }

    public int contest(int contest, int what) throws IndexOutOfBoundsException, IllegalArgumentException {
        if (!isWithin(contest, 1, CONTESTS)) {
            throw new IndexOutOfBoundsException("no such contest");
        }
        Course course = courseOf(contest);
        switch (what) {
            case 0:
                return course.winnerIn(0);
            case 1:
                return loserOf(contest);
            case 2:
                return course.numerator(1, now.time);
            case 3:
                return course.denominator(1);
            case 4:
                return course.winnerIn(1);
            case 5:
                return now.turnedOf(contest);
            default:
                throw new IllegalArgumentException("no such property");
        }
    }

    public int nextTurn(int what) throws IllegalArgumentException {
        int contest = firstToTurn();
        switch (what) {
            case 0:
                return contest == NONE ? 0 : courseOf(contest).numerator(1, now.time);
            case 1:
                return contest == NONE ? 0 : courseOf(contest).denominator(1);
            case 2:
                return contest == NONE ? 0 : turningWith(contest);
            case 3:
                return contest;
            default:
                throw new IllegalArgumentException("no such property");
        }
    }

    public int span(int span, int what) throws IllegalArgumentException {
        if (span < 0 || !isWithin(what, 0, 2)) {
            throw new IllegalArgumentException("no such span or property");
        }
        if (span >= leading.size) {
            return NONE;
        }
        if (what == 0) {
            return leading.winnerIn(span);
        }
        return what == 1 ? leading.numerator(span, now.time) : leading.denominator(span);
    }

    public int count(int what) throws IllegalArgumentException {
        switch (what) {
            case 0:
                return now.time;
            case 1:
                return now.moverCount();
            case 2:
                return leading.size;
            case 3:
                return now.allTurned();
            case 4:
                return now.turnedOf(1);
            case 5:
                // no mover leads in two spans, so each span stands for one mover
                return now.moverCount() - leading.size;
            case 6:
                return savedCount;
            default:
                throw new IllegalArgumentException("no such number");
        }
    }

    public int setting(int setting) throws IndexOutOfBoundsException {
        if (setting != 0 && setting != 1) {
            throw new IndexOutOfBoundsException("no such setting");
        }
        return setting == 0 ? now.higherFirst : now.horizon;
    }

    // ---- what would be; nothing is changed, and the limit of time does not matter

    public int leaderAfter(int after) throws IllegalArgumentException {
        if (!isWithin(after, 0, TIME_LIMIT)) {
            throw new IllegalArgumentException("after is out of range");
        }
        return leading.winnerIn(leading.turnsWithin(after));
    }

    public int overtakes(int slot, int other, int what)
            throws IndexOutOfBoundsException, IllegalArgumentException {
        if (!now.has(slot) || !now.has(other)) {
            throw new IndexOutOfBoundsException("no mover on this slot");
        }
        if (what != 0 && what != 1) {
            throw new IllegalArgumentException("no such property");
        }
        if (now.isAhead(slot, other, 0)) {
            return what == 0 ? now.time : 1;
        }
        int closing = now.speedOf(slot) - now.speedOf(other);
        if (closing <= 0) {
            return 0;
        }
        int gap = now.valueOf(other) - now.valueOf(slot);
        int denominator = reduced(closing, gap);
        return what == 0 ? now.time * denominator + reduced(gap, closing) : denominator;
    }

    public int turnsIn(int by) throws IllegalArgumentException {
        if (!isWithin(by, 0, AHEAD_LIMIT)) {
            throw new IllegalArgumentException("by is out of range");
        }
        int turns = 0;
        for (int contest = 1; contest <= CONTESTS; contest++) {
            turns += courseOf(contest).turnsWithin(by);
        }
        return turns;
    }

    public int leastSpeed(int slot, int by) throws IndexOutOfBoundsException, IllegalArgumentException {
        if (!now.has(slot)) {
            throw new IndexOutOfBoundsException("no mover on this slot");
        }
        if (!isWithin(by, 0, AHEAD_LIMIT)) {
            throw new IllegalArgumentException("by is out of range");
        }
        int rival = now.foremost(0, SLOTS, slot, by);
        if (rival == NONE) {
            return -SPEED_LIMIT;
        }
        return leastSpeedAgainst(rival, slot, by);
    }

    public double leadShare(int slot) throws IndexOutOfBoundsException {
        if (!now.has(slot)) {
            throw new IndexOutOfBoundsException("no mover on this slot");
        }
        int row = leading.rowOf(slot);
        if (row == NONE || now.horizon < 1) {
            return 0.0;
        }
        double end = (double) (now.time + now.horizon);
        if (row + 1 < leading.size) {
            double next = leading.moment(row + 1, now.time);
            end = next < end ? next : end;
        }
        double lead = end - leading.moment(row, now.time);
        return lead > 0.0 ? lead / (double) now.horizon : 0.0;
    }

    public long digest() {
        long hash = 2557;
        for (int what = 0; what <= 6; what++) {
            hash = 31 * hash + count(what);
        }
        hash = 31 * hash + setting(0);
        hash = 31 * hash + setting(1);
        for (int slot = 0; slot < SLOTS; slot++) {
            if (now.has(slot)) {
                hash = withMover(hash, slot);
            }
        }
        for (int contest = 1; contest <= CONTESTS; contest++) {
            for (int what = 0; what <= 5; what++) {
                hash = 31 * hash + contest(contest, what);
            }
        }
        for (int what = 0; what <= 3; what++) {
            hash = 31 * hash + nextTurn(what);
        }
        hash = withSpans(hash);
        hash = 31 * hash + leaderAfter(now.horizon);
        hash = 31 * hash + turnsIn(now.horizon);
        return text.hashedInto(hash);
    }

    // ---- parts of the digest

    private long withMover(long before, int slot) {
        long hash = 31 * before + slot;
        for (int what = 0; what <= 6; what++) {
            hash = 31 * hash + mover(slot, what);
        }
        hash = 31 * hash + leastSpeed(slot, 10);
        return 31 * hash + bitsOfShare(leadShare(slot));
    }

    private long withSpans(long before) {
        long hash = before;
        for (int span = 0; span < leading.size; span++) {
            for (int what = 0; what <= 2; what++) {
                hash = 31 * hash + span(span, what);
            }
        }
        return hash;
    }

    /** The bits of a share as a double; LANGUAGE.md has no call for them, so they are put together. */
    private static long bitsOfShare(double share) {
        if (share <= 0.0) {
            return 0L;
        }
        double mantissa = share;
        long exponent = 1023;
        // no share is above 1, so that doubling alone leads to 1 <= mantissa < 2
        for (int step = 0; step < 1023 && mantissa < 1.0; step++) {
            mantissa = mantissa * 2.0;
            exponent--;
        }
        return (exponent << 52) + (long) ((mantissa - 1.0) * 4503599627370496.0);
    }

    // ---- saved states

    private void save() {
        if (savedCount < SAVED_LIMIT) {
            savedCount++;
        } else {
            oldest = (oldest + 1) % SAVED_LIMIT;
        }
        State latest = latestSaved();
        if (latest != null) {
            latest.copyFrom(now);
        }
    }

    /** The latest saved state; null without one. */
    private State latestSaved() {
        int at = (oldest + savedCount - 1) % SAVED_LIMIT;
        return at >= 0 && at < SAVED_LIMIT ? saved[at] : null;
    }

    // ---- contests

    /** Brings the courses up to date; each change of movers, time or settings ends with it. */
    private void foresee() {
        for (int contest = 1; contest <= CONTESTS; contest++) {
            courseOf(contest).follow(now);
        }
    }

    private Course courseOf(int contest) {
        if (contest < 1 || contest > CONTESTS) {
            return leading;
        }
        Course course = courses[contest];
        return course == null ? leading : course;
    }

    private int winnerOf(int contest) {
        return courseOf(contest).winnerIn(0);
    }

    private int loserOf(int contest) {
        int one = comingFrom(contest, 0);
        int other = comingFrom(contest, 1);
        if (one == NONE || other == NONE) {
            return NONE;
        }
        return winnerOf(contest) == one ? other : one;
    }

    /** The slot of the one (side 0) or the other (side 1) of a contest's two; NONE without it. */
    private int comingFrom(int contest, int side) {
        if (contest < FIRST_PAIR) {
            return winnerOf(2 * contest + side);
        }
        int slot = 2 * (contest - FIRST_PAIR) + side;
        return now.has(slot) ? slot : NONE;
    }

    private int winsOf(int slot) {
        int wins = 0;
        for (int contest = 1; contest <= CONTESTS; contest++) {
            if (winnerOf(contest) == slot) {
                wins++;
            }
        }
        return wins;
    }

    /** The lowest contest of those with the earliest next turn; NONE if no contest turns any more. */
    private int firstToTurn() {
        int earliest = NONE;
        for (int contest = 1; contest <= CONTESTS; contest++) {
            Course course = courseOf(contest);
            if (course.size > 1 && (earliest == NONE || course.turnsBefore(courseOf(earliest)))) {
                earliest = contest;
            }
        }
        return earliest;
    }

    /** How many contests have their next turn when this one, the first to turn, has it. */
    private int turningWith(int earliest) {
        Course first = courseOf(earliest);
        int turning = 0;
        for (int contest = 1; contest <= CONTESTS; contest++) {
            Course course = courseOf(contest);
            if (course.size > 1 && !first.turnsBefore(course)) {
                turning++;
            }
        }
        return turning;
    }

    private int letPass(int by) {
        save();
        int turns = 0;
        for (int contest = 1; contest <= CONTESTS; contest++) {
            int turned = courseOf(contest).turnsWithin(by);
            now.countTurns(contest, turned);
            turns += turned;
        }
        now.moveOn(by);
        foresee();
        return turns;
    }

    /** Halves the speeds in question: if one is enough against the rival, each greater one is, too. */
    private int leastSpeedAgainst(int rival, int slot, int by) {
        int low = -SPEED_LIMIT;
        int high = SPEED_LIMIT + 1;
        for (int step = 0; step < 2 * SPEED_LIMIT && low < high; step++) {
            int middle = Math.floorDiv(low + high, 2);
            if (now.wouldBeAhead(slot, middle, rival, by)) {
                high = middle;
            } else {
                low = middle + 1;
            }
        }
        return low > SPEED_LIMIT ? NO_SPEED : low;
    }

    // ---- numbers

    private static boolean isWithin(int number, int low, int high) {
        return number >= low && number <= high;
    }

    private static boolean isSlot(int slot) {
        return isWithin(slot, 0, SLOTS - 1);
    }

    private static boolean isSpeed(int speed) {
        return isWithin(speed, -SPEED_LIMIT, SPEED_LIMIT);
    }

    /** One part of a fraction with both parts above 0, less what the parts have in common. */
    private static int reduced(int part, int otherPart) {
        int divisor = part;
        int rest = otherPart;
        for (int step = 0; step < 64 && rest > 0; step++) {
            int next = divisor % rest;
            divisor = rest;
            rest = next;
        }
        return divisor > 1 ? part / divisor : part;
    }

    /** All that undo() restores: the movers, the time, the settings, and what is counted. */
    private static final class State {
        final boolean[] taken = new boolean[SLOTS];
        final int[] value = new int[SLOTS];
        final int[] speed = new int[SLOTS];
        final int[] addedAt = new int[SLOTS];
        final int[] turned = new int[CONTESTS + 1];
        int time = 0;
        int higherFirst = 0;
        int horizon = FIRST_HORIZON;

        void copyFrom(State other) {
            for (int slot = 0; slot < SLOTS; slot++) {
                taken[slot] = other.taken[slot];
                value[slot] = other.value[slot];
                speed[slot] = other.speed[slot];
                addedAt[slot] = other.addedAt[slot];
            }
            for (int contest = 1; contest <= CONTESTS; contest++) {
                turned[contest] = other.turned[contest];
            }
            time = other.time;
            higherFirst = other.higherFirst;
            horizon = other.horizon;
        }

        boolean has(int slot) {
            return slot >= 0 && slot < SLOTS && taken[slot];
        }

        int valueOf(int slot) {
            return slot >= 0 && slot < SLOTS ? value[slot] : 0;
        }

        int speedOf(int slot) {
            return slot >= 0 && slot < SLOTS ? speed[slot] : 0;
        }

        int addedAtOf(int slot) {
            return slot >= 0 && slot < SLOTS ? addedAt[slot] : 0;
        }

        int turnedOf(int contest) {
            return isWithin(contest, 1, CONTESTS) ? turned[contest] : 0;
        }

        int allTurned() {
            int all = 0;
            for (int contest = 1; contest <= CONTESTS; contest++) {
                all += turned[contest];
            }
            return all;
        }

        int moverCount() {
            int movers = 0;
            for (int slot = 0; slot < SLOTS; slot++) {
                if (taken[slot]) {
                    movers++;
                }
            }
            return movers;
        }

        /** The free slot with the lowest number; NONE without one. */
        int freeSlot() {
            for (int slot = 0; slot < SLOTS; slot++) {
                if (!taken[slot]) {
                    return slot;
                }
            }
            return NONE;
        }

        void put(int slot, int newValue, int newSpeed) {
            if (isSlot(slot)) {
                taken[slot] = true;
                value[slot] = newValue;
                speed[slot] = newSpeed;
                addedAt[slot] = time;
            }
        }

        void free(int slot) {
            if (isSlot(slot)) {
                taken[slot] = false;
                value[slot] = 0;
                speed[slot] = 0;
                addedAt[slot] = 0;
            }
        }

        void changeSpeed(int slot, int newSpeed) {
            if (isSlot(slot)) {
                speed[slot] = newSpeed;
            }
        }

        void changeValue(int slot, int newValue) {
            if (isSlot(slot)) {
                value[slot] = newValue;
            }
        }

        void exchange(int slot, int other) {
            if (!isSlot(slot) || !isSlot(other)) {
                return;
            }
            boolean otherTaken = taken[other];
            taken[other] = taken[slot];
            taken[slot] = otherTaken;
            exchangeIn(value, slot, other);
            exchangeIn(speed, slot, other);
            exchangeIn(addedAt, slot, other);
        }

        static void exchangeIn(int[] row, int slot, int other) {
            if (isWithin(slot, 0, row.length - 1) && isWithin(other, 0, row.length - 1)) {
                int kept = row[other];
                row[other] = row[slot];
                row[slot] = kept;
            }
        }

        void moveOn(int by) {
            for (int slot = 0; slot < SLOTS; slot++) {
                value[slot] += speed[slot] * by;
            }
            time += by;
        }

        void countTurns(int contest, int turns) {
            if (isWithin(contest, 1, CONTESTS)) {
                turned[contest] += turns;
            }
        }

        /** How many movers are ahead of this one at present. */
        int rankOf(int slot) {
            int rank = 0;
            for (int other = 0; other < SLOTS; other++) {
                if (taken[other] && isAhead(other, slot, 0)) {
                    rank++;
                }
            }
            return rank;
        }

        /** Who of the slots from first to below end, but for one, is ahead of them so much later. */
        int foremost(int first, int end, int except, int after) {
            int best = NONE;
            for (int slot = first; slot < end; slot++) {
                if (slot != except && has(slot)
                        && (best == NONE || wouldBeAhead(slot, speedOf(slot), best, after))) {
                    best = slot;
                }
            }
            return best;
        }

        boolean isAhead(int slot, int other, int after) {
            return wouldBeAhead(slot, speedOf(slot), other, after);
        }

        /** Whether a mover, if it had this speed, would be ahead of another one so much later. */
        boolean wouldBeAhead(int slot, int itsSpeed, int other, int after) {
            long faster = (long) itsSpeed - speedOf(other);
            long more = (long) valueOf(slot) - valueOf(other) + faster * after;
            if (more != 0) {
                return more > 0;
            }
            return faster != 0 ? faster > 0 : isBeforeAsEqual(slot, other);
        }

        boolean isBeforeAsEqual(int slot, int other) {
            return higherFirst == 1 ? slot > other : slot < other;
        }

        /**
         * Whether one of two movers that are faster than a third one is the sooner to get ahead of
         * it, or gets ahead of it with the other one and is ahead of that one then.
         */
        boolean isSoonerAhead(int slot, int other, int ofThird) {
            long faster = (long) speedOf(slot) - speedOf(ofThird);
            long otherFaster = (long) speedOf(other) - speedOf(ofThird);
            long gap = (long) valueOf(ofThird) - valueOf(slot);
            long otherGap = (long) valueOf(ofThird) - valueOf(other);
            long later = gap * otherFaster - otherGap * faster;
            if (later != 0) {
                return later < 0;
            }
            return faster != otherFaster ? faster > otherFaster : isBeforeAsEqual(slot, other);
        }
    }

    /**
     * The winners of one contest from now on, a row for each: who, and how much later than now it
     * begins to win, "over" by "under", reduced. The row 0 is the present; each other one is a turn.
     * Nobody wins again after a turn, as each next winner is faster: so there is a row for each slot.
     */
    private static final class Course {
        final int firstSlot;
        final int endSlot;
        final int[] winner = new int[SLOTS];
        final int[] over = new int[SLOTS];
        final int[] under = new int[SLOTS];
        int size = 0;

        Course(int firstSlot, int width) {
            this.firstSlot = firstSlot;
            this.endSlot = firstSlot + width;
        }

        void follow(State now) {
            size = 0;
            int first = now.foremost(firstSlot, endSlot, NONE, 0);
            if (first == NONE) {
                return;
            }
            addRow(first, 0, 1);
            int last = first;
            for (int row = 1; row < SLOTS && last != NONE; row++) {
                last = followTurn(now, last);
            }
        }

        /** Adds the row of the turn that ends the last winner's time; NONE if there is none. */
        int followTurn(State now, int last) {
            int next = NONE;
            for (int slot = firstSlot; slot < endSlot; slot++) {
                if (now.has(slot) && now.speedOf(slot) > now.speedOf(last)
                        && (next == NONE || now.isSoonerAhead(slot, next, last))) {
                    next = slot;
                }
            }
            if (next != NONE) {
                int gap = now.valueOf(last) - now.valueOf(next);
                int faster = now.speedOf(next) - now.speedOf(last);
                addRow(next, reduced(gap, faster), reduced(faster, gap));
            }
            return next;
        }

        void addRow(int slot, int waitOver, int waitUnder) {
            if (size >= 0 && size < SLOTS) {
                winner[size] = slot;
                over[size] = waitOver;
                under[size] = waitUnder;
                size++;
            }
        }

        boolean hasRow(int row) {
            return row >= 0 && row < size && row < SLOTS;
        }

        int winnerIn(int row) {
            return hasRow(row) ? winner[row] : NONE;
        }

        /** The row in which a mover wins; NONE if it never does. */
        int rowOf(int slot) {
            for (int row = 0; row < SLOTS && row < size; row++) {
                if (winner[row] == slot) {
                    return row;
                }
            }
            return NONE;
        }

        /** The moment of a row, as a time; a reduced wait stays reduced with the time added. */
        int numerator(int row, int time) {
            return hasRow(row) ? time * under[row] + over[row] : 0;
        }

        int denominator(int row) {
            return hasRow(row) ? under[row] : 0;
        }

        double moment(int row, int time) {
            int divisor = denominator(row);
            return divisor < 1 ? 0.0 : (double) numerator(row, time) / (double) divisor;
        }

        int turnsWithin(int by) {
            int turns = 0;
            for (int row = 1; row < SLOTS && row < size; row++) {
                if (over[row] <= (long) by * under[row]) {
                    turns++;
                }
            }
            return turns;
        }

        /** How many whole units of time must pass, until a row has begun. */
        int wholeUnitsTo(int row) {
            int divisor = denominator(row);
            return divisor < 1 ? 0 : (numerator(row, 0) + divisor - 1) / divisor;
        }

        /** Whether the next turn is earlier than that of another course; both have one. */
        boolean turnsBefore(Course other) {
            long mine = (long) numerator(1, 0) * other.denominator(1);
            long theirs = (long) other.numerator(1, 0) * denominator(1);
            return mine < theirs;
        }
    }

    /** The buffer, and how it is read as movers. */
    private static final class Text {
        // where the reading stands: what a character may be depends on it alone
        static final int BEGIN = 0;
        static final int MINUS = 1;
        static final int VALUE_OF_ONE = 2;
        static final int VALUE_OF_TWO = 3;
        static final int VALUE_OF_THREE = 4;
        static final int VALUE_WHOLE = 5;
        static final int SIGN = 6;
        static final int SPEED_OF_ONE = 7;
        static final int SPEED_WHOLE = 8;
        static final int ERROR = 9;

        final char[] codes = new char[TEXT_LIMIT];
        int length = 0;
        int readTo = 0;

        void put(int code) {
            if (length >= 0 && length < TEXT_LIMIT) {
                codes[length] = (char) code;
                length++;
            }
        }

        int codeAt(int index) {
            return index >= 0 && index < length && index < TEXT_LIMIT ? codes[index] : 0;
        }

        int soundLength() {
            int place = BEGIN;
            for (int index = 0; index < length; index++) {
                place = placeAfter(place, codeAt(index));
                if (place == ERROR) {
                    return index;
                }
            }
            return length;
        }

        boolean isComplete() {
            int place = BEGIN;
            for (int index = 0; index < length; index++) {
                place = placeAfter(place, codeAt(index));
            }
            return place == SPEED_OF_ONE || place == SPEED_WHOLE;
        }

        static int placeAfter(int place, int code) {
            switch (place) {
                case BEGIN:
                    return code == '-' ? MINUS : placeAfterFirstDigit(code, VALUE_OF_ONE, VALUE_WHOLE);
                case MINUS:
                    return placeAfterFirstDigit(code, VALUE_OF_ONE, VALUE_WHOLE);
                case VALUE_OF_ONE:
                case VALUE_OF_TWO:
                case VALUE_OF_THREE:
                    return isDigit(code) ? place + 1 : isSign(code) ? SIGN : ERROR;
                case VALUE_WHOLE:
                    return isSign(code) ? SIGN : ERROR;
                case SIGN:
                    return placeAfterFirstDigit(code, SPEED_OF_ONE, SPEED_WHOLE);
                case SPEED_OF_ONE:
                    return isDigit(code) ? SPEED_WHOLE : code == ';' ? BEGIN : ERROR;
                case SPEED_WHOLE:
                    return code == ';' ? BEGIN : ERROR;
                default:
                    return ERROR;
            }
        }

        /** No digit follows a leading zero, so that a number with it is whole at once. */
        static int placeAfterFirstDigit(int code, int ofOneDigit, int whole) {
            if (code == '0') {
                return whole;
            }
            return isDigit(code) ? ofOneDigit : ERROR;
        }

        static boolean isDigit(int code) {
            return code >= '0' && code <= '9';
        }

        static boolean isSign(int code) {
            return code == '+' || code == '-';
        }

        /** How many movers there are, if the text is complete. */
        int moversInside() {
            int movers = 1;
            for (int index = 0; index < length; index++) {
                if (codeAt(index) == ';') {
                    movers++;
                }
            }
            return movers;
        }

        void startReading() {
            readTo = 0;
        }

        void skipCode() {
            readTo++;
        }

        /** Reads a number with its sign, if it has one; the text is complete. */
        int readNumber() {
            int sign = codeAt(readTo);
            if (isSign(sign)) {
                readTo++;
            }
            int number = 0;
            while (readTo < length && isDigit(codeAt(readTo))) {
                number = 10 * number + codeAt(readTo) - '0';
                readTo++;
            }
            return sign == '-' ? -number : number;
        }

        long hashedInto(long before) {
            long hash = 31 * before + length;
            for (int index = 0; index < length; index++) {
                hash = 31 * hash + codeAt(index);
            }
            return hash;
        }
    }
}
