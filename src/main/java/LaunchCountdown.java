import java.util.Arrays;

/** A launch countdown controller. What each call promises stands in the project's document, DOC.md. */
public final class LaunchCountdown {
    /** There is nothing to return. */
    public static final int NONE = -1;

    private static final int FIRST_LENGTH = 60;
    private static final int MOST_LENGTH = 3600;
    private static final int LAST_SECOND = 99999;
    private static final int MOST_SECONDS = 600;

    private static final int MOST_EVENTS = 12;
    private static final int MOST_HOLDS = 4;
    private static final int MOST_POINTS = 4;
    private static final int MOST_CONSTRAINTS = 6;
    private static final int MOST_WINDOWS = 4;
    private static final int MOST_CUTOUTS = 6;
    private static final int MOST_DURATION = 999;

    private static final int FIRST_BUDGET = 600;
    private static final int MOST_BUDGET = 9999;
    private static final int FIRST_RECYCLES = 3;
    private static final int MOST_RECYCLES = 9;

    private static final int VOTERS = 5;
    private static final int NOT_VOTED = 0;
    private static final int GO = 1;
    private static final int NO_GO = 2;

    private static final int NOT_STARTED = 0;
    private static final int RUNNING = 1;
    private static final int BUILT_IN_HOLD = 2;
    private static final int UNPLANNED_HOLD = 3;
    private static final int SCRUBBED = 4;
    private static final int LIFTED_OFF = 5;

    private static final int START = 0;
    private static final int HOLD = 1;
    private static final int RESUME = 2;
    private static final int SCRUB = 3;

    private static final int REASON_COMMAND = 10;
    private static final int REASON_NOT_OPEN = 11;

    private static final int LOG_FIRED = 0;
    private static final int LOG_HOLD_BEGAN = 1;
    private static final int LOG_HOLD_ENDED = 2;
    private static final int LOG_UNPLANNED = 3;
    private static final int LOG_RESUMED = 4;
    private static final int LOG_RECYCLED = 5;
    private static final int LOG_SCRUBBED = 6;
    private static final int LOG_LIFTOFF = 7;
    private static final int LOG_PARTS = 3;
    private static final int MOST_ENTRIES = 24;

    private static final int SCRUBBED_BY_COMMAND = 0;
    private static final int SCRUBBED_BY_BUDGET = 1;

    private static final int SLOTS = 3;
    private static final int STATUS_NUMBERS = 12;
    private static final int SORTS = 6;
    private static final int PROPERTIES = 4;

    private static final int MOST_CHARACTERS = 60;
    private static final int FIRST_CODE = 33;
    private static final int LAST_CODE = 126;

    private static final long DIGEST_START = 1913L;
    private static final long DIGEST_FACTOR = 31L;

    private final Plan plan;
    private final State now;
    /** Kept for ifAdvanced alone, so that a what-if question makes no objects. */
    private final State trial;
    private final State[] saved;
    /** A bit for each slot that holds a saved state. */
    private int savedSlots;
    private final Buffer buffer;

    public LaunchCountdown() {
        plan = new Plan();
        now = new State(plan);
        trial = new State(plan);
        saved = new State[SLOTS];
        for (int slot = 0; slot < SLOTS; slot++) {
            saved[slot] = new State(plan);
        }
        buffer = new Buffer();
        beginAnew(FIRST_LENGTH);
    }

    // ---- plans

    public int begin(int length) throws IllegalArgumentException {
        if (length < 1 || length > MOST_LENGTH) {
            throw new IllegalArgumentException("length is not 1 to 3600");
        }
        int before = plan.length;
        beginAnew(length);
        return before;
    }

    public int addEvent(int count, int constraint)
            throws IllegalArgumentException, IndexOutOfBoundsException, IllegalStateException {
        if (!plan.hasCount(count)) {
            throw new IllegalArgumentException("count is out of range");
        }
        if (constraint != NONE && !plan.hasConstraint(constraint)) {
            throw new IndexOutOfBoundsException("no such constraint");
        }
        if (now.phase != NOT_STARTED || plan.events >= MOST_EVENTS) {
            throw new IllegalStateException("no event can be added");
        }
        return plan.putEvent(count, constraint);
    }

    public int addHold(int count, int duration) throws IllegalArgumentException, IllegalStateException {
        if (!plan.hasCount(count) || duration < 1 || duration > MOST_DURATION) {
            throw new IllegalArgumentException("an argument is out of range");
        }
        if (plan.holdAt(count) != NONE) {
            throw new IllegalArgumentException("there is a hold with this count");
        }
        if (now.phase != NOT_STARTED || plan.holds >= MOST_HOLDS) {
            throw new IllegalStateException("no hold can be added");
        }
        return plan.putHold(count, duration);
    }

    public int addPoint(int count) throws IllegalArgumentException, IllegalStateException {
        if (!plan.hasCount(count)) {
            throw new IllegalArgumentException("count is out of range");
        }
        if (now.phase != NOT_STARTED || plan.points >= MOST_POINTS) {
            throw new IllegalStateException("no point can be added");
        }
        return plan.putPoint(count);
    }

    public int addConstraint(int from, int to, int quorum) throws IllegalArgumentException, IllegalStateException {
        if (!plan.hasCount(from) || to < 0 || to > from || quorum < 1 || quorum > VOTERS) {
            throw new IllegalArgumentException("an argument is out of range");
        }
        if (now.phase != NOT_STARTED || plan.constraints >= MOST_CONSTRAINTS) {
            throw new IllegalStateException("no constraint can be added");
        }
        return plan.putConstraint(from, to, quorum);
    }

    public int addSpan(int first, int last, boolean cutout) throws IllegalArgumentException, IllegalStateException {
        if (first < 0 || last < first || last > LAST_SECOND) {
            throw new IllegalArgumentException("first or last is out of range");
        }
        Spans spans = cutout ? now.cutouts : now.windows;
        if (now.phase > UNPLANNED_HOLD || spans.isFull()) {
            throw new IllegalStateException("no such span can be added");
        }
        return spans.put(first, last);
    }

    public int setLimits(int budget, int recycles) throws IllegalArgumentException {
        if (budget < 0 || budget > MOST_BUDGET || recycles < 0 || recycles > MOST_RECYCLES) {
            throw new IllegalArgumentException("an argument is out of range");
        }
        int before = now.budget;
        now.budget = budget;
        now.mostRecycles = recycles;
        return before;
    }

    public int vote(int constraint, int voter, int vote) throws IndexOutOfBoundsException, IllegalArgumentException {
        if (!plan.hasConstraint(constraint) || !isVoter(voter)) {
            throw new IndexOutOfBoundsException("no such constraint or voter");
        }
        if (!isVote(vote)) {
            throw new IllegalArgumentException("vote is not 0 to 2");
        }
        int before = now.votes.of(constraint, voter);
        now.votes.put(constraint, voter, vote);
        return before;
    }

    // ---- commands

    public int command(int what) throws IllegalArgumentException, IllegalStateException {
        if (what < START || what > SCRUB) {
            throw new IllegalArgumentException("what is not 0 to 3");
        }
        if (!obeyed(what)) {
            throw new IllegalStateException("the command is not possible");
        }
        return now.phase;
    }

    public int recycle(int point) throws IndexOutOfBoundsException, IllegalStateException {
        if (!plan.hasPoint(point)) {
            throw new IndexOutOfBoundsException("no such point");
        }
        int before = now.count;
        if (!recycled(point)) {
            throw new IllegalStateException("the recycle is not possible");
        }
        return before;
    }

    public int advance(int seconds) throws IllegalArgumentException, IllegalStateException {
        if (seconds < 1 || seconds > MOST_SECONDS) {
            throw new IllegalArgumentException("seconds is not 1 to 600");
        }
        if (!now.advanced(seconds)) {
            throw new IllegalStateException("the clock would show more than 99999");
        }
        return now.phase;
    }

    public int run() throws IllegalStateException {
        if (now.phase < RUNNING || now.phase > UNPLANNED_HOLD || !now.hasRoomFor(MOST_SECONDS)) {
            throw new IllegalStateException("the countdown can't run");
        }
        int firstPhase = now.phase;
        boolean fired = false;
        int seconds = 0;
        while (seconds < MOST_SECONDS && now.phase == firstPhase && !fired) {
            fired = now.passSecond();
            seconds++;
        }
        return seconds;
    }

    public int save(int slot) throws IndexOutOfBoundsException {
        if (!isSlot(slot)) {
            throw new IndexOutOfBoundsException("slot is not 0 to 2");
        }
        saved[slot].copyFrom(now);
        savedSlots |= 1 << slot;
        return now.clock;
    }

    public int restore(int slot) throws IndexOutOfBoundsException, IllegalStateException {
        if (!isSlot(slot)) {
            throw new IndexOutOfBoundsException("slot is not 0 to 2");
        }
        if (!hasBit(savedSlots, slot)) {
            throw new IllegalStateException("no state is saved there");
        }
        now.copyFrom(saved[slot]);
        return now.clock;
    }

    // ---- scripts

    public int append(int code) throws IllegalArgumentException, IllegalStateException {
        if (code < FIRST_CODE || code > LAST_CODE) {
            throw new IllegalArgumentException("code is not 33 to 126");
        }
        if (buffer.length >= MOST_CHARACTERS) {
            throw new IllegalStateException("the buffer has 60 characters");
        }
        buffer.put(code);
        return buffer.length;
    }

    public int clearBuffer() {
        int before = buffer.length;
        buffer.clear();
        return before;
    }

    public int firstError() {
        return buffer.errorIndex();
    }

    public int script() throws IllegalStateException {
        if (!buffer.isScript()) {
            throw new IllegalStateException("the buffer is not a complete script");
        }
        int at = 0;
        int done = 0;
        // Behind the last command no character stands, which is no command.
        while (done < MOST_CHARACTERS && carriedOut(at)) {
            at = buffer.nextCommand(at);
            done++;
        }
        buffer.clear();
        return done;
    }

    // ---- questions

    public int status(int what) throws IllegalArgumentException {
        if (!isStatus(what)) {
            throw new IllegalArgumentException("what is not 0 to 11");
        }
        return now.number(what);
    }

    public int items(int sort) throws IllegalArgumentException {
        if (sort < 0 || sort >= SORTS) {
            throw new IllegalArgumentException("sort is not 0 to 5");
        }
        return itemsOf(sort);
    }

    public int constraint(int constraint, int what) throws IndexOutOfBoundsException, IllegalArgumentException {
        if (!plan.hasConstraint(constraint)) {
            throw new IndexOutOfBoundsException("no such constraint");
        }
        if (what < 0 || what >= PROPERTIES) {
            throw new IllegalArgumentException("what is not 0 to 3");
        }
        return now.property(constraint, what);
    }

    public int expected(int event) throws IndexOutOfBoundsException {
        if (!plan.hasEvent(event)) {
            throw new IndexOutOfBoundsException("no such event");
        }
        return now.firingSecond(event);
    }

    public int liftoff() {
        return now.liftoffSecond();
    }

    public int slack(boolean greatest) {
        if (now.phase > UNPLANNED_HOLD) {
            return NONE;
        }
        int from = now.liftoffSecond();
        int open = greatest ? now.lastOpen(from) : now.firstOpen(from);
        return open == NONE ? NONE : open - from;
    }

    public boolean isOpen(int second) throws IllegalArgumentException {
        if (second < 0 || second > LAST_SECOND) {
            throw new IllegalArgumentException("second is not 0 to 99999");
        }
        return now.opensAt(second);
    }

    public int ifRecycled(int point) throws IndexOutOfBoundsException {
        if (!plan.hasPoint(point)) {
            throw new IndexOutOfBoundsException("no such point");
        }
        return now.recycledLiftoff(point);
    }

    public int bestPoint() {
        int best = NONE;
        int bestSecond = NONE;
        for (int point = 0; point < plan.points; point++) {
            int from = now.recycledLiftoff(point);
            int second = from == NONE ? NONE : now.firstOpen(from);
            if (second != NONE && (best == NONE || isBetter(point, second, best, bestSecond))) {
                best = point;
                bestSecond = second;
            }
        }
        return best;
    }

    public int ifAdvanced(int seconds, int what) throws IllegalArgumentException, IllegalStateException {
        if (seconds < 1 || seconds > MOST_SECONDS || !isStatus(what)) {
            throw new IllegalArgumentException("an argument is out of range");
        }
        trial.copyFrom(now);
        if (!trial.advanced(seconds)) {
            throw new IllegalStateException("the clock would show more than 99999");
        }
        return trial.number(what);
    }

    public int log(int entry, int what) throws IndexOutOfBoundsException, IllegalArgumentException {
        if (entry < 0 || entry >= now.log.kept) {
            throw new IndexOutOfBoundsException("no such entry");
        }
        if (what < 0 || what >= LOG_PARTS) {
            throw new IllegalArgumentException("what is not 0 to 2");
        }
        return now.log.part(entry, what);
    }

    public double holdShare() {
        int passed = now.secondsSinceStart();
        return passed > 0 ? (double) now.usedHoldTime / passed : 0.0;
    }

    public long digest() {
        long hash = DIGEST_START;
        for (int what = 0; what < STATUS_NUMBERS; what++) {
            hash = mixed(hash, now.number(what));
        }
        for (int sort = 0; sort < SORTS; sort++) {
            hash = mixed(hash, itemsOf(sort));
        }
        hash = mixedOutlook(hash);
        hash = now.log.mixedInto(hash);
        return buffer.mixedInto(hash);
    }

    // ---- helpers

    private void beginAnew(int length) {
        plan.clear(length);
        now.clear();
        savedSlots = 0;
    }

    private boolean obeyed(int command) {
        if (!now.allows(command)) {
            return false;
        }
        now.obey(command);
        return true;
    }

    private boolean recycled(int point) {
        if (!plan.hasPoint(point) || !now.allowsRecycle(point)) {
            return false;
        }
        now.goBackTo(point);
        return true;
    }

    private boolean voted(int constraint, int voter, int vote) {
        if (!plan.hasConstraint(constraint) || !isVoter(voter) || !isVote(vote)) {
            return false;
        }
        now.votes.put(constraint, voter, vote);
        return true;
    }

    /** Carries out the script's command that begins at an index, if it is possible. */
    private boolean carriedOut(int at) {
        switch (buffer.codeAt(at)) {
            case 's':
                return obeyed(START);
            case 'h':
                return obeyed(HOLD);
            case 'r':
                return obeyed(RESUME);
            case 'x':
                return obeyed(SCRUB);
            case 'c':
                return recycled(buffer.digitAt(at + 1));
            case '+':
                return now.advanced(buffer.numberAt(at + 1));
            case 'v':
                return voted(buffer.digitAt(at + 1), buffer.digitAt(at + 2), buffer.digitAt(at + 3));
            default:
                return false;
        }
    }

    private int itemsOf(int sort) {
        switch (sort) {
            case 0:
                return plan.events;
            case 1:
                return plan.holds;
            case 2:
                return plan.points;
            case 3:
                return plan.constraints;
            case 4:
                return now.windows.total;
            default:
                return now.cutouts.total;
        }
    }

    /** Of two points with the same count the lower number wins, so an equal count is not better. */
    private boolean isBetter(int point, int second, int best, int bestSecond) {
        if (second != bestSecond) {
            return second < bestSecond;
        }
        return plan.pointCounts[point] < plan.pointCounts[best];
    }

    private long mixedOutlook(long before) {
        long hash = before;
        for (int event = 0; event < plan.events; event++) {
            hash = mixed(hash, now.firingSecond(event));
        }
        for (int constraint = 0; constraint < plan.constraints; constraint++) {
            for (int what = 0; what < PROPERTIES; what++) {
                hash = mixed(hash, now.property(constraint, what));
            }
        }
        hash = mixed(hash, now.liftoffSecond());
        hash = mixed(hash, slack(false));
        hash = mixed(hash, slack(true));
        for (int point = 0; point < plan.points; point++) {
            hash = mixed(hash, now.recycledLiftoff(point));
        }
        return mixed(hash, bestPoint());
    }

    private static long mixed(long hash, int value) {
        return DIGEST_FACTOR * hash + value;
    }

    private static boolean isVoter(int voter) {
        return voter >= 0 && voter < VOTERS;
    }

    private static boolean isVote(int vote) {
        return vote >= NOT_VOTED && vote <= NO_GO;
    }

    private static boolean isSlot(int slot) {
        return slot >= 0 && slot < SLOTS;
    }

    private static boolean isStatus(int what) {
        return what >= 0 && what < STATUS_NUMBERS;
    }

    private static boolean hasBit(int bits, int number) {
        return (bits >> number & 1) != 0;
    }

    private static int withBit(int bits, int number, boolean set) {
        int bit = 1 << number;
        return set ? bits | bit : bits & ~bit;
    }

    /** The length and the items that a restore leaves as they are. */
    private static final class Plan {
        int length;
        int events;
        int holds;
        int points;
        int constraints;
        final int[] eventCounts = new int[MOST_EVENTS];
        final int[] eventGuards = new int[MOST_EVENTS];
        final int[] holdCounts = new int[MOST_HOLDS];
        final int[] holdDurations = new int[MOST_HOLDS];
        final int[] pointCounts = new int[MOST_POINTS];
        final int[] activeFrom = new int[MOST_CONSTRAINTS];
        final int[] activeTo = new int[MOST_CONSTRAINTS];
        final int[] quorums = new int[MOST_CONSTRAINTS];

        void clear(int newLength) {
            length = newLength;
            events = 0;
            holds = 0;
            points = 0;
            constraints = 0;
        }

        boolean hasCount(int count) {
            return count >= 0 && count <= length;
        }

        boolean hasEvent(int event) {
            return event >= 0 && event < events;
        }

        boolean hasPoint(int point) {
            return point >= 0 && point < points;
        }

        boolean hasConstraint(int constraint) {
            return constraint >= 0 && constraint < constraints;
        }

        int putEvent(int count, int guard) {
            eventCounts[events] = count;
            eventGuards[events] = guard;
            return events++;
        }

        int putHold(int count, int duration) {
            holdCounts[holds] = count;
            holdDurations[holds] = duration;
            return holds++;
        }

        int putPoint(int count) {
            pointCounts[points] = count;
            return points++;
        }

        int putConstraint(int from, int to, int quorum) {
            activeFrom[constraints] = from;
            activeTo[constraints] = to;
            quorums[constraints] = quorum;
            return constraints++;
        }

        int holdAt(int count) {
            for (int hold = 0; hold < holds; hold++) {
                if (holdCounts[hold] == count) {
                    return hold;
                }
            }
            return NONE;
        }

        boolean isActive(int constraint, int count) {
            return count <= activeFrom[constraint] && count >= activeTo[constraint];
        }

        /** The durations of the holds from a count down to another one, but for those whose bits are set. */
        int holdTime(int from, int to, int without) {
            int time = 0;
            for (int hold = 0; hold < holds; hold++) {
                if (holdCounts[hold] <= from && holdCounts[hold] >= to && !hasBit(without, hold)) {
                    time += holdDurations[hold];
                }
            }
            return time;
        }
    }

    /** Windows or cutouts. */
    private static final class Spans {
        final int[] firsts;
        final int[] lasts;
        int total;

        Spans(int most) {
            firsts = new int[most];
            lasts = new int[most];
        }

        void copyFrom(Spans other) {
            total = other.total;
            System.arraycopy(other.firsts, 0, firsts, 0, firsts.length);
            System.arraycopy(other.lasts, 0, lasts, 0, lasts.length);
        }

        boolean isFull() {
            return total >= firsts.length;
        }

        int put(int first, int last) {
            firsts[total] = first;
            lasts[total] = last;
            return total++;
        }

        boolean contain(int second) {
            for (int span = 0; span < total; span++) {
                if (second >= firsts[span] && second <= lasts[span]) {
                    return true;
                }
            }
            return false;
        }
    }

    /** For each constraint a bit for each voter who has voted go, and for each who has voted no-go. */
    private static final class Votes {
        final int[] go = new int[MOST_CONSTRAINTS];
        final int[] noGo = new int[MOST_CONSTRAINTS];

        /** Also what no constraint uses yet is 0, so that a restore gives later constraints no votes. */
        void clear() {
            Arrays.fill(go, 0);
            Arrays.fill(noGo, 0);
        }

        void copyFrom(Votes other) {
            System.arraycopy(other.go, 0, go, 0, MOST_CONSTRAINTS);
            System.arraycopy(other.noGo, 0, noGo, 0, MOST_CONSTRAINTS);
        }

        int of(int constraint, int voter) {
            if (hasBit(go[constraint], voter)) {
                return GO;
            }
            return hasBit(noGo[constraint], voter) ? NO_GO : NOT_VOTED;
        }

        void put(int constraint, int voter, int vote) {
            go[constraint] = withBit(go[constraint], voter, vote == GO);
            noGo[constraint] = withBit(noGo[constraint], voter, vote == NO_GO);
        }
    }

    /** The latest entries, in a ring. */
    private static final class Log {
        final int[] seconds = new int[MOST_ENTRIES];
        final int[] kinds = new int[MOST_ENTRIES];
        final int[] values = new int[MOST_ENTRIES];
        /** The index at which the next entry is written. */
        int next;
        int kept;

        void clear() {
            next = 0;
            kept = 0;
        }

        void copyFrom(Log other) {
            next = other.next;
            kept = other.kept;
            System.arraycopy(other.seconds, 0, seconds, 0, MOST_ENTRIES);
            System.arraycopy(other.kinds, 0, kinds, 0, MOST_ENTRIES);
            System.arraycopy(other.values, 0, values, 0, MOST_ENTRIES);
        }

        void put(int second, int kind, int value) {
            seconds[next] = second;
            kinds[next] = kind;
            values[next] = value;
            next = next + 1 < MOST_ENTRIES ? next + 1 : 0;
            if (kept < MOST_ENTRIES) {
                kept++;
            }
        }

        int part(int entry, int what) {
            int index = next - 1 - entry;
            if (index < 0) {
                index += MOST_ENTRIES;
            }
            switch (what) {
                case 0:
                    return seconds[index];
                case 1:
                    return kinds[index];
                default:
                    return values[index];
            }
        }

        long mixedInto(long before) {
            long hash = before;
            for (int entry = 0; entry < kept; entry++) {
                for (int what = 0; what < LOG_PARTS; what++) {
                    hash = mixed(hash, part(entry, what));
                }
            }
            return hash;
        }
    }

    private static final class Pass {
        int number;
        /** A bit for each event that has fired, and for each built-in hold that has begun. */
        int fired;
        int begun;

        void clear() {
            number = 0;
            fired = 0;
            begun = 0;
        }

        void copyFrom(Pass other) {
            number = other.number;
            fired = other.fired;
            begun = other.begun;
        }

        void beginNext() {
            number++;
            fired = 0;
            begun = 0;
        }
    }

    /** What save keeps and restore brings back; it runs by the plan's items. */
    private static final class State {
        final Plan plan;
        int phase;
        int clock;
        int count;
        int startClock;
        int liftoffClock;
        /** The built-in hold of phase 2, and the reason of phase 3. */
        int hold;
        int holdLeft;
        int reason;
        int usedHoldTime;
        int recycles;
        int budget;
        int mostRecycles;
        final Pass pass = new Pass();
        final Votes votes = new Votes();
        final Spans windows = new Spans(MOST_WINDOWS);
        final Spans cutouts = new Spans(MOST_CUTOUTS);
        final Log log = new Log();

        State(Plan itsPlan) {
            plan = itsPlan;
        }

        void clear() {
            phase = NOT_STARTED;
            clock = 0;
            count = plan.length;
            startClock = 0;
            liftoffClock = 0;
            hold = 0;
            holdLeft = 0;
            reason = 0;
            usedHoldTime = 0;
            recycles = 0;
            budget = FIRST_BUDGET;
            mostRecycles = FIRST_RECYCLES;
            pass.clear();
            votes.clear();
            windows.total = 0;
            cutouts.total = 0;
            log.clear();
        }

        void copyFrom(State other) {
            phase = other.phase;
            clock = other.clock;
            count = other.count;
            startClock = other.startClock;
            liftoffClock = other.liftoffClock;
            hold = other.hold;
            holdLeft = other.holdLeft;
            reason = other.reason;
            usedHoldTime = other.usedHoldTime;
            recycles = other.recycles;
            budget = other.budget;
            mostRecycles = other.mostRecycles;
            pass.copyFrom(other.pass);
            votes.copyFrom(other.votes);
            windows.copyFrom(other.windows);
            cutouts.copyFrom(other.cutouts);
            log.copyFrom(other.log);
        }

        // ---- seconds

        boolean hasRoomFor(int seconds) {
            return seconds <= LAST_SECOND - clock;
        }

        /** Lets seconds pass, if the clock can show them. */
        boolean advanced(int seconds) {
            if (!hasRoomFor(seconds)) {
                return false;
            }
            for (int i = 0; i < seconds; i++) {
                passSecond();
            }
            return true;
        }

        /** Tells whether an event fired in the second. */
        boolean passSecond() {
            int firedBefore = pass.fired;
            if (phase == RUNNING) {
                countDown();
            } else if (phase == UNPLANNED_HOLD) {
                spendBudget();
            }
            // The second in which a built-in hold begins is its first one.
            if (phase == BUILT_IN_HOLD) {
                spendHold();
            }
            clock++;
            return pass.fired != firedBefore;
        }

        private void countDown() {
            int due = plan.holdAt(count);
            if (due != NONE && !hasBit(pass.begun, due)) {
                beginHold(due);
                return;
            }
            int blocking = blockingConstraint();
            if (blocking == NONE) {
                blocking = fireEvents();
            }
            if (blocking != NONE) {
                beginUnplanned(blocking);
            } else if (count > 0) {
                count--;
            } else if (opensAt(clock)) {
                liftOff();
            } else {
                beginUnplanned(REASON_NOT_OPEN);
            }
        }

        private void beginHold(int due) {
            phase = BUILT_IN_HOLD;
            hold = due;
            holdLeft = plan.holdDurations[due];
            pass.begun |= 1 << due;
            log.put(clock, LOG_HOLD_BEGAN, due);
        }

        private void spendHold() {
            holdLeft--;
            if (holdLeft <= 0) {
                phase = RUNNING;
                log.put(clock, LOG_HOLD_ENDED, hold);
            }
        }

        private void beginUnplanned(int why) {
            phase = UNPLANNED_HOLD;
            reason = why;
            log.put(clock, LOG_UNPLANNED, why);
        }

        private void spendBudget() {
            usedHoldTime++;
            if (usedHoldTime > budget) {
                scrub(SCRUBBED_BY_BUDGET);
            }
        }

        private void liftOff() {
            phase = LIFTED_OFF;
            liftoffClock = clock;
            log.put(clock, LOG_LIFTOFF, 0);
        }

        private void scrub(int how) {
            phase = SCRUBBED;
            log.put(clock, LOG_SCRUBBED, how);
        }

        /** Fires the events that are due, up to one whose guard is not go; returns that guard, or NONE. */
        private int fireEvents() {
            for (int event = 0; event < plan.events; event++) {
                if (plan.eventCounts[event] != count || hasBit(pass.fired, event)) {
                    continue;
                }
                int guard = plan.eventGuards[event];
                if (guard != NONE && !isGo(guard)) {
                    return guard;
                }
                pass.fired |= 1 << event;
                log.put(clock, LOG_FIRED, event);
            }
            return NONE;
        }

        // ---- commands

        boolean allows(int command) {
            switch (command) {
                case START:
                    return phase == NOT_STARTED;
                case HOLD:
                    return phase == RUNNING;
                case RESUME:
                    return phase == UNPLANNED_HOLD && blockingConstraint() == NONE;
                case SCRUB:
                    return phase <= UNPLANNED_HOLD;
                default:
                    return false;
            }
        }

        void obey(int command) {
            switch (command) {
                case START:
                    phase = RUNNING;
                    startClock = clock;
                    pass.beginNext();
                    break;
                case HOLD:
                    beginUnplanned(REASON_COMMAND);
                    break;
                case RESUME:
                    phase = RUNNING;
                    log.put(clock, LOG_RESUMED, usedHoldTime);
                    break;
                default:
                    scrub(SCRUBBED_BY_COMMAND);
                    break;
            }
        }

        boolean allowsRecycle(int point) {
            return phase == UNPLANNED_HOLD && plan.pointCounts[point] >= count && recycles < mostRecycles;
        }

        void goBackTo(int point) {
            count = plan.pointCounts[point];
            recycles++;
            pass.beginNext();
            log.put(clock, LOG_RECYCLED, point);
        }

        // ---- constraints

        private boolean isGo(int constraint) {
            int go = Integer.bitCount(votes.go[constraint]);
            return go >= plan.quorums[constraint] && go > Integer.bitCount(votes.noGo[constraint]);
        }

        /** The lowest constraint that is active now and not go, or NONE. */
        int blockingConstraint() {
            for (int constraint = 0; constraint < plan.constraints; constraint++) {
                if (plan.isActive(constraint, count) && !isGo(constraint)) {
                    return constraint;
                }
            }
            return NONE;
        }

        int property(int constraint, int what) {
            switch (what) {
                case 0:
                    return isGo(constraint) ? 1 : 0;
                case 1:
                    return plan.isActive(constraint, count) ? 1 : 0;
                case 2:
                    return Integer.bitCount(votes.go[constraint]);
                default:
                    return Integer.bitCount(votes.noGo[constraint]);
            }
        }

        // ---- outlook

        int number(int what) {
            switch (what) {
                case 0:
                    return phase;
                case 1:
                    return clock;
                case 2:
                    return count;
                case 3:
                    return usedHoldTime;
                case 4:
                    return recycles;
                case 5:
                    return phase == BUILT_IN_HOLD ? holdLeft : 0;
                case 6:
                    return phase == UNPLANNED_HOLD ? reason : NONE;
                case 7:
                    return log.kept;
                case 8:
                    return plan.length;
                case 9:
                    return Integer.bitCount(pass.fired);
                case 10:
                    return Integer.bitCount(pass.begun);
                default:
                    return pass.number;
            }
        }

        int secondsSinceStart() {
            return pass.number == 0 ? 0 : clock - startClock;
        }

        /** The second in which a count is reached and its hold is over, if nothing unplanned comes. */
        private int secondOf(int target) {
            int presentHold = phase == BUILT_IN_HOLD ? holdLeft : 0;
            return clock + presentHold + count - target + plan.holdTime(count, target, pass.begun);
        }

        int firingSecond(int event) {
            int target = plan.eventCounts[event];
            if (phase > UNPLANNED_HOLD || target > count || hasBit(pass.fired, event)) {
                return NONE;
            }
            return secondOf(target);
        }

        int liftoffSecond() {
            if (phase == SCRUBBED) {
                return NONE;
            }
            return phase == LIFTED_OFF ? liftoffClock : secondOf(0);
        }

        int recycledLiftoff(int point) {
            int target = plan.pointCounts[point];
            if (phase < RUNNING || phase > UNPLANNED_HOLD || target < count) {
                return NONE;
            }
            return clock + target + plan.holdTime(target, 0, 0);
        }

        boolean opensAt(int second) {
            return windows.contain(second) && !cutouts.contain(second);
        }

        /** The first open second from one on is that one, or a window's first one, or the one behind a cutout. */
        int firstOpen(int from) {
            int best = sooner(NONE, from, from);
            for (int window = 0; window < windows.total; window++) {
                best = sooner(best, windows.firsts[window], from);
            }
            for (int cutout = 0; cutout < cutouts.total; cutout++) {
                best = sooner(best, cutouts.lasts[cutout] + 1, from);
            }
            return best;
        }

        private int sooner(int best, int second, int from) {
            boolean isSooner = second >= from && (best == NONE || second < best);
            return isSooner && opensAt(second) ? second : best;
        }

        /** The last open second from one on is a window's last one, or the one ahead of a cutout. */
        int lastOpen(int from) {
            int best = NONE;
            for (int window = 0; window < windows.total; window++) {
                best = later(best, windows.lasts[window], from);
            }
            for (int cutout = 0; cutout < cutouts.total; cutout++) {
                best = later(best, cutouts.firsts[cutout] - 1, from);
            }
            return best;
        }

        private int later(int best, int second, int from) {
            return second >= from && second > best && opensAt(second) ? second : best;
        }
    }

    /** The script's characters, and how far they are one. */
    private static final class Buffer {
        /** What may come next: a command; ";" alone; a digit of c, of + or of v; more digits or ";". */
        private static final int COMMAND = 0;
        private static final int END = 1;
        private static final int LAST_DIGIT = 2;
        private static final int SECOND_DIGIT = 3;
        private static final int FIRST_DIGIT = 4;
        private static final int NUMBER = 5;
        private static final int MORE_NUMBER = 6;
        private static final int NOTHING = 7;

        final int[] codes = new int[MOST_CHARACTERS];
        int length;
        /** What may come behind the characters, and the number that stands at their end. */
        int next;
        int number;
        int error;

        Buffer() {
            clear();
        }

        void clear() {
            length = 0;
            next = COMMAND;
            number = 0;
            error = NONE;
        }

        void put(int code) {
            read(code);
            codes[length] = code;
            length++;
        }

        private void read(int code) {
            next = nextBehind(code);
            number = next == MORE_NUMBER ? number * 10 + code - '0' : 0;
            if (next == NOTHING && error == NONE) {
                error = length;
            }
        }

        private int nextBehind(int code) {
            switch (next) {
                case COMMAND:
                    return nextInCommand(code);
                case END:
                    return code == ';' ? COMMAND : NOTHING;
                case LAST_DIGIT:
                    return isDigit(code) ? END : NOTHING;
                case SECOND_DIGIT:
                    return isDigit(code) ? LAST_DIGIT : NOTHING;
                case FIRST_DIGIT:
                    return isDigit(code) ? SECOND_DIGIT : NOTHING;
                case NUMBER:
                    return isDigit(code) && code != '0' ? MORE_NUMBER : NOTHING;
                case MORE_NUMBER:
                    return nextInNumber(code);
                default:
                    return NOTHING;
            }
        }

        private static int nextInCommand(int code) {
            switch (code) {
                case 's':
                case 'h':
                case 'r':
                case 'x':
                    return END;
                case 'c':
                    return LAST_DIGIT;
                case '+':
                    return NUMBER;
                case 'v':
                    return FIRST_DIGIT;
                default:
                    return NOTHING;
            }
        }

        private int nextInNumber(int code) {
            if (code == ';') {
                return COMMAND;
            }
            boolean fits = isDigit(code) && number * 10 + code - '0' <= MOST_SECONDS;
            return fits ? MORE_NUMBER : NOTHING;
        }

        private static boolean isDigit(int code) {
            return code >= '0' && code <= '9';
        }

        int errorIndex() {
            return error == NONE ? length : error;
        }

        boolean isScript() {
            return next == END || next == MORE_NUMBER;
        }

        /** The index behind the next ";". */
        int nextCommand(int at) {
            int i = at;
            while (i < length && codeAt(i) != ';') {
                i++;
            }
            return i + 1;
        }

        int codeAt(int index) {
            return index >= 0 && index < length ? codes[index] : NONE;
        }

        /** NONE if there is no digit. */
        int digitAt(int index) {
            int code = codeAt(index);
            return isDigit(code) ? code - '0' : NONE;
        }

        int numberAt(int index) {
            int value = 0;
            for (int i = index; i < length && isDigit(codeAt(i)); i++) {
                value = value * 10 + digitAt(i);
            }
            return value;
        }

        long mixedInto(long before) {
            long hash = mixed(before, length);
            for (int i = 0; i < length; i++) {
                hash = mixed(hash, codes[i]);
            }
            return hash;
        }
    }
}
