import java.util.NoSuchElementException;

/** A booking system for a single-lane channel with two directions. */
public final class ChannelSchedule {
    public static final int NONE = -1;

    private static final String FIRST_SETUP =
            "channel 5 10 3;ship ann 20 3 4;ship bob 12 0 9;ship cid 30 5 2;ship dot 15 2 7;";

    private static final int MAX_TEXT = 600;
    private static final int MAX_SHIPS = 10;
    private static final int MAX_NAME = 6;
    private static final int MAX_GAP = 30;
    private static final int MAX_ICE = 9;
    private static final int MAX_TIME = 60;
    private static final int MAX_WEIGHT = 99;
    private static final int MAX_BOOKINGS = 20;
    private static final int MAX_REQUESTS = 8;
    private static final int MAX_COMMANDS = 30;
    private static final int MAX_ADVANCE = 500;
    private static final int LAST_START = 999;
    private static final int LAST_MINUTE = 1200;
    private static final int UNDOABLE = 6;
    private static final int SLOTS = 2;
    /** The longest item of the output: a space, six letters, a sign, "999", a hyphen, "1077". */
    private static final int MAX_ITEM = 16;

    /** What keeps a change from being made: which exception its method throws. */
    private static final int FINE = 0;
    private static final int BAD_INDEX = 1;
    private static final int BAD_ARGUMENT = 2;
    private static final int BAD_STATE = 3;

    private static final int WRONG_TOKEN = 1;
    private static final int OUT_OF_RANGE = 2;
    private static final int WRONG_NAME = 3;
    private static final int TOO_MANY = 4;

    private static final int BOOK = 0;
    private static final int REQUEST = 1;
    private static final int CANCEL = 2;
    private static final int MOVE = 3;
    private static final int WITHDRAW = 4;
    private static final int ICE = 5;
    private static final int ADVANCE = 6;

    private final Input input = new Input();
    private final Script script = new Script();
    private Setup setup = new Setup();
    private Setup draft = new Setup();
    private final Plan plan = new Plan();
    private final Plan kept = new Plan();
    private final Plan[] past = new Plan[UNDOABLE];
    private int latestPast = 0;
    private int pastCount = 0;
    private final Plan[] saved = new Plan[SLOTS];
    private final boolean[] isSaved = new boolean[SLOTS];
    private final int[] excluded = new int[MAX_REQUESTS];
    private final byte[] output = new byte[MAX_BOOKINGS * MAX_ITEM];
    private int outputLength = 0;

    public ChannelSchedule() {
        for (int i = 0; i < UNDOABLE; i++) {
            past[i] = new Plan();
        }
        for (int i = 0; i < SLOTS; i++) {
            saved[i] = new Plan();
        }
        for (int i = 0; i < FIRST_SETUP.length(); i++) {
            input.putByte(FIRST_SETUP.charAt(i));
        }
        if (readSetup()) {
            startWithDraft();
        }
        input.length = 0;
    }

    // ---- input

    public int append(int a, int b, int c, int d, int e) throws IllegalStateException {
        requireState(input.length + 20 <= MAX_TEXT);
        input.putFour(a);
        input.putFour(b);
        input.putFour(c);
        input.putFour(d);
        input.putFour(e);
        return input.length;
    }

    public int truncate(int length) throws IllegalArgumentException {
        requireArgument(isWithin(length, 0, input.length));
        input.length = length;
        return length;
    }

    public int load() throws IllegalArgumentException {
        boolean isValid = readSetup();
        input.length = 0;
        requireArgument(isValid);
        startWithDraft();
        return setup.shipCount;
    }

    public int errorCode() {
        return input.errorCode;
    }

    public int errorPosition() {
        return input.errorPosition;
    }

    // ---- ships and settings

    public int shipCount() {
        return setup.shipCount;
    }

    public int headway() {
        return setup.headway;
    }

    public int clearance() {
        return setup.clearance;
    }

    public int thickness() {
        return plan.thickness;
    }

    public int minute() {
        return plan.minute;
    }

    public int transitTime(int ship) throws IndexOutOfBoundsException {
        requireIndex(isShip(ship));
        return transitOf(ship);
    }

    public int iceClass(int ship) throws IndexOutOfBoundsException {
        requireIndex(isShip(ship));
        return setup.ships[ship].iceClass;
    }

    public int weight(int ship) throws IndexOutOfBoundsException {
        requireIndex(isShip(ship));
        return setup.ships[ship].weight;
    }

    public int shipNameByte(int ship, int index) throws IndexOutOfBoundsException {
        requireIndex(isShip(ship));
        Ship named = setup.ships[ship];
        requireIndex(isNumberBelow(index, named.nameLength));
        return named.name[index];
    }

    public int findShip() throws NoSuchElementException {
        int ship = setup.shipNamed(input.bytes, 0, input.length);
        requireElement(ship != NONE);
        return ship;
    }

    // ---- schedule

    public int bookingCount() {
        return plan.bookings;
    }

    public int bookedShip(int booking) throws IndexOutOfBoundsException {
        requireIndex(isBooking(booking));
        return plan.ships[booking];
    }

    public int startMinute(int booking) throws IndexOutOfBoundsException {
        requireIndex(isBooking(booking));
        return plan.starts[booking];
    }

    public int endMinute(int booking) throws IndexOutOfBoundsException {
        requireIndex(isBooking(booking));
        return plan.ends[booking];
    }

    public boolean isInbound(int booking) throws IndexOutOfBoundsException {
        requireIndex(isBooking(booking));
        return plan.inbound[booking];
    }

    public boolean isFinished(int booking) throws IndexOutOfBoundsException {
        requireIndex(isBooking(booking));
        return plan.ends[booking] <= plan.minute;
    }

    public boolean isUnderWay(int booking) throws IndexOutOfBoundsException {
        requireIndex(isBooking(booking));
        return plan.starts[booking] <= plan.minute && plan.ends[booking] > plan.minute;
    }

    public int occupancy(int minute) throws IllegalArgumentException {
        requireArgument(isWithin(minute, 0, LAST_MINUTE));
        int inChannel = 0;
        for (int i = 0; i < plan.bookings; i++) {
            if (plan.starts[i] <= minute && plan.ends[i] > minute) {
                inChannel++;
            }
        }
        return inChannel;
    }

    public int emptyMinutes(int from, int to) throws IllegalArgumentException {
        requireArgument(isWithin(from, 0, LAST_MINUTE) && isWithin(to, from, LAST_MINUTE));
        return countEmpty(from, to);
    }

    public int longestEmptyRun(int from, int to) throws IllegalArgumentException {
        requireArgument(isWithin(from, 0, LAST_MINUTE) && isWithin(to, from, LAST_MINUTE));
        int longest = 0;
        for (int i = 0; i <= plan.bookings; i++) {
            longest = Math.max(longest, gapBefore(i, from, to));
        }
        return longest;
    }

    // ---- conflicts and free times

    public int conflictCount(int ship, boolean isInbound, int start)
            throws IndexOutOfBoundsException, IllegalArgumentException {
        requireIndex(isShip(ship));
        requireArgument(isWithin(start, 0, LAST_START));
        int duration = transitOf(ship);
        int conflicts = 0;
        for (int i = 0; i < plan.bookings; i++) {
            if (clashes(i, isInbound, start, duration)) {
                conflicts++;
            }
        }
        return conflicts;
    }

    public int firstConflict(int ship, boolean isInbound, int start)
            throws IndexOutOfBoundsException, IllegalArgumentException {
        requireIndex(isShip(ship));
        requireArgument(isWithin(start, 0, LAST_START));
        return firstClash(isInbound, start, transitOf(ship), NONE);
    }

    public int earliestStart(int ship, boolean isInbound, int from)
            throws IndexOutOfBoundsException, IllegalArgumentException {
        requireIndex(isShip(ship));
        requireArgument(isWithin(from, 0, LAST_START));
        return leastFreeStart(isInbound, from, LAST_START, transitOf(ship), NONE);
    }

    public int latestStart(int ship, boolean isInbound, int deadline)
            throws IndexOutOfBoundsException, IllegalArgumentException {
        requireIndex(isShip(ship));
        requireArgument(isWithin(deadline, 0, LAST_MINUTE));
        int duration = transitOf(ship);
        return greatestFreeStart(isInbound, Math.min(LAST_START, deadline - duration), duration);
    }

    public int bestCancellation(int ship, boolean isInbound, int from)
            throws IndexOutOfBoundsException, IllegalArgumentException, NoSuchElementException {
        requireIndex(isShip(ship));
        requireArgument(isWithin(from, 0, LAST_START));
        requireElement(plan.bookings > 0);
        int duration = transitOf(ship);
        int best = NONE;
        int bestStart = 0;
        for (int i = 0; i < plan.bookings; i++) {
            int start = leastFreeStart(isInbound, from, LAST_START, duration, i);
            int rated = start == NONE ? LAST_START + 1 : start;
            if (best == NONE || rated < bestStart) {
                best = i;
                bestStart = rated;
            }
        }
        return best;
    }

    public int directionSwitches() {
        int switches = 0;
        for (int i = 1; i < plan.bookings; i++) {
            if (plan.inbound[i] != plan.inbound[i - 1]) {
                switches++;
            }
        }
        return switches;
    }

    public int longestConvoy() {
        int longest = 0;
        int convoy = 0;
        for (int i = 0; i < plan.bookings; i++) {
            boolean isGoingOn = i > 0 && plan.inbound[i] == plan.inbound[i - 1];
            convoy = isGoingOn ? convoy + 1 : 1;
            longest = Math.max(longest, convoy);
        }
        return longest;
    }

    public int slack(int booking) throws IndexOutOfBoundsException {
        requireIndex(isBooking(booking));
        int start = plan.starts[booking];
        int duration = plan.ends[booking] - start;
        int limit = LAST_START;
        // A later move never runs into an earlier booking: only those behind can stop it.
        for (int i = booking + 1; i < plan.bookings; i++) {
            boolean isSameWay = plan.inbound[i] == plan.inbound[booking];
            limit = Math.min(limit, freeBefore(plan.starts[i], plan.ends[i], isSameWay, duration));
        }
        return limit - start;
    }

    public int whyNotMovable(int booking, int start) throws IndexOutOfBoundsException, IllegalArgumentException {
        requireIndex(isBooking(booking));
        requireArgument(isWithin(start, 0, LAST_START));
        return hindranceToMove(booking, start);
    }

    // ---- waiting list

    public int requestCount() {
        return plan.requests;
    }

    public int requestedShip(int request) throws IndexOutOfBoundsException {
        requireIndex(isRequest(request));
        return plan.waitingShips[request];
    }

    public boolean isRequestInbound(int request) throws IndexOutOfBoundsException {
        requireIndex(isRequest(request));
        return plan.waitingInbound[request];
    }

    public int earliestRequested(int request) throws IndexOutOfBoundsException {
        requireIndex(isRequest(request));
        return plan.earliest[request];
    }

    public int latestRequested(int request) throws IndexOutOfBoundsException {
        requireIndex(isRequest(request));
        return plan.latest[request];
    }

    public int whyNotFeasible(int request) throws IndexOutOfBoundsException {
        requireIndex(isRequest(request));
        if (plan.latest[request] < plan.minute) {
            return 1;
        }
        if (plan.bookings == MAX_BOOKINGS) {
            return 2;
        }
        return servingStart(request) == NONE ? 3 : 0;
    }

    public int bestValue() {
        return valueOf(bestSelection());
    }

    public boolean isSelected(int request) throws IndexOutOfBoundsException {
        requireIndex(isRequest(request));
        return (bestSelection() & bitOf(request)) != 0;
    }

    public int servedWithout(int booking) throws IndexOutOfBoundsException {
        requireIndex(isBooking(booking));
        kept.copyFrom(plan);
        int served = cancelNow(booking);
        plan.copyFrom(kept);
        return served;
    }

    public int feasibleStart(int request) throws IndexOutOfBoundsException {
        requireIndex(isRequest(request));
        return servingStart(request);
    }

    public int waitingWeight() {
        int sum = 0;
        for (int i = 0; i < plan.requests; i++) {
            sum += setup.ships[plan.waitingShips[i]].weight;
        }
        return sum;
    }

    // ---- statistics

    public int bookingsMade() {
        return plan.made;
    }

    public int bookingsCancelled() {
        return plan.cancelled;
    }

    public int requestsServed() {
        return plan.served;
    }

    public float utilization() {
        int greatestEnd = 0;
        for (int i = 0; i < plan.bookings; i++) {
            greatestEnd = Math.max(greatestEnd, plan.ends[i]);
        }
        if (greatestEnd == 0) {
            return 0.0f;
        }
        int occupied = greatestEnd - countEmpty(0, greatestEnd - 1);
        return (float) occupied / (float) greatestEnd;
    }

    public double meanTransit() {
        if (plan.bookings == 0) {
            return 0.0;
        }
        int sum = 0;
        for (int i = 0; i < plan.bookings; i++) {
            sum += plan.ends[i] - plan.starts[i];
        }
        return (double) sum / (double) plan.bookings;
    }

    public int inconsistencies() {
        int found = plan.made - plan.cancelled - plan.bookings;
        for (int i = 0; i < plan.bookings; i++) {
            int duration = plan.ends[i] - plan.starts[i];
            for (int j = 0; j < i; j++) {
                if (clashes(j, plan.inbound[i], plan.starts[i], duration)) {
                    found++;
                }
            }
        }
        return found;
    }

    // ---- changes

    public int book(int ship, boolean isInbound, int start)
            throws IndexOutOfBoundsException, IllegalArgumentException, IllegalStateException {
        refuse(bookFault(ship, isInbound, start));
        remember();
        return bookNow(ship, isInbound, start);
    }

    public int request(int ship, boolean isInbound, int earliest, int latest)
            throws IndexOutOfBoundsException, IllegalArgumentException, IllegalStateException {
        refuse(requestFault(ship, isInbound, earliest, latest));
        remember();
        return requestNow(ship, isInbound, earliest, latest);
    }

    public int cancel(int booking) throws IndexOutOfBoundsException, IllegalStateException {
        refuse(cancelFault(booking));
        remember();
        return cancelNow(booking);
    }

    public int moveBooking(int booking, int start)
            throws IndexOutOfBoundsException, IllegalArgumentException, IllegalStateException {
        refuse(moveFault(booking, start));
        remember();
        return moveNow(booking, start);
    }

    public int withdraw(int request) throws IndexOutOfBoundsException {
        requireIndex(isRequest(request));
        remember();
        int ship = plan.waitingShips[request];
        plan.removeRequest(request);
        return ship;
    }

    public int setThickness(int thickness) throws IllegalArgumentException {
        requireArgument(isWithin(thickness, 0, MAX_ICE));
        remember();
        return freezeNow(thickness);
    }

    public int advance(int minutes) throws IllegalArgumentException, IllegalStateException {
        refuse(advanceFault(minutes));
        remember();
        return advanceNow(minutes);
    }

    public int runScript() throws IllegalArgumentException {
        boolean isValid = readScript();
        input.length = 0;
        requireArgument(isValid);
        remember();
        int executed = 0;
        while (executed < script.count && faultOf(executed) == FINE) {
            execute(executed);
            executed++;
        }
        return executed;
    }

    // ---- undo, saved states, output

    public int undo() throws IllegalStateException {
        requireState(pastCount > 0);
        plan.copyFrom(past[latestPast]);
        latestPast = latestPast == 0 ? UNDOABLE - 1 : latestPast - 1;
        pastCount--;
        return pastCount;
    }

    public int save(int slot) throws IndexOutOfBoundsException {
        requireIndex(isNumberBelow(slot, SLOTS));
        saved[slot].copyFrom(plan);
        isSaved[slot] = true;
        return plan.bookings;
    }

    public int restore(int slot) throws IndexOutOfBoundsException, IllegalStateException {
        requireIndex(isNumberBelow(slot, SLOTS));
        requireState(isSaved[slot]);
        plan.copyFrom(saved[slot]);
        pastCount = 0;
        return plan.bookings;
    }

    public int writeSchedule() {
        outputLength = 0;
        for (int i = 0; i < plan.bookings; i++) {
            if (i > 0) {
                writeByte(' ');
            }
            Ship ship = setup.ships[plan.ships[i]];
            for (int j = 0; j < ship.nameLength; j++) {
                writeByte(ship.name[j]);
            }
            writeByte(plan.inbound[i] ? '>' : '<');
            writeNumber(plan.starts[i]);
            writeByte('-');
            writeNumber(plan.ends[i]);
        }
        return outputLength;
    }

    public int outputByte(int index) throws IndexOutOfBoundsException {
        requireIndex(isNumberBelow(index, outputLength));
        return output[index];
    }

    // ---- what a call may ask for

    private static void requireIndex(boolean holds) {
        if (!holds) {
            throw new IndexOutOfBoundsException();
        }
    }

    private static void requireArgument(boolean holds) {
        if (!holds) {
            throw new IllegalArgumentException();
        }
    }

    private static void requireState(boolean holds) {
        if (!holds) {
            throw new IllegalStateException();
        }
    }

    private static void requireElement(boolean holds) {
        if (!holds) {
            throw new NoSuchElementException();
        }
    }

    private static void refuse(int fault) {
        requireIndex(fault != BAD_INDEX);
        requireArgument(fault != BAD_ARGUMENT);
        requireState(fault != BAD_STATE);
    }

    private static boolean isWithin(int value, int least, int greatest) {
        return value >= least && value <= greatest;
    }

    private static boolean isNumberBelow(int number, int count) {
        return number >= 0 && number < count;
    }

    private boolean isShip(int ship) {
        return isNumberBelow(ship, setup.shipCount);
    }

    private boolean isBooking(int booking) {
        return isNumberBelow(booking, plan.bookings);
    }

    private boolean isRequest(int request) {
        return isNumberBelow(request, plan.requests);
    }

    // ---- conflicts

    private int transitOf(int ship) {
        Ship taken = setup.ships[ship];
        int excess = plan.thickness - taken.iceClass;
        return excess > 0 ? taken.time + 2 * excess : taken.time;
    }

    /** The least start behind that of a booking at which one of this duration does not conflict with it. */
    private int freeAfter(int start, int end, boolean isSameWay, int duration) {
        if (!isSameWay) {
            return end + setup.clearance;
        }
        // Equal starts conflict even with headway 0.
        int byStart = setup.headway > 0 ? start + setup.headway : start + 1;
        int byEnd = end + setup.headway - duration;
        return byStart > byEnd ? byStart : byEnd;
    }

    /** The greatest start ahead of that of a booking at which one of this duration does not conflict with it. */
    private int freeBefore(int start, int end, boolean isSameWay, int duration) {
        if (!isSameWay) {
            return start - setup.clearance - duration;
        }
        int byStart = setup.headway > 0 ? start - setup.headway : start - 1;
        int byEnd = end - setup.headway - duration;
        return byStart < byEnd ? byStart : byEnd;
    }

    /** Whether a booking of the schedule conflicts with a new one. */
    private boolean clashes(int booking, boolean isInbound, int start, int duration) {
        boolean isSameWay = plan.inbound[booking] == isInbound;
        return start > freeBefore(plan.starts[booking], plan.ends[booking], isSameWay, duration)
                && start < freeAfter(plan.starts[booking], plan.ends[booking], isSameWay, duration);
    }

    private int firstClash(boolean isInbound, int start, int duration, int leftOut) {
        for (int i = 0; i < plan.bookings; i++) {
            if (i != leftOut && clashes(i, isInbound, start, duration)) {
                return i;
            }
        }
        return NONE;
    }

    /** The least start from from to last that conflicts with no booking but perhaps the one left out. */
    private int leastFreeStart(boolean isInbound, int from, int last, int duration, int leftOut) {
        int start = from;
        // The starts that one booking forbids have no gap, so each booking is jumped over once at most.
        for (int round = 0; round <= plan.bookings && start <= last; round++) {
            int before = start;
            for (int i = 0; i < plan.bookings; i++) {
                boolean isSameWay = plan.inbound[i] == isInbound;
                int after = freeAfter(plan.starts[i], plan.ends[i], isSameWay, duration);
                if (i != leftOut && start < after
                        && start > freeBefore(plan.starts[i], plan.ends[i], isSameWay, duration)) {
                    start = after;
                }
            }
            if (start == before) {
                return start;
            }
        }
        return NONE;
    }

    private int greatestFreeStart(boolean isInbound, int last, int duration) {
        int start = last;
        for (int round = 0; round <= plan.bookings && start >= 0; round++) {
            int clash = firstClash(isInbound, start, duration, NONE);
            if (clash == NONE) {
                return start;
            }
            boolean isSameWay = plan.inbound[clash] == isInbound;
            start = freeBefore(plan.starts[clash], plan.ends[clash], isSameWay, duration);
        }
        return NONE;
    }

    private int hindranceToMove(int booking, int start) {
        if (plan.starts[booking] <= plan.minute) {
            return 1;
        }
        if (start < plan.minute) {
            return 2;
        }
        int duration = plan.ends[booking] - plan.starts[booking];
        return firstClash(plan.inbound[booking], start, duration, booking) == NONE ? 0 : 3;
    }

    // ---- empty minutes

    /**
     * How many of the minutes from from to to lie behind all bookings of lower number and ahead of this one. All
     * empty minutes lie in such gaps, for the bookings stand in the order of their starts; the number behind the
     * last booking stands for the gap behind all of them.
     */
    private int gapBefore(int booking, int from, int to) {
        int first = from;
        for (int i = 0; i < booking; i++) {
            first = Math.max(first, plan.ends[i]);
        }
        int stop = booking < plan.bookings ? Math.min(plan.starts[booking], to + 1) : to + 1;
        return Math.max(0, stop - first);
    }

    private int countEmpty(int from, int to) {
        int sum = 0;
        for (int i = 0; i <= plan.bookings; i++) {
            sum += gapBefore(i, from, to);
        }
        return sum;
    }

    // ---- waiting requests

    private int servingStart(int request) {
        return startToServe(plan.waitingShips[request], plan.waitingInbound[request],
                plan.earliest[request], plan.latest[request]);
    }

    private int startToServe(int ship, boolean isInbound, int earliest, int latest) {
        if (plan.bookings == MAX_BOOKINGS) {
            return NONE;
        }
        int from = earliest > plan.minute ? earliest : plan.minute;
        return leastFreeStart(isInbound, from, latest, transitOf(ship), NONE);
    }

    private int serveWaiting() {
        int served = 0;
        int request = 0;
        for (int unvisited = plan.requests; unvisited > 0; unvisited--) {
            int ship = plan.waitingShips[request];
            boolean isInbound = plan.waitingInbound[request];
            int start = startToServe(ship, isInbound, plan.earliest[request], plan.latest[request]);
            if (start == NONE) {
                request++;
            } else {
                plan.removeRequest(request);
                bookNow(ship, isInbound, start);
                served++;
            }
        }
        plan.served += served;
        return served;
    }

    // ---- selection

    /** Request 0 has the highest bit: so the greater of two sets has the lowest request in which they differ. */
    private int bitOf(int request) {
        return 1 << (plan.requests - 1 - request);
    }

    private int bestSelection() {
        findExcluded();
        int best = 0;
        int bestSum = 0;
        for (int set = (1 << plan.requests) - 1; set > 0; set--) {
            int sum = isSelection(set) ? valueOf(set) : 0;
            if (sum > bestSum) {
                best = set;
                bestSum = sum;
            }
        }
        return best;
    }

    private boolean isSelection(int set) {
        for (int i = 0; i < plan.requests; i++) {
            if ((set & bitOf(i)) != 0 && (set & excluded[i]) != 0) {
                return false;
            }
        }
        return true;
    }

    private int valueOf(int set) {
        int sum = 0;
        for (int i = 0; i < plan.requests; i++) {
            if ((set & bitOf(i)) != 0) {
                sum += setup.ships[plan.waitingShips[i]].weight;
            }
        }
        return sum;
    }

    /** Notes for each request with which ones it can't be selected: with itself if the schedule forbids it. */
    private void findExcluded() {
        for (int i = 0; i < plan.requests; i++) {
            int duration = transitOf(plan.waitingShips[i]);
            int clash = firstClash(plan.waitingInbound[i], plan.earliest[i], duration, NONE);
            excluded[i] = clash == NONE ? 0 : bitOf(i);
            for (int j = 0; j < plan.requests; j++) {
                if (j != i && requestsClash(i, j)) {
                    excluded[i] |= bitOf(j);
                }
            }
        }
    }

    private boolean requestsClash(int one, int other) {
        boolean isSameWay = plan.waitingInbound[one] == plan.waitingInbound[other];
        int start = plan.earliest[one];
        int end = start + transitOf(plan.waitingShips[one]);
        int otherStart = plan.earliest[other];
        int otherDuration = transitOf(plan.waitingShips[other]);
        return otherStart > freeBefore(start, end, isSameWay, otherDuration)
                && otherStart < freeAfter(start, end, isSameWay, otherDuration);
    }

    // ---- faults of changes, and the changes themselves

    private int bookFault(int ship, boolean isInbound, int start) {
        if (!isShip(ship)) {
            return BAD_INDEX;
        }
        if (!isWithin(start, 0, LAST_START)) {
            return BAD_ARGUMENT;
        }
        boolean isFree = start >= plan.minute && plan.bookings < MAX_BOOKINGS
                && firstClash(isInbound, start, transitOf(ship), NONE) == NONE;
        return isFree ? FINE : BAD_STATE;
    }

    private int bookNow(int ship, boolean isInbound, int start) {
        int end = start + transitOf(ship);
        plan.insertBooking(ship, isInbound, start, end);
        plan.made++;
        return end;
    }

    private int requestFault(int ship, boolean isInbound, int earliest, int latest) {
        if (!isShip(ship)) {
            return BAD_INDEX;
        }
        if (!isWithin(earliest, 0, LAST_START) || !isWithin(latest, earliest, LAST_START)) {
            return BAD_ARGUMENT;
        }
        boolean hasPlace = plan.requests < MAX_REQUESTS || startToServe(ship, isInbound, earliest, latest) != NONE;
        return hasPlace ? FINE : BAD_STATE;
    }

    private int requestNow(int ship, boolean isInbound, int earliest, int latest) {
        int start = startToServe(ship, isInbound, earliest, latest);
        if (start == NONE) {
            plan.addRequest(ship, isInbound, earliest, latest);
        } else {
            bookNow(ship, isInbound, start);
        }
        return start;
    }

    private int cancelFault(int booking) {
        if (!isBooking(booking)) {
            return BAD_INDEX;
        }
        return plan.starts[booking] <= plan.minute ? BAD_STATE : FINE;
    }

    private int cancelNow(int booking) {
        plan.removeBooking(booking);
        plan.cancelled++;
        return serveWaiting();
    }

    private int moveFault(int booking, int start) {
        if (!isBooking(booking)) {
            return BAD_INDEX;
        }
        if (!isWithin(start, 0, LAST_START)) {
            return BAD_ARGUMENT;
        }
        return hindranceToMove(booking, start) == 0 ? FINE : BAD_STATE;
    }

    private int moveNow(int booking, int start) {
        int ship = plan.ships[booking];
        boolean isInbound = plan.inbound[booking];
        int duration = plan.ends[booking] - plan.starts[booking];
        plan.removeBooking(booking);
        plan.insertBooking(ship, isInbound, start, start + duration);
        return serveWaiting();
    }

    private int freezeNow(int thickness) {
        plan.thickness = thickness;
        return serveWaiting();
    }

    private int advanceFault(int minutes) {
        if (!isWithin(minutes, 1, MAX_ADVANCE)) {
            return BAD_ARGUMENT;
        }
        return plan.minute + minutes > LAST_MINUTE ? BAD_STATE : FINE;
    }

    private int advanceNow(int minutes) {
        int before = plan.minute;
        plan.minute += minutes;
        int finished = 0;
        for (int i = 0; i < plan.bookings; i++) {
            if (plan.ends[i] > before && plan.ends[i] <= plan.minute) {
                finished++;
            }
        }
        return finished;
    }

    private void remember() {
        latestPast = latestPast == UNDOABLE - 1 ? 0 : latestPast + 1;
        past[latestPast].copyFrom(plan);
        if (pastCount < UNDOABLE) {
            pastCount++;
        }
    }

    // ---- setup texts

    /** Reads the input into the draft, so that a text with an error leaves the setup as it is. */
    private boolean readSetup() {
        input.startReading();
        draft.shipCount = 0;
        if (!readSettings()) {
            return false;
        }
        for (int i = 0; i <= MAX_SHIPS; i++) {
            if (i > 0 && input.kind == Input.END) {
                return true;
            }
            if (!readShip()) {
                return false;
            }
        }
        return true;
    }

    private boolean readSettings() {
        if (!input.takeWord("channel") || !input.takeNumber(0, MAX_GAP)) {
            return false;
        }
        draft.headway = input.number;
        if (!input.takeNumber(0, MAX_GAP)) {
            return false;
        }
        draft.clearance = input.number;
        if (!input.takeNumber(0, MAX_ICE)) {
            return false;
        }
        draft.thickness = input.number;
        return input.takeSemicolon();
    }

    private boolean readShip() {
        if (input.isWord("ship") && draft.shipCount == MAX_SHIPS) {
            return input.fail(TOO_MANY);
        }
        if (!input.takeWord("ship")) {
            return false;
        }
        Ship ship = draft.ships[draft.shipCount];
        if (!readNewName(ship) || !input.takeNumber(1, MAX_TIME)) {
            return false;
        }
        ship.time = input.number;
        if (!input.takeNumber(0, MAX_ICE)) {
            return false;
        }
        ship.iceClass = input.number;
        if (!input.takeNumber(1, MAX_WEIGHT)) {
            return false;
        }
        ship.weight = input.number;
        draft.shipCount++;
        return input.takeSemicolon();
    }

    private boolean readNewName(Ship ship) {
        if (input.kind != Input.WORD) {
            return input.fail(WRONG_TOKEN);
        }
        int length = input.at - input.tokenStart;
        if (length > MAX_NAME || draft.shipNamed(input.bytes, input.tokenStart, length) != NONE) {
            return input.fail(WRONG_NAME);
        }
        ship.takeName(input.bytes, input.tokenStart, length);
        input.readToken();
        return true;
    }

    private void startWithDraft() {
        Setup former = setup;
        setup = draft;
        draft = former;
        plan.startAnew(setup.thickness);
        pastCount = 0;
        for (int i = 0; i < SLOTS; i++) {
            isSaved[i] = false;
        }
    }

    // ---- scripts

    private boolean readScript() {
        input.startReading();
        script.count = 0;
        for (int i = 0; i <= MAX_COMMANDS && input.kind != Input.END; i++) {
            if (!readCommand()) {
                return false;
            }
        }
        return true;
    }

    private boolean readCommand() {
        int verb = verbRead();
        if (verb == NONE) {
            return input.fail(WRONG_TOKEN);
        }
        if (script.count == MAX_COMMANDS) {
            return input.fail(TOO_MANY);
        }
        int command = script.count;
        script.verbs[command] = verb;
        input.readToken();
        if ((verb == BOOK || verb == REQUEST) && !readShipAndWay(command)) {
            return false;
        }
        if (!input.takeNumber(0, Input.MAX_NUMBER)) {
            return false;
        }
        script.firsts[command] = input.number;
        if ((verb == MOVE || verb == REQUEST) && !input.takeNumber(0, Input.MAX_NUMBER)) {
            return false;
        }
        script.seconds[command] = input.number;
        script.count++;
        return input.takeSemicolon();
    }

    private int verbRead() {
        if (input.isWord("book")) {
            return BOOK;
        }
        if (input.isWord("request")) {
            return REQUEST;
        }
        if (input.isWord("cancel")) {
            return CANCEL;
        }
        if (input.isWord("move")) {
            return MOVE;
        }
        if (input.isWord("withdraw")) {
            return WITHDRAW;
        }
        if (input.isWord("ice")) {
            return ICE;
        }
        return input.isWord("advance") ? ADVANCE : NONE;
    }

    private boolean readShipAndWay(int command) {
        if (input.kind != Input.WORD) {
            return input.fail(WRONG_TOKEN);
        }
        int ship = setup.shipNamed(input.bytes, input.tokenStart, input.at - input.tokenStart);
        if (ship == NONE) {
            return input.fail(WRONG_NAME);
        }
        script.ships[command] = ship;
        input.readToken();
        boolean isInbound = input.isWord("in");
        if (!isInbound && !input.isWord("out")) {
            return input.fail(WRONG_TOKEN);
        }
        script.inbound[command] = isInbound;
        input.readToken();
        return true;
    }

    /** What the method of a command would throw now. */
    private int faultOf(int command) {
        int first = script.firsts[command];
        int second = script.seconds[command];
        switch (script.verbs[command]) {
            case BOOK:
                return bookFault(script.ships[command], script.inbound[command], first);
            case REQUEST:
                return requestFault(script.ships[command], script.inbound[command], first, second);
            case CANCEL:
                return cancelFault(first);
            case MOVE:
                return moveFault(first, second);
            case WITHDRAW:
                return isRequest(first) ? FINE : BAD_INDEX;
            case ICE:
                return isWithin(first, 0, MAX_ICE) ? FINE : BAD_ARGUMENT;
            default:
                return advanceFault(first);
        }
    }

    private void execute(int command) {
        int first = script.firsts[command];
        int second = script.seconds[command];
        switch (script.verbs[command]) {
            case BOOK:
                bookNow(script.ships[command], script.inbound[command], first);
                break;
            case REQUEST:
                requestNow(script.ships[command], script.inbound[command], first, second);
                break;
            case CANCEL:
                cancelNow(first);
                break;
            case MOVE:
                moveNow(first, second);
                break;
            case WITHDRAW:
                plan.removeRequest(first);
                break;
            case ICE:
                freezeNow(first);
                break;
            default:
                advanceNow(first);
                break;
        }
    }

    // ---- output

    private void writeByte(int letter) {
        if (outputLength < output.length) {
            output[outputLength] = (byte) letter;
            outputLength++;
        }
    }

    private void writeNumber(int number) {
        for (int unit = 1000; unit > 0; unit /= 10) {
            if (number >= unit || unit == 1) {
                writeByte('0' + number / unit % 10);
            }
        }
    }

    /** The input buffer, and the reading of its tokens from left to right. */
    static final class Input {
        static final int END = 0;
        static final int WORD = 1;
        static final int NUMBER = 2;
        static final int SEMICOLON = 3;
        static final int INVALID = 4;
        static final int SPACE = 5;
        static final int MAX_WORD = 8;
        static final int MAX_DIGITS = 4;
        static final int MAX_NUMBER = 9999;

        final byte[] bytes = new byte[MAX_TEXT];
        int length = 0;
        int errorCode = 0;
        int errorPosition = NONE;
        /** The token that is read stands from tokenStart up to at. */
        int kind = END;
        int tokenStart = 0;
        int at = 0;
        int number = 0;

        void putByte(int value) {
            if (length < bytes.length) {
                bytes[length] = (byte) value;
                length++;
            }
        }

        void putFour(int value) {
            putByte(value >>> 24);
            putByte(value >>> 16);
            putByte(value >>> 8);
            putByte(value);
        }

        void startReading() {
            errorCode = 0;
            errorPosition = NONE;
            at = 0;
            readToken();
        }

        void readToken() {
            while (at < length && kindOf(bytes[at]) == SPACE) {
                at++;
            }
            tokenStart = at;
            if (at >= length) {
                kind = END;
                return;
            }
            kind = kindOf(bytes[at]);
            at++;
            if (kind == WORD || kind == NUMBER) {
                readRun();
            }
        }

        void readRun() {
            while (at < length && kindOf(bytes[at]) == kind) {
                at++;
            }
            int limit = kind == WORD ? MAX_WORD : MAX_DIGITS;
            if (at - tokenStart > limit) {
                kind = INVALID;
            }
        }

        static int kindOf(int letter) {
            if (letter >= 'a' && letter <= 'z') {
                return WORD;
            }
            if (letter >= '0' && letter <= '9') {
                return NUMBER;
            }
            if (letter == ';') {
                return SEMICOLON;
            }
            return letter == ' ' || letter == '\n' ? SPACE : INVALID;
        }

        /** Answers false, so that a reader can end with it. */
        boolean fail(int code) {
            errorCode = code;
            errorPosition = tokenStart;
            return false;
        }

        boolean isWord(String word) {
            if (kind != WORD || at - tokenStart != word.length()) {
                return false;
            }
            for (int i = 0; i < word.length(); i++) {
                if (bytes[tokenStart + i] != word.charAt(i)) {
                    return false;
                }
            }
            return true;
        }

        boolean takeWord(String word) {
            if (!isWord(word)) {
                return fail(WRONG_TOKEN);
            }
            readToken();
            return true;
        }

        boolean takeSemicolon() {
            if (kind != SEMICOLON) {
                return fail(WRONG_TOKEN);
            }
            readToken();
            return true;
        }

        boolean takeNumber(int least, int greatest) {
            if (kind != NUMBER) {
                return fail(WRONG_TOKEN);
            }
            number = 0;
            for (int i = tokenStart; i < at; i++) {
                number = number * 10 + (bytes[i] - '0');
            }
            if (number < least || number > greatest) {
                return fail(OUT_OF_RANGE);
            }
            readToken();
            return true;
        }
    }

    static final class Ship {
        final byte[] name = new byte[MAX_NAME];
        int nameLength = 0;
        int time = 0;
        int iceClass = 0;
        int weight = 0;

        void takeName(byte[] text, int from, int length) {
            nameLength = length < MAX_NAME ? length : MAX_NAME;
            for (int i = 0; i < nameLength; i++) {
                name[i] = text[from + i];
            }
        }

        boolean hasName(byte[] text, int from, int length) {
            if (length != nameLength) {
                return false;
            }
            for (int i = 0; i < nameLength; i++) {
                if (name[i] != text[from + i]) {
                    return false;
                }
            }
            return true;
        }
    }

    /** What a setup text says; nothing but another setup changes it. */
    static final class Setup {
        int headway = 0;
        int clearance = 0;
        int thickness = 0;
        int shipCount = 0;
        final Ship[] ships = new Ship[MAX_SHIPS];

        Setup() {
            for (int i = 0; i < MAX_SHIPS; i++) {
                ships[i] = new Ship();
            }
        }

        int shipNamed(byte[] text, int from, int length) {
            for (int i = 0; i < shipCount; i++) {
                if (ships[i].hasName(text, from, length)) {
                    return i;
                }
            }
            return NONE;
        }
    }

    /** The commands of the script that was read last; what a command does not take is left over from others. */
    static final class Script {
        int count = 0;
        final int[] verbs = new int[MAX_COMMANDS];
        final int[] ships = new int[MAX_COMMANDS];
        final boolean[] inbound = new boolean[MAX_COMMANDS];
        final int[] firsts = new int[MAX_COMMANDS];
        final int[] seconds = new int[MAX_COMMANDS];
    }

    /** All that undoing and restoring bring back. */
    static final class Plan {
        int thickness = 0;
        int minute = 0;
        int made = 0;
        int cancelled = 0;
        int served = 0;
        int bookings = 0;
        final int[] ships = new int[MAX_BOOKINGS];
        final boolean[] inbound = new boolean[MAX_BOOKINGS];
        final int[] starts = new int[MAX_BOOKINGS];
        final int[] ends = new int[MAX_BOOKINGS];
        int requests = 0;
        final int[] waitingShips = new int[MAX_REQUESTS];
        final boolean[] waitingInbound = new boolean[MAX_REQUESTS];
        final int[] earliest = new int[MAX_REQUESTS];
        final int[] latest = new int[MAX_REQUESTS];

        void startAnew(int ice) {
            thickness = ice;
            minute = 0;
            made = 0;
            cancelled = 0;
            served = 0;
            bookings = 0;
            requests = 0;
        }

        void copyFrom(Plan other) {
            thickness = other.thickness;
            minute = other.minute;
            made = other.made;
            cancelled = other.cancelled;
            served = other.served;
            bookings = other.bookings;
            for (int i = 0; i < bookings; i++) {
                putBooking(i, other.ships[i], other.inbound[i], other.starts[i], other.ends[i]);
            }
            requests = other.requests;
            for (int i = 0; i < requests; i++) {
                putRequest(i, other.waitingShips[i], other.waitingInbound[i], other.earliest[i], other.latest[i]);
            }
        }

        void putBooking(int place, int ship, boolean isInbound, int start, int end) {
            ships[place] = ship;
            inbound[place] = isInbound;
            starts[place] = start;
            ends[place] = end;
        }

        void insertBooking(int ship, boolean isInbound, int start, int end) {
            if (bookings >= MAX_BOOKINGS) {
                return;
            }
            int place = bookings;
            while (place > 0 && starts[place - 1] > start) {
                putBooking(place, ships[place - 1], inbound[place - 1], starts[place - 1], ends[place - 1]);
                place--;
            }
            putBooking(place, ship, isInbound, start, end);
            bookings++;
        }

        void removeBooking(int booking) {
            for (int i = booking + 1; i < bookings; i++) {
                putBooking(i - 1, ships[i], inbound[i], starts[i], ends[i]);
            }
            bookings--;
        }

        void putRequest(int place, int ship, boolean isInbound, int from, int to) {
            waitingShips[place] = ship;
            waitingInbound[place] = isInbound;
            earliest[place] = from;
            latest[place] = to;
        }

        void addRequest(int ship, boolean isInbound, int from, int to) {
            if (requests < MAX_REQUESTS) {
                putRequest(requests, ship, isInbound, from, to);
                requests++;
            }
        }

        void removeRequest(int request) {
            for (int i = request + 1; i < requests; i++) {
                putRequest(i - 1, waitingShips[i], waitingInbound[i], earliest[i], latest[i]);
            }
            requests--;
        }
    }
}
