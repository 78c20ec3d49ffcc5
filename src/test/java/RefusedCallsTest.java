import java.util.List;
import java.util.function.Function;
import java.util.function.Supplier;

/**
 * Each call that the document refuses, with the exception that its promise names (the first of several), and that a
 * refused call leaves all else as it was: an object that was refused something is compared with one that was not.
 */
public final class RefusedCallsTest {
    private static final int MAX = Integer.MAX_VALUE;
    private static final int MIN = Integer.MIN_VALUE;
    private static final String INDEX = "IndexOutOfBoundsException";
    private static final String ARGUMENT = "IllegalArgumentException";
    private static final String STATE = "IllegalStateException";
    private static final String ELEMENT = "NoSuchElementException";

    private interface Call {
        Object on(ChannelSchedule x);
    }

    private final Supplier<ChannelSchedule> recipe;
    private final int bufferLength;
    private final List<Function<ChannelSchedule, String>> looks;
    private final List<String> due;

    private RefusedCallsTest(String name, Supplier<ChannelSchedule> recipe, int bufferLength) {
        Check.part(name);
        this.recipe = recipe;
        this.bufferLength = bufferLength;
        looks = List.of(Whole::state, Whole::output, Whole::history, x -> Whole.saved(x, 0), x -> Whole.saved(x, 1));
        due = looks.stream().map(look -> look.apply(recipe.get())).toList();
    }

    public static void main(String[] args) {
        newObject();
        busy();
        full();
        crowdedList();
        late();
        crammedBuffer();
        texts();
        Check.end("RefusedCallsTest");
    }

    /** The call is refused, and neither the state nor anything else has changed. */
    private void refused(String exception, Call call) {
        for (int i = 0; i < looks.size(); i++) {
            compare(due.get(i), exception, call, looks.get(i));
        }
        compare(Whole.errors(recipe.get()), exception, call, Whole::errors);
        compare(Whole.buffer(recipe.get(), bufferLength), exception, call, x -> Whole.buffer(x, bufferLength));
    }

    /** The text has an error: only the buffer, the error code and the error position change. */
    private void refusedText(String text, Call call, int code, int position) {
        Call giveAndCall = x -> call.on(Given.give(x, text));
        for (int i = 0; i < looks.size(); i++) {
            compare(due.get(i), ARGUMENT, giveAndCall, looks.get(i));
        }
        compare("code " + code + "\nposition " + position + "\n", ARGUMENT, giveAndCall, Whole::errors);
        ChannelSchedule emptied = recipe.get();
        emptied.truncate(0);
        compare(Whole.buffer(emptied, 0), ARGUMENT, giveAndCall, x -> Whole.buffer(x, 0));
    }

    private void compare(String whole, String exception, Call call, Function<ChannelSchedule, String> look) {
        ChannelSchedule x = recipe.get();
        Check.due("throws " + exception, () -> call.on(x));
        Check.same(whole, look.apply(x), "after " + exception + " the object");
    }

    // ---- a new object

    private static void newObject() {
        RefusedCallsTest t = new RefusedCallsTest("new object", ChannelSchedule::new, 0);
        t.refused(ARGUMENT, x -> x.truncate(-1));
        t.refused(ARGUMENT, x -> x.truncate(1));
        t.refused(ELEMENT, ChannelSchedule::findShip);
        t.refused(INDEX, x -> x.transitTime(4));
        t.refused(INDEX, x -> x.iceClass(4));
        t.refused(INDEX, x -> x.weight(4));
        t.refused(INDEX, x -> x.shipNameByte(4, 0));
        t.refused(INDEX, x -> x.shipNameByte(3, 3));
        t.refused(INDEX, x -> x.bookedShip(0));
        t.refused(INDEX, x -> x.startMinute(0));
        t.refused(INDEX, x -> x.endMinute(0));
        t.refused(INDEX, x -> x.isInbound(0));
        t.refused(INDEX, x -> x.isFinished(0));
        t.refused(INDEX, x -> x.isUnderWay(0));
        t.refused(INDEX, x -> x.slack(0));
        t.refused(INDEX, x -> x.whyNotMovable(0, 0));
        t.refused(INDEX, x -> x.servedWithout(0));
        t.refused(INDEX, x -> x.requestedShip(0));
        t.refused(INDEX, x -> x.isRequestInbound(0));
        t.refused(INDEX, x -> x.earliestRequested(0));
        t.refused(INDEX, x -> x.latestRequested(0));
        t.refused(INDEX, x -> x.whyNotFeasible(0));
        t.refused(INDEX, x -> x.isSelected(0));
        t.refused(INDEX, x -> x.feasibleStart(0));
        t.refused(ELEMENT, x -> x.bestCancellation(3, true, 999));
        t.refused(INDEX, x -> x.cancel(0));
        t.refused(INDEX, x -> x.moveBooking(0, 0));
        t.refused(INDEX, x -> x.withdraw(0));
        t.refused(STATE, ChannelSchedule::undo);
        t.refused(STATE, x -> x.restore(0));
        t.refused(STATE, x -> x.restore(1));
        t.refused(INDEX, x -> x.outputByte(0));
        t.refusedText("", ChannelSchedule::load, 1, 0);
        t.refusedText("ice", ChannelSchedule::runScript, 1, 3);
    }

    // ---- an object with something everywhere

    /**
     * Minute 35, five bookings: ann in 10-24 is finished, bo in 30-50 under way, abcdef out 100-130, ann in 190-206
     * and ann out 220-234 to come; two requests wait, "bo" is in the buffer, and six changes can be undone.
     */
    private static ChannelSchedule busyOne() {
        ChannelSchedule x = Given.loaded("channel 5 10 2;ship ann 10 0 3;ship bo 20 2 5;ship abcdef 30 9 7;");
        x.book(0, true, 10);
        x.book(1, true, 30);
        x.save(0);
        x.book(2, false, 100);
        x.book(0, false, 200);
        x.request(1, true, 100, 105);
        x.request(0, true, 190, 195);
        x.request(2, false, 5, 20);
        x.setThickness(3);
        x.writeSchedule();
        x.moveBooking(3, 220);
        x.advance(35);
        x.save(1);
        x.book(1, true, 300);
        x.cancel(5);
        Check.argument(Given.give(x, "book")::runScript);
        Given.give(x, "bo");
        return x;
    }

    private static void busy() {
        RefusedCallsTest t = new RefusedCallsTest("busy object", RefusedCallsTest::busyOne, 2);
        ChannelSchedule x = busyOne();
        Check.due("ann>10-24 bo>30-50 abcdef<100-130 ann>190-206 ann<220-234", () -> Given.written(x));
        Check.due("35 3 2 6 1 1", () -> x.minute() + " " + x.thickness() + " " + x.requestCount() + " "
                + x.bookingsMade() + " " + x.bookingsCancelled() + " " + x.requestsServed());
        t.busyShips();
        t.busyBookings();
        t.busyChanges();
        t.busyTexts();
    }

    private void busyShips() {
        refused(ARGUMENT, x -> x.truncate(3));
        refused(ARGUMENT, x -> x.truncate(-1));
        for (int i : new int[] {-1, 3, 10, MIN, MAX}) {
            refused(INDEX, x -> x.transitTime(i));
            refused(INDEX, x -> x.iceClass(i));
            refused(INDEX, x -> x.weight(i));
            refused(INDEX, x -> x.shipNameByte(i, 0));
            refused(INDEX, x -> x.conflictCount(i, true, 0));
            refused(INDEX, x -> x.firstConflict(i, true, 0));
            refused(INDEX, x -> x.earliestStart(i, true, 0));
            refused(INDEX, x -> x.latestStart(i, true, 0));
            refused(INDEX, x -> x.bestCancellation(i, true, 0));
            refused(INDEX, x -> x.book(i, true, 500));
            refused(INDEX, x -> x.request(i, true, 500, 500));
        }
        refused(INDEX, x -> x.shipNameByte(0, -1));
        refused(INDEX, x -> x.shipNameByte(0, 3));
        refused(INDEX, x -> x.shipNameByte(1, 2));
        refused(INDEX, x -> x.shipNameByte(2, 6));
        for (int i : new int[] {-1, 1000, MIN, MAX}) {
            refused(ARGUMENT, x -> x.conflictCount(0, true, i));
            refused(ARGUMENT, x -> x.firstConflict(0, true, i));
            refused(ARGUMENT, x -> x.earliestStart(0, true, i));
            refused(ARGUMENT, x -> x.bestCancellation(0, true, i));
            refused(INDEX, x -> x.conflictCount(3, true, i));
            refused(INDEX, x -> x.firstConflict(3, true, i));
            refused(INDEX, x -> x.earliestStart(3, true, i));
            refused(INDEX, x -> x.bestCancellation(3, true, i));
        }
        for (int i : new int[] {-1, 1201, MIN, MAX}) {
            refused(ARGUMENT, x -> x.latestStart(0, true, i));
            refused(INDEX, x -> x.latestStart(-1, true, i));
            refused(ARGUMENT, x -> x.occupancy(i));
            refused(ARGUMENT, x -> x.emptyMinutes(i, 1200));
            refused(ARGUMENT, x -> x.emptyMinutes(0, i));
            refused(ARGUMENT, x -> x.longestEmptyRun(i, 1200));
            refused(ARGUMENT, x -> x.longestEmptyRun(0, i));
        }
        refused(ARGUMENT, x -> x.emptyMinutes(6, 5));
        refused(ARGUMENT, x -> x.longestEmptyRun(6, 5));
        refused(ARGUMENT, x -> x.emptyMinutes(1200, 1199));
        refused(ARGUMENT, x -> x.longestEmptyRun(1200, 1199));
    }

    private void busyBookings() {
        for (int i : new int[] {-1, 5, 6, 20, MIN, MAX}) {
            refused(INDEX, x -> x.bookedShip(i));
            refused(INDEX, x -> x.startMinute(i));
            refused(INDEX, x -> x.endMinute(i));
            refused(INDEX, x -> x.isInbound(i));
            refused(INDEX, x -> x.isFinished(i));
            refused(INDEX, x -> x.isUnderWay(i));
            refused(INDEX, x -> x.slack(i));
            refused(INDEX, x -> x.servedWithout(i));
            refused(INDEX, x -> x.whyNotMovable(i, 500));
            refused(INDEX, x -> x.whyNotMovable(i, -1));
            refused(INDEX, x -> x.cancel(i));
            refused(INDEX, x -> x.moveBooking(i, 500));
            refused(INDEX, x -> x.moveBooking(i, 1000));
        }
        for (int i : new int[] {-1, 2, 8, MIN, MAX}) {
            refused(INDEX, x -> x.requestedShip(i));
            refused(INDEX, x -> x.isRequestInbound(i));
            refused(INDEX, x -> x.earliestRequested(i));
            refused(INDEX, x -> x.latestRequested(i));
            refused(INDEX, x -> x.whyNotFeasible(i));
            refused(INDEX, x -> x.isSelected(i));
            refused(INDEX, x -> x.feasibleStart(i));
            refused(INDEX, x -> x.withdraw(i));
        }
        for (int i : new int[] {-1, 1000, MIN, MAX}) {
            refused(ARGUMENT, x -> x.whyNotMovable(2, i));
            // the finished one: whyNotMovable() would answer 1, but the range comes first
            refused(ARGUMENT, x -> x.whyNotMovable(0, i));
            refused(ARGUMENT, x -> x.moveBooking(2, i));
            refused(ARGUMENT, x -> x.moveBooking(0, i));
        }
        // "ann>10-24 bo>30-50 abcdef<100-130 ann<200-214" was written
        for (int i : new int[] {-1, 46, 47, 320, MIN, MAX}) {
            refused(INDEX, x -> x.outputByte(i));
        }
        for (int i : new int[] {-1, 2, MIN, MAX}) {
            refused(INDEX, x -> x.save(i));
            refused(INDEX, x -> x.restore(i));
        }
    }

    private void busyChanges() {
        // before the current minute; in conflict; both
        refused(STATE, x -> x.book(0, true, 34));
        refused(STATE, x -> x.book(0, false, 35));
        refused(STATE, x -> x.book(0, false, 20));
        for (int i : new int[] {-1, 1000, MIN, MAX}) {
            refused(ARGUMENT, x -> x.book(0, true, i));
            refused(INDEX, x -> x.book(3, true, i));
            refused(ARGUMENT, x -> x.request(0, true, i, 999));
            refused(ARGUMENT, x -> x.request(0, true, 0, i));
            refused(INDEX, x -> x.request(-1, true, i, i));
        }
        refused(ARGUMENT, x -> x.request(0, true, 500, 499));
        refused(ARGUMENT, x -> x.request(0, true, 999, 0));
        // finished; under way
        refused(STATE, x -> x.cancel(0));
        refused(STATE, x -> x.cancel(1));
        refused(STATE, x -> x.moveBooking(0, 500));
        refused(STATE, x -> x.moveBooking(1, 500));
        refused(STATE, x -> x.moveBooking(1, 30));
        // before the current minute; in conflict
        refused(STATE, x -> x.moveBooking(3, 34));
        refused(STATE, x -> x.moveBooking(3, 129));
        for (int i : new int[] {-1, 10, MIN, MAX}) {
            refused(ARGUMENT, x -> x.setThickness(i));
        }
        for (int i : new int[] {0, -1, 501, 1166, MIN, MAX}) {
            refused(ARGUMENT, x -> x.advance(i));
        }
    }

    private void busyTexts() {
        refusedText("", ChannelSchedule::load, 1, 0);
        refusedText("channel 31 0 0;ship a 1 0 1;", ChannelSchedule::load, 2, 8);
        refusedText("channel 0 0 0;ship a 1 0 1;ship a 1 0 1;", ChannelSchedule::load, 3, 32);
        refusedText("channel 0 0 0;ship a 1 0 1;ship b 1 0 1", ChannelSchedule::load, 1, 39);
        StringBuilder eleven = new StringBuilder("channel 0 0 0;");
        for (char c = 'a'; c <= 'k'; c++) {
            eleven.append("ship ").append(c).append(" 1 0 1;");
        }
        refusedText(eleven.toString(), ChannelSchedule::load, 4, 14 + 130);
        refusedText("book ann in 500;ice 5;advance 1", ChannelSchedule::runScript, 1, 31);
        refusedText("ice 5;book eve in 500;", ChannelSchedule::runScript, 3, 11);
        refusedText("ice 5;".repeat(31), ChannelSchedule::runScript, 4, 180);
    }

    // ---- 20 bookings, 8 requests

    private static ChannelSchedule fullOne() {
        ChannelSchedule x = Given.full();
        for (int i = 0; i < 8; i++) {
            x.request(i % 2, i % 3 == 0, 10 + 2 * i, 20 + 2 * i);
        }
        x.save(1);
        x.writeSchedule();
        return Given.give(x, "a");
    }

    private static void full() {
        RefusedCallsTest t = new RefusedCallsTest("full object", RefusedCallsTest::fullOne, 1);
        ChannelSchedule x = fullOne();
        Check.due("20 8", () -> x.bookingCount() + " " + x.requestCount());
        t.refused(STATE, y -> y.book(0, true, 900));
        t.refused(STATE, y -> y.book(1, false, 10));
        t.refused(ARGUMENT, y -> y.book(0, true, 1000));
        t.refused(INDEX, y -> y.book(2, true, 900));
        t.refused(STATE, y -> y.request(0, true, 900, 900));
        t.refused(STATE, y -> y.request(0, true, 0, 999));
        t.refused(ARGUMENT, y -> y.request(0, true, 900, 1000));
        t.refused(INDEX, y -> y.request(2, true, 900, 900));
        t.refused(STATE, y -> y.moveBooking(0, 12));
        t.refused(INDEX, y -> y.moveBooking(20, 900));
        t.refused(INDEX, y -> y.cancel(20));
        t.refused(INDEX, y -> y.slack(20));
        t.refused(INDEX, y -> y.withdraw(8));
        t.refused(INDEX, y -> y.isSelected(8));
        t.refused(STATE, y -> y.restore(0));
        t.refused(ARGUMENT, y -> y.truncate(2));
        t.refusedText("cancel 0;cancel", ChannelSchedule::runScript, 1, 15);
    }

    // ---- 8 requests, but few bookings

    private static ChannelSchedule crowdedOne() {
        ChannelSchedule x = Given.three();
        x.book(1, true, 100);
        for (int i = 0; i < 8; i++) {
            x.request(i % 3, false, 100 + i, 110 + i);
        }
        x.save(0);
        return x;
    }

    private static void crowdedList() {
        RefusedCallsTest t = new RefusedCallsTest("full waiting list", RefusedCallsTest::crowdedOne, 0);
        ChannelSchedule x = crowdedOne();
        Check.due("1 8", () -> x.bookingCount() + " " + x.requestCount());
        t.refused(STATE, y -> y.request(0, false, 81, 129));
        t.refused(STATE, y -> y.request(0, true, 100, 100));
        t.refused(ARGUMENT, y -> y.request(0, false, 129, 128));
        t.refused(INDEX, y -> y.request(3, false, 81, 129));
        t.refused(INDEX, y -> y.withdraw(8));
        // one minute more, and it is feasible: then the full list does not matter
        Check.due(130, () -> crowdedOne().request(0, false, 81, 130));
        Check.due(80, () -> crowdedOne().request(0, false, 80, 129));
    }

    // ---- the last minute

    private static ChannelSchedule lateOne() {
        ChannelSchedule x = Given.three();
        x.book(0, true, 500);
        x.book(2, true, 999);
        x.request(1, false, 999, 999);
        x.advance(500);
        x.save(0);
        x.advance(500);
        x.advance(200);
        x.save(1);
        x.writeSchedule();
        return Given.give(x, "abc");
    }

    private static void late() {
        RefusedCallsTest t = new RefusedCallsTest("minute 1200", RefusedCallsTest::lateOne, 3);
        Check.due(1200, () -> lateOne().minute());
        t.refused(STATE, x -> x.advance(1));
        t.refused(STATE, x -> x.advance(500));
        t.refused(ARGUMENT, x -> x.advance(0));
        t.refused(ARGUMENT, x -> x.advance(501));
        t.refused(STATE, x -> x.book(0, true, 0));
        t.refused(STATE, x -> x.book(0, true, 998));
        t.refused(STATE, x -> x.book(0, true, 999));
        t.refused(STATE, x -> x.cancel(0));
        t.refused(STATE, x -> x.cancel(1));
        t.refused(STATE, x -> x.moveBooking(1, 999));
        t.refused(ELEMENT, ChannelSchedule::findShip);
        Check.due(-1, () -> lateOne().request(0, true, 0, 999));
    }

    // ---- the input buffer

    private static void crammedBuffer() {
        for (int length : new int[] {581, 582, 590, 599, 600}) {
            String text = "advance 1;" + " ".repeat(length - 10);
            RefusedCallsTest t = new RefusedCallsTest("buffer of " + length,
                    () -> Given.give(new ChannelSchedule(), text), length);
            t.refused(STATE, x -> x.append(0, 0, 0, 0, 0));
            t.refused(STATE, x -> x.append(MAX, MIN, -1, 1, 'a'));
            t.refused(ARGUMENT, x -> x.truncate(length + 1));
            t.refused(ARGUMENT, x -> x.truncate(MIN));
            t.refused(ARGUMENT, x -> x.truncate(MAX));
            t.refused(ELEMENT, ChannelSchedule::findShip);
        }
        Check.due(600, () -> Given.give(new ChannelSchedule(), " ".repeat(580)).append(0, 0, 0, 0, 0));
        Check.due(599, () -> Given.give(new ChannelSchedule(), " ".repeat(579)).append(0, 0, 0, 0, 0));
    }

    // ---- texts read one after the other

    private static void texts() {
        Check.part("a refused text and the next one");
        ChannelSchedule x = busyOne();
        Check.argument(() -> Given.give(x, "channel 9 9 9;ship zz 9 9 9;ship yy 9 9 0;").load());
        Check.due("code 2\nposition 40\n", () -> Whole.errors(x));
        // the names of a refused setup are not known, those of the present one are
        Check.element(() -> Given.give(x, "zz").findShip());
        Check.due(1, () -> Given.give(x, "bo").findShip());
        Check.argument(() -> Given.give(x, "book zz in 500;").runScript());
        Check.due("code 3\nposition 5\n", () -> Whole.errors(x));
        // what was read of a refused script is forgotten
        Check.argument(() -> Given.give(x, "ice 9;ice 8;ice 7;ice").runScript());
        Check.due(1, () -> Given.give(x, "ice 6;").runScript());
        Check.due(6, x::thickness);
        Check.due("code 0\nposition -1\n", () -> Whole.errors(x));
        Check.argument(x::load);
        Check.due("code 1\nposition 0\n", () -> Whole.errors(x));
        Check.due(0, x::runScript);
        Check.due("code 0\nposition -1\n", () -> Whole.errors(x));
        // neither findShip() nor a refused change touches the errors
        Check.argument(() -> Given.give(x, "cancel x;").runScript());
        Check.element(x::findShip);
        Check.state(() -> x.cancel(0));
        Check.due(0, () -> x.advance(1));
        Check.due("code 1\nposition 7\n", () -> Whole.errors(x));
    }
}
