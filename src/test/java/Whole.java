import java.util.concurrent.Callable;

/** Looks at an object from all sides: what the calls tell of it, as texts that can be compared. */
final class Whole {
    private final StringBuilder text = new StringBuilder();

    private Whole() {
    }

    private Whole add(String name, Callable<?> call) {
        text.append(name).append(' ').append(Check.answer(call)).append('\n');
        return this;
    }

    /** The present state; nothing of it changes by looking. */
    static String state(ChannelSchedule x) {
        Whole w = new Whole();
        w.add("shipCount", x::shipCount).add("headway", x::headway).add("clearance", x::clearance);
        w.add("thickness", x::thickness).add("minute", x::minute).add("made", x::bookingsMade);
        w.add("cancelled", x::bookingsCancelled).add("served", x::requestsServed);
        w.add("utilization", x::utilization).add("meanTransit", x::meanTransit);
        w.add("inconsistencies", x::inconsistencies).add("switches", x::directionSwitches);
        w.add("convoy", x::longestConvoy).add("bestValue", x::bestValue).add("waitingWeight", x::waitingWeight);
        w.add("emptyMinutes", () -> x.emptyMinutes(0, 1200)).add("run", () -> x.longestEmptyRun(0, 1200));
        int ships = x.shipCount();
        for (int i = 0; i < ships; i++) {
            int ship = i;
            w.add("ship " + i, () -> Given.nameOf(x, ship) + " " + x.transitTime(ship) + " " + x.iceClass(ship) + " "
                    + x.weight(ship));
        }
        w.add("bookings", x::bookingCount).add("requests", x::requestCount);
        int bookings = x.bookingCount();
        for (int i = 0; i < bookings; i++) {
            int b = i;
            w.add("booking " + i, () -> x.bookedShip(b) + " " + x.isInbound(b) + " " + x.startMinute(b) + " "
                    + x.endMinute(b) + " " + x.isFinished(b) + " " + x.isUnderWay(b) + " " + x.slack(b));
        }
        int requests = x.requestCount();
        for (int i = 0; i < requests; i++) {
            int r = i;
            w.add("request " + i, () -> x.requestedShip(r) + " " + x.isRequestInbound(r) + " "
                    + x.earliestRequested(r) + " " + x.latestRequested(r) + " " + x.whyNotFeasible(r) + " "
                    + x.isSelected(r) + " " + x.feasibleStart(r));
        }
        return w.text.toString();
    }

    static String errors(ChannelSchedule x) {
        return new Whole().add("code", x::errorCode).add("position", x::errorPosition).text.toString();
    }

    /** The output text up to the first byte that is refused. */
    static String output(ChannelSchedule x) {
        Whole w = new Whole();
        for (int i = 0; i <= 320; i++) {
            int index = i;
            String answer = Check.answer(() -> x.outputByte(index));
            w.text.append(answer).append('\n');
            if (answer.startsWith("throws")) {
                break;
            }
        }
        return w.text.toString();
    }

    /** All that undoing brings back, step by step. */
    static String history(ChannelSchedule x) {
        Whole w = new Whole();
        for (int i = 0; i <= 7; i++) {
            w.add("undo", x::undo).add("minute", x::minute).add("thickness", x::thickness);
            w.add("made", x::bookingsMade).add("cancelled", x::bookingsCancelled).add("served", x::requestsServed);
            int bookings = x.bookingCount();
            for (int j = 0; j < bookings; j++) {
                int b = j;
                w.add("booking", () -> x.startMinute(b));
            }
            int requests = x.requestCount();
            for (int j = 0; j < requests; j++) {
                int r = j;
                w.add("request", () -> x.earliestRequested(r));
            }
        }
        return w.text.toString();
    }

    static String saved(ChannelSchedule x, int slot) {
        return Check.answer(() -> x.restore(slot)) + "\n" + state(x);
    }

    /** The input buffer: the ship that it names, what it does as a script, and that it is not longer than it should. */
    static String buffer(ChannelSchedule x, int length) {
        Whole w = new Whole();
        w.add("findShip", x::findShip).add("longer", () -> x.truncate(length + 1));
        w.add("as long", () -> x.truncate(length)).add("script", x::runScript);
        return w.text + errors(x) + state(x);
    }
}
