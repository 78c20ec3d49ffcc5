import java.util.ArrayList;
import java.util.List;
import java.util.function.Consumer;

/**
 * The bounds that the document's terms name, apart from those of its texts: each value at a bound and the ones next to
 * it, and what is empty or full. Each part bears the sentence that it tests.
 */
public final class BoundsTest {
    private static final int NONE = ChannelSchedule.NONE;
    private static final int MAX = Integer.MAX_VALUE;
    private static final int MIN = Integer.MIN_VALUE;
    private static final int[] GAPS = {0, 1, 2, 15, 30};
    private static final int[] TIMES = {1, 2, 15, 60};

    private BoundsTest() {
    }

    public static void main(String[] args) {
        settingsAtBounds();
        transitTimes();
        endOfBooking();
        startAtMost999();
        atMostTwentyBookings();
        orderOfBookings();
        conflictsOfPairs();
        conflictsOfBookings();
        servedStarts();
        servedNotBeforeNow();
        whyNotFeasible();
        earliestAndLatest();
        atMostEightRequests();
        pastRequests();
        visitOfTheList();
        selectionsEmptyAndFull();
        tiedSelections();
        selectedWithCurrentTimes();
        statesOfBooking();
        minutes();
        bookingsThatBecomeFinished();
        startsBeforeNow();
        minutesInChannel();
        slackBounds();
        moves();
        cancellations();
        rows();
        counters();
        shares();
        Check.end("BoundsTest");
    }

    private static String minutesOf(ChannelSchedule x) {
        List<String> starts = new ArrayList<>();
        for (int i = 0; i < x.bookingCount(); i++) {
            starts.add("" + x.startMinute(i));
        }
        return String.join(" ", starts);
    }

    // ---- ships

    private static void settingsAtBounds() {
        Check.part("headway and clearance 0 to 30, thickness 0 to 9, time 1 to 60, ice class 0 to 9, weight 1 to 99");
        int[][] setups = {{0, 0, 0, 1, 0, 1}, {30, 30, 9, 60, 9, 99}, {1, 29, 1, 2, 1, 2}, {29, 1, 8, 59, 8, 98}};
        for (int[] s : setups) {
            ChannelSchedule x = Given.loaded("channel " + s[0] + " " + s[1] + " " + s[2] + ";ship a " + s[3] + " "
                    + s[4] + " " + s[5] + ";");
            Check.due(s[0], x::headway);
            Check.due(s[1], x::clearance);
            Check.due(s[2], x::thickness);
            Check.due(s[3], () -> x.transitTime(0));
            Check.due(s[4], () -> x.iceClass(0));
            Check.due(s[5], () -> x.weight(0));
        }
    }

    private static void transitTimes() {
        Check.part("plus 2 minutes for each unit by which the thickness of the ice exceeds the ice class of the ship");
        for (int iceClass = 0; iceClass <= 9; iceClass++) {
            ChannelSchedule x = Given.loaded("channel 0 0 0;ship a 60 " + iceClass + " 1;ship b 1 " + iceClass + " 1;");
            for (int thickness = 0; thickness <= 9; thickness++) {
                int ice = thickness;
                int more = Math.max(0, 2 * (thickness - iceClass));
                Check.due(0, () -> x.setThickness(ice));
                Check.due(ice, x::thickness);
                Check.due(60 + more, () -> x.transitTime(0));
                Check.due(1 + more, () -> x.transitTime(1));
            }
        }
    }

    private static void endOfBooking() {
        Check.part("the end minute is the start minute plus the transit time of the ship at the time of booking");
        ChannelSchedule x = Given.loaded("channel 0 0 9;ship a 60 0 1;ship b 60 9 1;");
        Check.due(79, () -> x.book(0, true, 1));
        Check.due(160, () -> x.book(1, true, 100));
        Check.due(0, () -> x.setThickness(0));
        Check.due(79, () -> x.endMinute(0));
        Check.due(160, () -> x.endMinute(1));
        Check.due(260, () -> x.book(0, true, 200));
        Check.due(0, () -> x.setThickness(1));
        Check.due(260, () -> x.endMinute(2));
        Check.due(1061, () -> x.book(0, true, 999));
        Check.part("a booking that is moved keeps its duration, whatever the ice is");
        Check.due(0, () -> x.moveBooking(0, 400));
        Check.due("160 260 478 1061", () -> x.endMinute(0) + " " + x.endMinute(1) + " " + x.endMinute(2) + " "
                + x.endMinute(3));
    }

    private static void startAtMost999() {
        Check.part("the start minute of a booking is at most 999");
        ChannelSchedule x = Given.three();
        Check.argument(() -> x.book(0, true, 1000));
        Check.due(1009, () -> x.book(0, true, 999));
        Check.argument(() -> x.moveBooking(0, 1000));
        Check.due(0, () -> x.moveBooking(0, 998));
        Check.due(0, () -> x.moveBooking(0, 999));
        Check.argument(() -> x.request(0, true, 1000, 1000));
        Check.argument(() -> x.request(0, true, 999, 1000));
        // no later start than 999 is looked for, neither for a request nor for the calls that tell of starts
        Check.due(NONE, () -> x.request(0, true, 995, 999));
        Check.due(994, () -> x.request(0, true, 994, 999));
        Check.due(NONE, () -> x.earliestStart(0, true, 995));
        Check.due(NONE, () -> x.latestStart(0, true, 0));
        Check.due(989, () -> x.latestStart(0, true, 1200));
        Check.due(3, () -> x.whyNotFeasible(0));
        // 0 is the first
        Check.argument(() -> x.book(0, true, -1));
        Check.due(10, () -> x.book(0, true, 0));
    }

    // ---- bookings

    private static void atMostTwentyBookings() {
        Check.part("there are at most 20 bookings");
        ChannelSchedule x = Given.swift();
        for (int i = 0; i < 20; i++) {
            int n = i;
            Check.due(n, x::bookingCount);
            Check.due(2 * n + 11, () -> x.book(0, n % 2 == 0, 2 * n + 10));
        }
        Check.due(20, x::bookingCount);
        Check.state(() -> x.book(0, true, 500));
        Check.due(NONE, () -> x.request(0, true, 500, 500));
        Check.due(NONE, () -> x.request(0, true, 600, 600));
        Check.due("2 2", () -> x.whyNotFeasible(0) + " " + x.whyNotFeasible(1));
        // a move and the ice process the list, but find no place in it; time does not
        Check.due(0, () -> x.moveBooking(0, 700));
        Check.due(0, () -> x.setThickness(5));
        Check.due(0, () -> x.setThickness(0));
        Check.due(0, () -> x.advance(1));
        Check.due(20, x::bookingCount);
        // one is cancelled: one is served, and then there are 20 again
        Check.due(1, () -> x.servedWithout(3));
        Check.due(1, () -> x.cancel(3));
        Check.due("20 1", () -> x.bookingCount() + " " + x.requestCount());
        Check.due(600, () -> x.earliestRequested(0));
        Check.due(1, () -> x.cancel(0));
        Check.due("20 0", () -> x.bookingCount() + " " + x.requestCount());
        Check.due(0, () -> x.cancel(0));
        Check.due(19, x::bookingCount);
        Check.due(801, () -> x.book(0, true, 800));
        Check.state(() -> x.book(0, true, 900));
        Check.due("23 3 2", () -> x.bookingsMade() + " " + x.bookingsCancelled() + " " + x.requestsServed());
        Check.part("there are fewer than 20 bookings");
        ChannelSchedule y = Given.full();
        y.cancel(19);
        Check.due(500, () -> y.request(0, true, 500, 500));
        Check.due(NONE, () -> y.request(0, true, 600, 600));
        Check.due(NONE, () -> y.feasibleStart(0));
        Check.part("the methods that look for free times do not mind 20 bookings");
        Check.due(600, () -> y.earliestStart(0, true, 600));
        Check.due(999, () -> y.latestStart(0, true, 1200));
        Check.due(0, () -> y.conflictCount(0, true, 600));
        Check.due(0, () -> y.bestCancellation(0, true, 600));
        Check.due(1, y::bestValue);
    }

    private static void orderOfBookings() {
        Check.part("they are numbered from 0 in the order of their start minutes");
        ChannelSchedule x = Given.swift();
        int[] starts = {500, 499, 501, 0, 999, 250, 750, 1, 998};
        for (int start : starts) {
            x.book(start % 2, start % 3 == 0, start);
        }
        Check.due("0 1 250 499 500 501 750 998 999", () -> minutesOf(x));
        for (int i = 0; i < 9; i++) {
            int b = i;
            Check.due(x.startMinute(b) % 2, () -> x.bookedShip(b));
            Check.due(x.startMinute(b) % 3 == 0, () -> x.isInbound(b));
            Check.due(x.startMinute(b) + 1, () -> x.endMinute(b));
        }
        Check.part("the numbers of bookings change if necessary");
        // from the first to the last and back, and past one neighbour
        Check.due(0, () -> x.moveBooking(3, 997));
        Check.due("0 1 250 500 501 750 997 998 999", () -> minutesOf(x));
        Check.due(0, () -> x.moveBooking(6, 2));
        Check.due("0 1 2 250 500 501 750 998 999", () -> minutesOf(x));
        Check.due("1 1", () -> x.bookedShip(2) + " " + x.bookedShip(1));
        Check.due(0, () -> x.moveBooking(4, 502));
        Check.due("0 1 2 250 501 502 750 998 999", () -> minutesOf(x));
        Check.due("1 0", () -> x.bookedShip(4) + " " + x.bookedShip(5));
        Check.due(0, () -> x.moveBooking(4, 600));
        Check.due("0 1 2 250 502 600 750 998 999", () -> minutesOf(x));
        Check.part("the numbers of all later bookings decrease by 1");
        Check.due(0, () -> x.cancel(8));
        Check.due(0, () -> x.cancel(3));
        Check.due("0 1 2 502 600 750 998", () -> minutesOf(x));
        Check.index(() -> x.startMinute(7));
        Check.part("the ships of two bookings may be the same");
        ChannelSchedule y = Given.three();
        Check.due(130, () -> y.book(2, true, 100));
        Check.due(135, () -> y.book(2, true, 105));
        Check.due("2 2", () -> y.bookedShip(0) + " " + y.bookedShip(1));
    }

    // ---- conflicts

    /** The document's words, for a booking A from 500 on and one that starts at the given minute. */
    private static boolean conflict(boolean isSameWay, int headway, int clearance, int time, int start, int newTime) {
        if (start == 500) {
            return true;
        }
        boolean isLater = start > 500;
        int startA = isLater ? 500 : start;
        int endA = isLater ? 500 + time : start + newTime;
        int startB = isLater ? start : 500;
        int endB = isLater ? start + newTime : 500 + time;
        if (isSameWay) {
            return !(startB >= startA + headway && endB >= endA + headway);
        }
        return !(startB >= endA + clearance);
    }

    private static void conflictsOfPairs() {
        Check.part("conflicts by headway and clearance, at each start near a booking");
        for (int headway : GAPS) {
            for (int clearance : GAPS) {
                for (int time : TIMES) {
                    for (int newTime : TIMES) {
                        pair(headway, clearance, time, newTime);
                    }
                }
            }
        }
    }

    private static void pair(int headway, int clearance, int time, int newTime) {
        String text = "channel " + headway + " " + clearance + " 0;ship a " + time + " 0 1;ship b " + newTime + " 0 1;";
        for (boolean isSameWay : new boolean[] {true, false}) {
            ChannelSchedule x = Given.loaded(text);
            x.book(0, true, 500);
            int firstBad = MAX;
            int lastBad = MIN;
            for (int start = 405; start <= 595; start++) {
                int s = start;
                boolean bad = conflict(isSameWay, headway, clearance, time, start, newTime);
                Check.due(bad ? 1 : 0, () -> x.conflictCount(1, isSameWay, s));
                Check.due(bad ? 0 : NONE, () -> x.firstConflict(1, isSameWay, s));
                firstBad = bad && start < firstBad ? start : firstBad;
                lastBad = bad ? start : lastBad;
            }
            int before = firstBad - 1;
            int after = lastBad + 1;
            Check.due(before, () -> x.earliestStart(1, isSameWay, before));
            Check.due(after, () -> x.earliestStart(1, isSameWay, before + 1));
            Check.due(after, () -> x.earliestStart(1, isSameWay, after));
            Check.due(before, () -> x.latestStart(1, isSameWay, before + newTime));
            Check.due(before, () -> x.latestStart(1, isSameWay, after + newTime - 1));
            Check.due(after, () -> x.latestStart(1, isSameWay, after + newTime));
            ChannelSchedule y = Given.loaded(text);
            y.book(0, true, 500);
            Check.due(before, () -> y.request(1, isSameWay, before, after));
            ChannelSchedule z = Given.loaded(text);
            z.book(0, true, 500);
            Check.due(NONE, () -> z.request(1, isSameWay, before + 1, after - 1));
            Check.state(() -> z.book(1, isSameWay, before + 1));
            Check.state(() -> z.book(1, isSameWay, after - 1));
            Check.due(after, () -> z.request(1, isSameWay, before + 1, after));
            Check.due(before + newTime, () -> Given.loaded(text).book(1, isSameWay, before));
            Check.due(0, z::inconsistencies);
        }
    }

    private static void conflictsOfBookings() {
        Check.part("the methods consider all bookings and all start minutes, whatever the current minute is");
        for (int minute : new int[] {0, 100, 110, 500, 1000, 1200}) {
            ChannelSchedule x = Given.three();
            x.book(0, true, 100);
            x.book(1, true, 300);
            for (int rest = minute; rest > 0; rest -= 500) {
                x.advance(Math.min(500, rest));
            }
            Check.due(minute, x::minute);
            Check.due("1 0 0", () -> x.conflictCount(0, true, 104) + " " + x.conflictCount(0, true, 105) + " "
                    + x.conflictCount(0, true, 0));
            Check.due("0 1 -1", () -> x.firstConflict(0, true, 104) + " " + x.firstConflict(0, true, 300) + " "
                    + x.firstConflict(0, true, 999));
            Check.due("0 105", () -> x.earliestStart(0, true, 0) + " " + x.earliestStart(0, true, 96));
            Check.due("0 95", () -> x.latestStart(0, true, 10) + " " + x.latestStart(0, true, 114));
            // without booking 1 the first free start from 295 on is 295, without booking 0 it is 315
            Check.due("0 1", () -> x.bestCancellation(0, true, 96) + " " + x.bestCancellation(0, true, 295 + 1));
            Check.due("195 699", () -> x.slack(0) + " " + x.slack(1));
        }
    }

    // ---- requests

    private static void servedStarts() {
        Check.part("some start minute from the earliest to the latest one");
        // free starts of a, inbound: to 95 and from 105 on
        int[][] due = {{95, 95, 95}, {95, 105, 95}, {96, 104, NONE}, {96, 105, 105}, {104, 105, 105}, {105, 105, 105},
            {105, 200, 105}, {0, 0, 0}, {0, 999, 0}, {999, 999, 999}, {100, 100, NONE}};
        for (int[] d : due) {
            ChannelSchedule x = Given.three();
            x.book(0, true, 100);
            Check.due(d[2], () -> x.request(0, true, d[0], d[1]));
            Check.due(d[2] == NONE ? 1 : 0, x::requestCount);
            Check.due(d[2] == NONE ? 1 : 2, x::bookingCount);
            Check.due(0, x::requestsServed);
        }
    }

    private static void servedNotBeforeNow() {
        Check.part("some start minute not before the current minute");
        int[][] late = {{0, 199, NONE}, {0, 200, 200}, {199, 200, 200}, {200, 200, 200}, {201, 201, 201},
            {0, 999, 200}};
        for (int[] d : late) {
            ChannelSchedule x = Given.three();
            x.advance(200);
            Check.due(d[2], () -> x.request(0, true, d[0], d[1]));
            Check.due(d[2] == NONE ? 1 : 0, x::requestCount);
        }
        Check.part("feasibleStart and whyNotFeasible at the current minute");
        for (int minute = 1; minute <= 3; minute++) {
            // waits for bookings 0 and 19 to go; its latest minute is 2
            ChannelSchedule x = Given.full();
            x.request(1, true, 0, 2);
            x.advance(minute);
            int m = minute;
            Check.due(m <= 2 ? 2 : 1, () -> x.whyNotFeasible(0));
            Check.due(NONE, () -> x.feasibleStart(0));
            Check.due(m <= 2 ? 1 : 0, () -> x.servedWithout(19));
            Check.due(m <= 2 ? 1 : 0, () -> x.cancel(19));
            Check.due(m <= 2 ? m : 10, () -> x.startMinute(0));
            Check.due(m <= 2 ? 0 : 1, x::requestCount);
        }
        ChannelSchedule y = Given.three();
        y.book(0, true, 100);
        y.request(0, true, 98, 104);
        Check.due(3, () -> y.whyNotFeasible(0));
        y.advance(104);
        Check.due(3, () -> y.whyNotFeasible(0));
        y.advance(1);
        Check.due(1, () -> y.whyNotFeasible(0));
    }

    private static void whyNotFeasible() {
        Check.part("promise 41: the first reason that applies");
        // past, 20 bookings and in conflict; 20 bookings and in conflict; in conflict
        ChannelSchedule z = Given.full();
        z.request(1, false, 20, 20);
        z.request(1, false, 60, 61);
        z.request(1, false, 60, 60);
        z.advance(20);
        Check.due("2 2 2", () -> z.whyNotFeasible(0) + " " + z.whyNotFeasible(1) + " " + z.whyNotFeasible(2));
        z.advance(1);
        Check.due("1 2 2", () -> z.whyNotFeasible(0) + " " + z.whyNotFeasible(1) + " " + z.whyNotFeasible(2));
        // the second is served at 60, and with 20 bookings again the third waits on
        Check.due(1, () -> z.cancel(19));
        Check.due("60 60", () -> z.startMinute(19) + " " + z.earliestRequested(1));
        Check.due("1 2", () -> z.whyNotFeasible(0) + " " + z.whyNotFeasible(1));
        z.cancel(18);
        Check.due("1 3", () -> z.whyNotFeasible(0) + " " + z.whyNotFeasible(1));
        Check.due("-1 -1", () -> z.feasibleStart(0) + " " + z.feasibleStart(1));
    }

    private static void earliestAndLatest() {
        Check.part("promise 54: earliest 0 to 999, latest earliest to 999");
        int[][] bad = {{-1, -1}, {-1, 0}, {-1, 999}, {0, -1}, {0, 1000}, {999, 1000}, {999, 998}, {1000, 999},
            {1000, 1000}, {1, 0}, {MIN, MIN}, {MIN, 0}, {0, MIN}, {MAX, MAX}, {0, MAX}, {MIN, MAX}, {MAX, MIN}};
        ChannelSchedule x = Given.three();
        for (int[] b : bad) {
            Check.argument(() -> x.request(0, true, b[0], b[1]));
            Check.index(() -> x.request(3, true, b[0], b[1]));
            Check.index(() -> x.request(-1, true, b[0], b[1]));
        }
        Check.due("0 0", () -> x.requestCount() + " " + x.bookingCount());
        x.book(2, false, 0);
        x.book(2, false, 999);
        Check.due(NONE, () -> x.request(0, true, 0, 0));
        Check.due(NONE, () -> x.request(0, true, 999, 999));
        Check.due("0 0 999 999", () -> x.earliestRequested(0) + " " + x.latestRequested(0) + " "
                + x.earliestRequested(1) + " " + x.latestRequested(1));
        Check.due(40, () -> x.request(0, true, 0, 999));
    }

    private static void atMostEightRequests() {
        Check.part("the waiting list contains at most 8 requests, numbered from 0 from the front to the back");
        ChannelSchedule x = Given.three();
        x.book(1, true, 100);
        for (int i = 0; i < 8; i++) {
            int n = i;
            Check.due(n, x::requestCount);
            Check.index(() -> x.requestedShip(n));
            Check.due(NONE, () -> x.request(n % 3, false, 100 + n, 101 + n));
            Check.due(n % 3 + " false " + (100 + n) + " " + (101 + n), () -> x.requestedShip(n) + " "
                    + x.isRequestInbound(n) + " " + x.earliestRequested(n) + " " + x.latestRequested(n));
        }
        Check.due(8, x::requestCount);
        Check.index(() -> x.requestedShip(8));
        Check.due(1 + 2 + 3 + 1 + 2 + 3 + 1 + 2, x::waitingWeight);
        Check.state(() -> x.request(0, false, 100, 100));
        Check.due(200, () -> x.request(0, false, 200, 200));
        Check.due("8 2", () -> x.requestCount() + " " + x.bookingCount());
        Check.part("the numbers of all requests behind it decrease by 1");
        Check.due(1, () -> x.withdraw(7));
        Check.due(0, () -> x.withdraw(0));
        Check.due(2, () -> x.withdraw(1));
        Check.due("101 103 104 105 106", () -> x.earliestRequested(0) + " " + x.earliestRequested(1) + " "
                + x.earliestRequested(2) + " " + x.earliestRequested(3) + " " + x.earliestRequested(4));
        Check.index(() -> x.withdraw(5));
        Check.due(NONE, () -> x.request(2, true, 101, 102));
        Check.due(101, () -> x.earliestRequested(5));
        Check.due(true, () -> x.isRequestInbound(5));
        for (int i = 6; i < 8; i++) {
            Check.due(NONE, () -> x.request(2, true, 101, 102));
        }
        Check.state(() -> x.request(2, true, 101, 102));
        Check.due(2 * 4 + 3 * 3 + 1, x::waitingWeight);
        for (int i = 7; i >= 0; i--) {
            int left = i;
            x.withdraw(0);
            Check.due(left, x::requestCount);
        }
        Check.index(() -> x.withdraw(0));
        Check.due(0, x::waitingWeight);
    }

    private static void pastRequests() {
        Check.part("requests whose latest start minute lies before the current minute stay in the list");
        ChannelSchedule x = Given.three();
        x.book(1, true, 100);
        x.request(0, false, 100, 110);
        x.advance(500);
        Check.due(1, x::requestCount);
        x.setThickness(1);
        x.book(0, true, 600);
        x.moveBooking(1, 700);
        x.cancel(1);
        x.advance(500);
        x.advance(200);
        Check.due(1, x::requestCount);
        Check.due(1, () -> x.whyNotFeasible(0));
        Check.due(0, () -> x.withdraw(0));
        Check.due("0 0", () -> x.requestCount() + " " + x.requestsServed());
        // time alone serves nobody, and no request waits for time
        ChannelSchedule y = Given.full();
        y.request(0, true, 900, 950);
        Check.due(20, () -> y.advance(500));
        Check.due(1, y::requestCount);
    }

    private static void visitOfTheList() {
        Check.part("the requests are visited from the front to the back, each one that is feasible is served");
        // 8 requests for one gap: the first and the sixth are served, at 100 and at 105, and the rest has to wait
        ChannelSchedule x = Given.three();
        x.book(1, true, 100);
        for (int i = 0; i < 8; i++) {
            x.request(1, false, 100, 100 + i);
        }
        Check.due(2, () -> x.servedWithout(0));
        Check.due(2, () -> x.cancel(0));
        Check.due("100 105", () -> minutesOf(x));
        Check.due("6 1 2", () -> x.requestCount() + " " + x.bookingsCancelled() + " " + x.requestsServed());
        Check.due("101 102 103 104 106 107", () -> x.latestRequested(0) + " " + x.latestRequested(1) + " "
                + x.latestRequested(2) + " " + x.latestRequested(3) + " " + x.latestRequested(4) + " "
                + x.latestRequested(5));
        Check.part("all 8 are served");
        ChannelSchedule y = Given.loaded("channel 1 30 0;ship a 60 0 1;");
        y.book(0, true, 500);
        for (int i = 0; i < 8; i++) {
            y.request(0, false, 500, 510);
        }
        Check.due(8, y::requestCount);
        Check.due(8, () -> y.servedWithout(0));
        Check.due(8, () -> y.moveBooking(0, 0));
        Check.due("0 500 501 502 503 504 505 506 507", () -> minutesOf(y));
        Check.due("0 8 9", () -> y.requestCount() + " " + y.requestsServed() + " " + y.bookingsMade());
        y.undo();
        Check.due("8 0 1", () -> y.requestCount() + " " + y.requestsServed() + " " + y.bookingsMade());
        Check.due(8, () -> y.cancel(0));
        Check.due("0 8 9 1", () -> y.requestCount() + " " + y.requestsServed() + " " + y.bookingsMade() + " "
                + y.bookingsCancelled());
        Check.due(0, () -> y.setThickness(9));
    }

    // ---- selections

    private static void selectionsEmptyAndFull() {
        Check.part("the best selection: empty, all of 8, greatest weights");
        ChannelSchedule x = Given.full();
        Check.due("0 0", () -> x.bestValue() + " " + x.waitingWeight());
        Check.index(() -> x.isSelected(0));
        ChannelSchedule y = Given.loaded("channel 30 30 9;ship a 60 9 99;ship b 60 9 99;ship c 60 9 98;");
        for (int i = 0; i < 20; i++) {
            y.book(0, true, 30 * i);
        }
        for (int i = 0; i < 8; i++) {
            y.request(i % 2, true, 750 + 30 * i, 999);
        }
        Check.due("792 792", () -> y.bestValue() + " " + y.waitingWeight());
        Check.due("11111111", () -> selected(y));
        y.withdraw(0);
        y.request(0, true, 779, 999);
        // the last one is in the way of the first only, and as heavy: the first wins
        Check.due(693, y::bestValue);
        Check.due("11111110", () -> selected(y));
        // a lighter one in its way does not win against it
        y.withdraw(0);
        y.request(2, true, 780, 999);
        Check.due("11111110", () -> selected(y));
        Check.due(693, y::bestValue);
        // without the heavier one it is selected
        y.withdraw(6);
        Check.due("1111111", () -> selected(y));
        Check.due(692, y::bestValue);
        Check.part("the current minute and the limit of 20 bookings do not matter");
        y.advance(500);
        y.advance(500);
        y.advance(200);
        Check.due("1111111", () -> selected(y));
        Check.due(692, y::bestValue);
    }

    private static void tiedSelections() {
        Check.part("among equal values the one with the lowest number in which they differ");
        // 0 and 3 exclude each other, and so do 1 and 2: {0, 1}, {0, 2}, {1, 3}, {2, 3}
        ChannelSchedule z = Given.full();
        z.request(0, true, 100, 999);
        z.request(0, true, 200, 999);
        z.request(0, false, 200, 999);
        z.request(0, false, 100, 999);
        Check.due("1100", () -> selected(z));
        z.request(1, true, 100, 999);
        Check.due("01001", () -> selected(z));
        Check.due(3, z::bestValue);
        z.request(1, false, 200, 999);
        Check.due("000011", () -> selected(z));
        Check.due(4, z::bestValue);
        Check.part("bookings at their earliest start minutes");
        // what the schedule forbids at the earliest start is left out, even if a later start would do
        z.request(1, true, 10, 999);
        z.request(1, true, 11, 999);
        Check.due("00001101", () -> selected(z));
        Check.due(6, z::bestValue);
    }

    private static void selectedWithCurrentTimes() {
        Check.part("with the current transit times");
        ChannelSchedule w = Given.loaded("channel 0 0 0;ship a 10 0 1;ship b 5 9 1;");
        for (int i = 0; i < 20; i++) {
            w.book(1, true, 5 * i);
        }
        w.request(0, true, 200, 999);
        w.request(0, false, 211, 999);
        Check.due("11 2", () -> selected(w) + " " + w.bestValue());
        w.setThickness(1);
        Check.due("10 1", () -> selected(w) + " " + w.bestValue());
        w.setThickness(0);
        Check.due("11 2", () -> selected(w) + " " + w.bestValue());
    }

    private static String selected(ChannelSchedule x) {
        StringBuilder got = new StringBuilder();
        for (int i = 0; i < x.requestCount(); i++) {
            got.append(x.isSelected(i) ? '1' : '0');
        }
        return got.toString();
    }

    // ---- time

    private static void statesOfBooking() {
        Check.part("finished if the end minute is at most the current minute, under way if it is not and has started");
        for (int minute = 0; minute <= 45; minute++) {
            ChannelSchedule x = Given.three();
            x.book(0, true, 10);
            x.book(1, true, 20);
            if (minute > 0) {
                x.advance(minute);
            }
            int m = minute;
            Check.due(m >= 20, () -> x.isFinished(0));
            Check.due(m >= 10 && m < 20, () -> x.isUnderWay(0));
            Check.due(m >= 40, () -> x.isFinished(1));
            Check.due(m >= 20 && m < 40, () -> x.isUnderWay(1));
            // each call that refuses what is not scheduled any more
            Check.due(m >= 10 ? 1 : 0, () -> x.whyNotMovable(0, 500));
            Check.due(m >= 20 ? 1 : 500 < m ? 2 : 0, () -> x.whyNotMovable(1, 500));
            Check.due(m >= 10 ? 1 : m > 9 ? 2 : 0, () -> x.whyNotMovable(0, 9));
            Check.due(m >= 20 ? 1 : m > 15 ? 2 : 0, () -> x.whyNotMovable(1, 15));
            Check.due(m >= 20 ? "throws IllegalStateException" : "0", () -> x.cancel(1));
            Check.due(m >= 10 ? "throws IllegalStateException" : "0", () -> x.moveBooking(0, 100));
            Check.due(m >= 10 ? "throws IllegalStateException" : "0", () -> x.cancel(0));
        }
        ChannelSchedule x = Given.three();
        x.book(0, true, 0);
        Check.due("false true", () -> x.isFinished(0) + " " + x.isUnderWay(0));
        Check.state(() -> x.cancel(0));
        Check.state(() -> x.moveBooking(0, 5));
    }

    private static void minutes() {
        Check.part("promise 59: minutes 1 to 500, and the current minute is at most 1200");
        for (int minutes : new int[] {1, 2, 499, 500}) {
            ChannelSchedule x = Given.three();
            Check.due(0, () -> x.advance(minutes));
            Check.due(minutes, x::minute);
        }
        for (int minutes : new int[] {0, -1, 501, 1200, MIN, MAX}) {
            ChannelSchedule x = Given.three();
            Check.argument(() -> x.advance(minutes));
            Check.due(0, x::minute);
        }
        ChannelSchedule x = Given.three();
        x.advance(500);
        x.advance(500);
        Check.state(() -> x.advance(201));
        Check.state(() -> x.advance(500));
        Check.argument(() -> x.advance(501));
        x.advance(199);
        Check.state(() -> x.advance(2));
        Check.due(1199, x::minute);
        Check.due(0, () -> x.advance(1));
        Check.due(1200, x::minute);
        Check.state(() -> x.advance(1));
        Check.argument(() -> x.advance(0));
        Check.argument(() -> x.advance(MAX));
    }

    private static void bookingsThatBecomeFinished() {
        Check.part("the number of bookings that became finished");
        // 10-20, 15-25 and 25-35: each step counts those that end after it began and at its end at the latest
        int[][] steps = {{19, 0}, {1, 1}, {4, 0}, {1, 1}, {9, 0}, {1, 1}, {500, 0}};
        ChannelSchedule y = Given.three();
        y.book(0, true, 10);
        y.book(0, true, 15);
        y.book(0, true, 25);
        for (int[] s : steps) {
            Check.due(s[1], () -> y.advance(s[0]));
        }
        Check.due(20, () -> Given.full().advance(500));
        Check.due(20, () -> Given.full().advance(49));
        Check.due(19, () -> Given.full().advance(48));
        Check.due(0, () -> Given.full().advance(10));
        Check.due(1, () -> Given.full().advance(11));
    }

    private static void startsBeforeNow() {
        Check.part("a start before the current minute");
        ChannelSchedule z = Given.three();
        z.advance(100);
        Check.state(() -> z.book(0, true, 99));
        Check.due(110, () -> z.book(0, true, 100));
        Check.due(2, () -> starting(z, 200).whyNotMovable(1, 99));
        Check.due(3, () -> z.whyNotMovable(1, 100));
        Check.due(0, () -> z.whyNotMovable(1, 105));
        // at the minute 1000 and later no start is left
        ChannelSchedule w = Given.three();
        w.advance(500);
        w.advance(499);
        Check.due(1009, () -> w.book(0, true, 999));
        w.undo();
        w.advance(1);
        Check.state(() -> w.book(0, true, 999));
        Check.due(NONE, () -> w.request(0, true, 0, 999));
        Check.due("1 -1", () -> w.whyNotFeasible(0) + " " + w.feasibleStart(0));
    }

    private static ChannelSchedule starting(ChannelSchedule x, int start) {
        x.book(0, true, start);
        return x;
    }

    private static void minutesInChannel() {
        Check.part("promises 24 to 26: minutes 0 to 1200");
        ChannelSchedule x = Given.three();
        for (int minute : new int[] {0, 1, 1199, 1200}) {
            Check.due(0, () -> x.occupancy(minute));
            Check.due(1, () -> x.emptyMinutes(minute, minute));
            Check.due(1, () -> x.longestEmptyRun(minute, minute));
            Check.due(1201 - minute, () -> x.emptyMinutes(minute, 1200));
            Check.due(minute + 1, () -> x.longestEmptyRun(0, minute));
        }
        for (int minute : new int[] {-1, 1201, MIN, MAX}) {
            Check.argument(() -> x.occupancy(minute));
            Check.argument(() -> x.emptyMinutes(minute, minute));
            Check.argument(() -> x.longestEmptyRun(minute, minute));
            Check.argument(() -> x.emptyMinutes(0, minute));
            Check.argument(() -> x.longestEmptyRun(minute, 1200));
        }
        Check.part("promises 24 to 26: every minute counted one by one");
        String slow = "channel 3 2 9;ship a 60 0 1;ship b 7 9 1;";
        List<Consumer<ChannelSchedule>> schedules = List.of(y -> { },
                y -> y.book(1, true, 0),
                y -> y.book(0, true, 999),
                y -> {
                    y.book(1, true, 0);
                    y.book(1, false, 9);
                    y.book(1, true, 18);
                    y.book(1, true, 22);
                    y.book(0, true, 30);
                },
                y -> {
                    for (int i = 0; i < 20; i++) {
                        y.book(1, i % 2 == 0, 9 * i + i / 5);
                    }
                });
        for (Consumer<ChannelSchedule> schedule : schedules) {
            countedOneByOne(slow, schedule);
        }
    }

    /** A new object for each row of questions, for one is promised to answer 512 calls only. */
    private static ChannelSchedule with(String setup, Consumer<ChannelSchedule> schedule) {
        ChannelSchedule x = Given.loaded(setup);
        schedule.accept(x);
        return x;
    }

    private static void countedOneByOne(String setup, Consumer<ChannelSchedule> schedule) {
        int[] occupied = new int[1201];
        ChannelSchedule booked = with(setup, schedule);
        for (int i = 0; i < booked.bookingCount(); i++) {
            for (int m = booked.startMinute(i); m < booked.endMinute(i); m++) {
                occupied[m]++;
            }
        }
        for (int first = 0; first <= 1200; first += 400) {
            ChannelSchedule x = with(setup, schedule);
            for (int m = first; m < first + 400 && m <= 1200; m++) {
                int minute = m;
                Check.due(occupied[m], () -> x.occupancy(minute));
            }
        }
        List<Integer> ends = List.of(0, 1, 6, 7, 8, 9, 15, 16, 17, 18, 24, 25, 26, 29, 30, 31, 106, 107, 108, 109, 110,
                178, 179, 180, 181, 997, 998, 999, 1000, 1075, 1076, 1077, 1078, 1199, 1200);
        for (int from : ends) {
            ChannelSchedule x = with(setup, schedule);
            int empty = 0;
            int run = 0;
            int longest = 0;
            for (int to = from; to <= 1200; to++) {
                run = occupied[to] == 0 ? run + 1 : 0;
                empty += occupied[to] == 0 ? 1 : 0;
                longest = Math.max(longest, run);
                if (ends.contains(to)) {
                    int last = to;
                    Check.due(empty, () -> x.emptyMinutes(from, last));
                    Check.due(longest, () -> x.longestEmptyRun(from, last));
                }
            }
        }
    }

    // ---- moves, cancellations

    private static void slackBounds() {
        Check.part("promise 34: up to a start minute of at most 999, and to no conflict with another booking");
        for (int start : new int[] {0, 1, 500, 998, 999}) {
            ChannelSchedule x = starting(Given.three(), start);
            Check.due(999 - start, () -> x.slack(0));
        }
        // the next booking: the same way, shorter, longer, the other way
        int[][] due = {{0, 0, 1, 95}, {0, 2, 1, 95}, {2, 0, 1, 75}, {1, 1, 0, 70}, {0, 0, 0, 80}};
        for (int[] d : due) {
            ChannelSchedule x = Given.three();
            x.book(d[0], true, 100);
            x.book(d[1], d[2] == 1, 200);
            Check.due(d[3], () -> x.slack(0));
            // as many minutes later it can be moved to, and not one more
            Check.due(0, () -> x.whyNotMovable(0, 100 + d[3]));
            Check.due(3, () -> x.whyNotMovable(0, 101 + d[3]));
        }
        Check.part("promise 34: the nearest one behind counts, and 0 if there is no such number");
        ChannelSchedule y = Given.three();
        y.book(1, true, 100);
        y.book(1, true, 105);
        y.book(1, false, 200);
        Check.due("0 65 799", () -> y.slack(0) + " " + y.slack(1) + " " + y.slack(2));
        // a booking behind that is not the next one can be the nearest: b must not be overtaken, nor end behind c
        ChannelSchedule z = Given.loaded("channel 0 0 0;ship a 60 0 1;ship b 60 0 1;ship c 1 0 1;");
        z.book(0, true, 100);
        z.book(1, true, 159);
        z.book(2, true, 220);
        z.book(2, false, 221);
        Check.due("58 2 0 778", () -> z.slack(0) + " " + z.slack(1) + " " + z.slack(2) + " " + z.slack(3));
        Check.part("promise 34: more is possible behind another booking, but only without a gap");
        ChannelSchedule w = Given.three();
        w.book(0, true, 100);
        w.book(0, false, 130);
        Check.due(10, () -> w.slack(0));
        Check.due(0, () -> w.whyNotMovable(0, 110));
        Check.due(3, () -> w.whyNotMovable(0, 111));
        Check.due(0, () -> w.whyNotMovable(0, 150));
    }

    private static void moves() {
        Check.part("promises 35 and 56: start 0 to 999, and whyNotMovable");
        ChannelSchedule x = Given.three();
        x.book(0, true, 100);
        x.book(0, true, 200);
        for (int start : new int[] {0, 1, 94, 95, 105, 106, 998, 999}) {
            Check.due(0, () -> x.whyNotMovable(1, start));
        }
        for (int start : new int[] {96, 99, 100, 101, 104}) {
            Check.due(3, () -> x.whyNotMovable(1, start));
            Check.state(() -> x.moveBooking(1, start));
        }
        // a booking does not conflict with itself
        for (int start : new int[] {196, 199, 200, 201, 204}) {
            Check.due(0, () -> x.whyNotMovable(1, start));
        }
        Check.due(0, () -> x.moveBooking(1, 200));
        Check.due(0, () -> x.moveBooking(1, 1));
        Check.due("1 100", () -> minutesOf(x));
        Check.due(0, () -> x.moveBooking(1, 999));
        Check.due(0, () -> x.moveBooking(0, 994));
        Check.due("994 999", () -> minutesOf(x));
        Check.due("1004 1009", () -> x.endMinute(0) + " " + x.endMinute(1));
        // at minute 0 what is moved to 0 is under way at once
        Check.due(0, () -> x.moveBooking(0, 0));
        Check.due(true, () -> x.isUnderWay(0));
        Check.state(() -> x.moveBooking(0, 500));
        // a move to where it stands is a change like others
        int left = 5;
        ChannelSchedule y = starting(Given.three(), 50);
        for (int i = 0; i < 6; i++) {
            Check.due(0, () -> y.moveBooking(0, 50));
        }
        Check.due(left, y::undo);
        Check.due(50, () -> y.startMinute(0));
    }

    private static void cancellations() {
        Check.part("promise 31: from 0 to 999, NONE counts as 1000, the lowest number wins a tie");
        ChannelSchedule x = Given.three();
        for (int from : new int[] {0, 999}) {
            Check.element(() -> x.bestCancellation(0, true, from));
        }
        x.book(0, true, 500);
        for (int from : new int[] {0, 495, 496, 504, 505, 999}) {
            Check.due(0, () -> x.bestCancellation(0, true, from));
        }
        // only without the last one there is a start at all, and it is 999: less than 1000
        ChannelSchedule y = Given.three();
        y.book(2, true, 400);
        y.book(2, true, 500);
        y.book(2, true, 995);
        Check.due(NONE, () -> y.earliestStart(2, true, 996));
        Check.due(2, () -> y.bestCancellation(2, true, 996));
        Check.due(2, () -> y.bestCancellation(2, true, 999));
        // without any single one of them there is no start: all count as 1000
        y.book(2, true, 990);
        Check.due(2, () -> y.bestCancellation(0, false, 975));
        Check.due(0, () -> y.bestCancellation(0, false, 976));
        Check.due(2, () -> y.bestCancellation(2, true, 986));
        Check.due(3, () -> y.bestCancellation(2, true, 991));
        Check.due(4, y::bookingCount);
        Check.part("promise 44: the result that cancel() would have");
        ChannelSchedule z = Given.full();
        z.request(0, false, 0, 12);
        z.request(0, false, 48, 48);
        // 9 and before, 11 and so on are free: the first one needs only a place, and takes 0
        for (int i = 0; i < 20; i++) {
            int b = i;
            Check.due(1, () -> z.servedWithout(b));
        }
        z.advance(12);
        Check.due("0 0 1", () -> z.servedWithout(0) + " " + z.servedWithout(2) + " " + z.servedWithout(19));
        Check.due(1, () -> z.servedWithout(1));
        Check.state(() -> z.cancel(1));
        Check.due(1, () -> z.cancel(19));
    }

    private static void rows() {
        Check.part("promises 32 and 33: no booking, one, 20 of one way, 20 of both ways in turn");
        ChannelSchedule x = Given.swift();
        Check.due("0 0", () -> x.directionSwitches() + " " + x.longestConvoy());
        x.book(0, false, 5);
        Check.due("0 1", () -> x.directionSwitches() + " " + x.longestConvoy());
        x.book(0, true, 4);
        Check.due("1 1", () -> x.directionSwitches() + " " + x.longestConvoy());
        ChannelSchedule y = Given.full();
        Check.due("0 20", () -> y.directionSwitches() + " " + y.longestConvoy());
        ChannelSchedule z = Given.swift();
        for (int i = 0; i < 20; i++) {
            z.book(0, i % 2 == 0, i);
        }
        Check.due("19 1", () -> z.directionSwitches() + " " + z.longestConvoy());
        // the longest at the front, in the middle, at the back
        for (String ways : new String[] {"iiiooi", "oiiioo", "ooiiii", "iooooi"}) {
            ChannelSchedule w = Given.swift();
            for (int i = 0; i < 6; i++) {
                w.book(0, ways.charAt(i) == 'i', 10 * i);
            }
            Check.due(ways.equals("iiiooi") || ways.equals("oiiioo") ? 3 : 4, w::longestConvoy);
            Check.due(ways.equals("ooiiii") ? 1 : 2, w::directionSwitches);
        }
    }

    // ---- counters and shares

    private static void counters() {
        Check.part("promises 47 to 49: since the latest setup");
        ChannelSchedule x = Given.swift();
        Check.due("0 0 0 0", () -> counts(x));
        x.book(0, true, 10);
        Check.due("1 0 0 0", () -> counts(x));
        x.request(0, true, 11, 11);
        Check.due("2 0 0 0", () -> counts(x));
        x.request(0, true, 11, 11);
        x.request(1, true, 11, 11);
        Check.due("2 0 0 0", () -> counts(x));
        Check.due(1, () -> x.cancel(1));
        Check.due("3 1 1 0", () -> counts(x));
        Check.due(1, () -> x.moveBooking(1, 20));
        Check.due("4 1 2 0", () -> counts(x));
        x.setThickness(4);
        x.advance(400);
        Check.due("4 1 2 0", () -> counts(x));
        Check.state(() -> x.cancel(0));
        Check.state(() -> x.book(0, true, 0));
        Check.due("4 1 2 0", () -> counts(x));
        Given.give(x, "book a in 600;cancel 3;").runScript();
        Check.due("5 2 2 0", () -> counts(x));
        x.save(0);
        x.undo();
        Check.due("4 1 2 0", () -> counts(x));
        x.restore(0);
        Check.due("5 2 2 0", () -> counts(x));
        Check.argument(() -> Given.give(x, "channel").load());
        Check.due("5 2 2 0", () -> counts(x));
        Given.give(x, "channel 1 1 1;ship a 1 0 1;").load();
        Check.due("0 0 0 0", () -> counts(x));
    }

    private static String counts(ChannelSchedule x) {
        return x.bookingsMade() + " " + x.bookingsCancelled() + " " + x.requestsServed() + " " + x.inconsistencies();
    }

    private static void shares() {
        Check.part("promises 50 and 51: 0.0f and 0.0 without bookings, the greatest end minute, floats and doubles");
        ChannelSchedule x = Given.loaded("channel 0 0 9;ship a 60 0 1;ship b 1 9 1;ship c 6 9 1;");
        Check.due("0.0 0.0", () -> x.utilization() + " " + x.meanTransit());
        x.book(1, true, 0);
        Check.due("1.0 1.0", () -> x.utilization() + " " + x.meanTransit());
        x.book(1, true, 2);
        Check.due((2.0f / 3.0f) + " 1.0", () -> x.utilization() + " " + x.meanTransit());
        x.advance(1);
        x.cancel(1);
        Check.due("1.0 1.0", () -> x.utilization() + " " + x.meanTransit());
        x.book(0, true, 999);
        Check.due((79.0f / 1077.0f) + " 39.5", () -> x.utilization() + " " + x.meanTransit());
        x.book(2, false, 10);
        Check.due((85.0f / 1077.0f) + " " + 85.0 / 3.0, () -> x.utilization() + " " + x.meanTransit());
        ChannelSchedule y = Given.loaded("channel 0 0 9;ship a 60 0 1;ship b 1 9 1;");
        for (int i = 0; i < 20; i++) {
            y.book(0, true, 980 + i);
        }
        Check.due((97.0f / 1077.0f) + " 78.0", () -> y.utilization() + " " + y.meanTransit());
    }
}
