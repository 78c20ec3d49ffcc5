import java.util.ArrayList;
import java.util.List;

/** At least one test for each promise of the document, with answers figured out by hand. */
public final class PromisesTest {
    private static final int NONE = ChannelSchedule.NONE;
    private static final int MAX = Integer.MAX_VALUE;
    private static final int MIN = Integer.MIN_VALUE;

    private PromisesTest() {
    }

    public static void main(String[] args) {
        newObject();
        input();
        load();
        setupErrors();
        settings();
        ships();
        bookings();
        emptyChannel();
        conflicts();
        freeStarts();
        bestCancellation();
        rowsOfBookings();
        slack();
        whyNotMovable();
        fullSchedule();
        requests();
        feasibility();
        selection();
        servedWithout();
        statistics();
        book();
        request();
        cancel();
        moveBooking();
        withdraw();
        setThickness();
        advance();
        runScript();
        scriptErrors();
        scriptStops();
        undo();
        saves();
        output();
        Check.end("PromisesTest");
    }

    // ---- helpers

    private static void script(ChannelSchedule x, String text, Object due) {
        Given.give(x, text);
        Check.due(due, x::runScript);
    }

    private static void errors(ChannelSchedule x, int code, int position) {
        Check.due(code, x::errorCode);
        Check.due(position, x::errorPosition);
    }

    private static void badSetup(String text, int code, int position) {
        ChannelSchedule x = Given.give(new ChannelSchedule(), text);
        Check.argument(x::load);
        errors(x, code, position);
        Check.due(4, x::shipCount);
        Check.due(0, () -> x.truncate(0));
        Check.argument(() -> x.truncate(1));
    }

    private static void badScript(String text, int code, int position) {
        ChannelSchedule x = Given.give(new ChannelSchedule(), text);
        Check.argument(x::runScript);
        errors(x, code, position);
        Check.state(x::undo);
        Check.argument(() -> x.truncate(1));
        Check.due(0, x::bookingCount);
    }

    private static void starts(ChannelSchedule x, int... starts) {
        Check.due(starts.length, x::bookingCount);
        for (int i = 0; i < starts.length; i++) {
            int booking = i;
            Check.due(starts[i], () -> x.startMinute(booking));
        }
    }

    // ---- promises 1 to 6

    private static void newObject() {
        Check.part("promise 1");
        ChannelSchedule x = new ChannelSchedule();
        Check.due(4, x::shipCount);
        Check.due(5, x::headway);
        Check.due(10, x::clearance);
        Check.due(3, x::thickness);
        Check.due(0, x::minute);
        Check.due(0, x::bookingCount);
        Check.due(0, x::requestCount);
        Check.due(0, x::bookingsMade);
        Check.due(0, x::bookingsCancelled);
        Check.due(0, x::requestsServed);
        Check.due("ann bob cid dot", () -> Given.nameOf(x, 0) + " " + Given.nameOf(x, 1) + " " + Given.nameOf(x, 2)
                + " " + Given.nameOf(x, 3));
        int[][] due = {{20, 3, 4}, {18, 0, 9}, {30, 5, 2}, {17, 2, 7}};
        for (int i = 0; i < 4; i++) {
            int ship = i;
            Check.due(due[i][0], () -> x.transitTime(ship));
            Check.due(due[i][1], () -> x.iceClass(ship));
            Check.due(due[i][2], () -> x.weight(ship));
        }
        errors(x, 0, NONE);
        Check.argument(() -> x.truncate(1));
        Check.state(() -> x.restore(0));
        Check.state(() -> x.restore(1));
        Check.state(x::undo);
        Check.index(() -> x.outputByte(0));
        x.setThickness(0);
        Check.due("20 12 30 15", () -> x.transitTime(0) + " " + x.transitTime(1) + " " + x.transitTime(2) + " "
                + x.transitTime(3));
    }

    private static void input() {
        Check.part("promises 2 and 3");
        ChannelSchedule x = new ChannelSchedule();
        for (int i = 1; i <= 30; i++) {
            Check.due(20 * i, () -> x.append(0, 0, 0, 0, 0));
        }
        Check.state(() -> x.append(0, 0, 0, 0, 0));
        Check.argument(() -> x.truncate(601));
        Check.argument(() -> x.truncate(-1));
        Check.argument(() -> x.truncate(MIN));
        Check.argument(() -> x.truncate(MAX));
        Check.due(600, () -> x.truncate(600));
        Check.due(581, () -> x.truncate(581));
        Check.state(() -> x.append(0, 0, 0, 0, 0));
        Check.argument(() -> x.truncate(582));
        Check.due(580, () -> x.truncate(580));
        Check.due(600, () -> x.append(0, 0, 0, 0, 0));
        Check.due(0, () -> x.truncate(0));
        Check.argument(() -> x.truncate(1));
        // "ann" in each of the places that a number's bytes can take, most significant first
        Check.due(20, () -> x.append(0x616e6e20, 0, 0, 0, 0));
        x.truncate(3);
        Check.due(0, x::findShip);
        x.truncate(0);
        x.append('c' << 24 | 'i' << 16 | 'd' << 8 | 0xff, -1, -1, -1, -1);
        x.truncate(3);
        Check.due(2, x::findShip);
        // all five arguments, in their order: "channel 1 2 3;ship c"
        x.truncate(0);
        Check.due(20, () -> x.append(0x6368616e, 0x6e656c20, 0x31203220, 0x333b7368, 0x69702063));
        Check.due(40, () -> x.append(0x20342035, 0x20363b20, 0x20202020, 0x20202020, 0x20202020));
        Check.due(1, x::load);
        Check.due("1 2 3 c 4 5 6", () -> x.headway() + " " + x.clearance() + " " + x.thickness() + " "
                + Given.nameOf(x, 0) + " " + x.transitTime(0) + " " + x.iceClass(0) + " " + x.weight(0));
    }

    private static void load() {
        Check.part("promise 4");
        ChannelSchedule x = new ChannelSchedule();
        x.book(0, true, 100);
        x.book(1, true, 200);
        x.cancel(1);
        x.request(3, false, 100, 100);
        x.cancel(0);
        x.request(3, false, 100, 100);
        x.advance(5);
        x.save(0);
        x.save(1);
        Given.give(x, "channel 0 30 9;ship\nabcdef 60 9 99 ; ship b 1 0 1;\n\n");
        Check.due(2, x::load);
        errors(x, 0, NONE);
        Check.due(2, x::shipCount);
        Check.due(0, x::headway);
        Check.due(30, x::clearance);
        Check.due(9, x::thickness);
        Check.due("abcdef", () -> Given.nameOf(x, 0));
        Check.due(60, () -> x.transitTime(0));
        Check.due(19, () -> x.transitTime(1));
        Check.due(99, () -> x.weight(0));
        Check.due("0 0 0 0 0 0", () -> x.minute() + " " + x.bookingCount() + " " + x.requestCount() + " "
                + x.bookingsMade() + " " + x.bookingsCancelled() + " " + x.requestsServed());
        Check.state(x::undo);
        Check.state(() -> x.restore(0));
        Check.state(() -> x.restore(1));
        Check.argument(() -> x.truncate(1));
        Check.argument(x::load);
        errors(x, 1, 0);
        Check.due(2, x::shipCount);
        // no space is needed between a word and a number, nor round a semicolon
        Check.due(1, () -> Given.give(x, "channel0007 8 0009;ship a1 2 3;").load());
        Check.due(7, x::headway);
        // ten ships are the most; literal words are names too
        StringBuilder ten = new StringBuilder("channel 1 1 1;");
        for (int i = 0; i < 10; i++) {
            ten.append("ship ").append(i == 3 ? "ship" : "n" + (char) ('a' + i)).append(" 1 0 1;");
        }
        Check.due(10, () -> Given.give(x, ten.toString()).load());
        Check.due(3, () -> Given.give(x, "ship").findShip());
        Check.argument(() -> Given.give(x, ten + "ship z 1 0 1;").load());
        errors(x, 4, ten.length());
        Check.due(10, x::shipCount);
        Check.argument(() -> Given.give(x, ten + "shop z 1 0 1;").load());
        errors(x, 1, ten.length());
        // an error changes nothing else
        ChannelSchedule y = Given.three();
        y.book(0, true, 100);
        y.save(0);
        y.writeSchedule();
        Check.argument(() -> Given.give(y, "channel 9 9 9;ship z 1 1 100;").load());
        Check.due("5 10 0 3 1 10", () -> y.headway() + " " + y.clearance() + " " + y.thickness() + " " + y.shipCount()
                + " " + y.bookingCount() + " " + y.transitTime(0));
        Check.due("a", () -> Given.nameOf(y, 0));
        Check.due((int) 'a', () -> y.outputByte(0));
        Check.due(0, y::undo);
        Check.due(1, () -> y.restore(0));
    }

    private static void setupErrors() {
        Check.part("promises 4 to 6, errors of setup texts");
        badSetup("", 1, 0);
        badSetup("  \n", 1, 3);
        badSetup("chanel 1 1 1;ship a 1 0 1;", 1, 0);
        badSetup("Channel 1 1 1;ship a 1 0 1;", 1, 0);
        badSetup("channels 1 1 1;", 1, 0);
        badSetup("dhannel 1 1 1;", 1, 0);
        badSetup(" ".repeat(600), 1, 600);
        badSetup("channel 1 1 1;" + "a".repeat(586), 1, 14);
        badSetup("channel 1 1 " + "1".repeat(588), 1, 12);
        badSetup("channel", 1, 7);
        badSetup("channel ", 1, 8);
        badSetup("channel 1 1 1", 1, 13);
        badSetup("channel 1 1 1;", 1, 14);
        badSetup("channel 1 1 1; ", 1, 15);
        badSetup("channel 1 1;", 1, 11);
        badSetup("channel 1 1 1 1;", 1, 14);
        badSetup("channel x 1 1;", 1, 8);
        badSetup("channel 31 1 1;", 2, 8);
        badSetup("channel 1 31 99", 2, 10);
        badSetup("channel 1 1 10", 2, 12);
        badSetup("channel 30 30 9;ship", 1, 20);
        badSetup("channel 9999 1 1", 2, 8);
        badSetup("channel 00001 1 1", 1, 8);
        badSetup("channel 1\t1 1", 1, 9);
        badSetup("channel -1 1 1", 1, 8);
        badSetup("channel 1 1 1;ship a 0 0 1;", 2, 21);
        badSetup("channel 1 1 1;ship a 61 0 1;", 2, 21);
        badSetup("channel 1 1 1;ship a 60 10 1;", 2, 24);
        badSetup("channel 1 1 1;ship a 60 9 0;", 2, 26);
        badSetup("channel 1 1 1;ship a 60 9 100;", 2, 26);
        badSetup("channel 1 1 1;ship a 60 9 99", 1, 28);
        badSetup("channel 1 1 1;ship a 60 9;", 1, 25);
        badSetup("channel 1 1 1;ship a 60 9 1 ship", 1, 28);
        badSetup("channel 1 1 1;ship abcdefg 1 0 1;", 3, 19);
        badSetup("channel 1 1 1;ship abcdefgh 1 0 1;", 3, 19);
        badSetup("channel 1 1 1;ship abcdefghi 1 0 1;", 1, 19);
        badSetup("channel 1 1 1;ship 5 1 0 1;", 1, 19);
        badSetup("channel 1 1 1;ship a 1 0 1;ship b 1 0 1;ship a 1 0 1;", 3, 45);
        badSetup("channel 1 1 1;ship a 1 0 1;;", 1, 27);
        badSetup("channel 1 1 1;ship a 1 0 1;ships b", 1, 27);
        badSetup("channel 1 1 1;ship a 1 0 1;\u00e9", 1, 27);
        badSetup("channel 1 1 1;ship a 1 0 1;\0", 1, 27);
        badSetup("channel 1 1 1;ship aB 1 0 1;", 1, 20);
        badSetup("channel 1 1 1;ship a{ 1 0 1;", 1, 20);
        badSetup("channel 1 1 1;ship a` 1 0 1;", 1, 20);
        badSetup("channel 1 1 1:", 1, 13);
        badSetup("channel 1 1 1/", 1, 13);
        // the latest of the two methods counts
        ChannelSchedule x = Given.give(new ChannelSchedule(), "channel 99");
        Check.argument(x::load);
        errors(x, 2, 8);
        script(x, "", 0);
        errors(x, 0, NONE);
        script(x, "advance 1 1", "throws IllegalArgumentException");
        errors(x, 1, 10);
        Check.due(1, () -> Given.give(x, "channel 1 1 1;ship a 1 0 1;").load());
        errors(x, 0, NONE);
    }

    // ---- promises 7 to 16

    private static void settings() {
        Check.part("promises 7 to 11");
        ChannelSchedule x = Given.loaded("channel 30 0 9;ship a 1 0 1;");
        Check.due(1, x::shipCount);
        Check.due(30, x::headway);
        Check.due(0, x::clearance);
        Check.due(9, x::thickness);
        x.setThickness(0);
        Check.due(0, x::thickness);
        x.advance(500);
        x.advance(500);
        x.advance(200);
        Check.due(1200, x::minute);
    }

    private static void ships() {
        Check.part("promises 12 to 15");
        ChannelSchedule x = Given.loaded("channel 1 1 4;ship abcdef 60 0 99;ship b 1 9 1;ship c 5 4 50;");
        Check.due(68, () -> x.transitTime(0));
        Check.due(1, () -> x.transitTime(1));
        Check.due(5, () -> x.transitTime(2));
        x.setThickness(5);
        Check.due(7, () -> x.transitTime(2));
        x.setThickness(9);
        Check.due(78, () -> x.transitTime(0));
        Check.due(1, () -> x.transitTime(1));
        Check.due(9, () -> x.iceClass(1));
        Check.due(0, () -> x.iceClass(0));
        Check.due(99, () -> x.weight(0));
        Check.due(50, () -> x.weight(2));
        Check.due((int) 'a', () -> x.shipNameByte(0, 0));
        Check.due((int) 'f', () -> x.shipNameByte(0, 5));
        Check.due((int) 'b', () -> x.shipNameByte(1, 0));
        for (int i : new int[] {-1, 6, 7, MIN, MAX}) {
            Check.index(() -> x.shipNameByte(0, i));
        }
        Check.index(() -> x.shipNameByte(1, 1));
        for (int i : new int[] {-1, 3, 10, MIN, MAX}) {
            Check.index(() -> x.transitTime(i));
            Check.index(() -> x.iceClass(i));
            Check.index(() -> x.weight(i));
            Check.index(() -> x.shipNameByte(i, 0));
        }
        Check.part("promise 16");
        Check.due(0, () -> Given.give(x, "abcdef").findShip());
        Check.due(1, () -> Given.give(x, "b").findShip());
        Check.due(1, x::findShip);
        Check.due(1, () -> x.truncate(1));
        Check.element(() -> Given.give(x, "").findShip());
        Check.element(() -> Given.give(x, "abcde").findShip());
        Check.element(() -> Given.give(x, "abcdefg").findShip());
        Check.element(() -> Given.give(x, "b ").findShip());
        Check.element(() -> Given.give(x, "\u0162".substring(1) + "z").findShip());
        Check.element(() -> Given.give(x, "B").findShip());
        Check.element(() -> Given.give(x, "b".repeat(600)).findShip());
        Check.due(600, () -> x.truncate(600));
    }

    // ---- promises 17 to 26

    private static void bookings() {
        Check.part("promises 17 to 24");
        ChannelSchedule x = Given.three();
        Check.due(0, x::bookingCount);
        Check.index(() -> x.bookedShip(0));
        x.book(2, false, 100);
        x.book(0, true, 20);
        x.book(1, true, 35);
        Check.due(3, x::bookingCount);
        Check.due("0 1 2", () -> x.bookedShip(0) + " " + x.bookedShip(1) + " " + x.bookedShip(2));
        starts(x, 20, 35, 100);
        Check.due("30 55 130", () -> x.endMinute(0) + " " + x.endMinute(1) + " " + x.endMinute(2));
        Check.due("true true false", () -> x.isInbound(0) + " " + x.isInbound(1) + " " + x.isInbound(2));
        x.setThickness(9);
        Check.due(55, () -> x.endMinute(1));
        for (int i : new int[] {-1, 3, 20, MIN, MAX}) {
            Check.index(() -> x.bookedShip(i));
            Check.index(() -> x.startMinute(i));
            Check.index(() -> x.endMinute(i));
            Check.index(() -> x.isInbound(i));
            Check.index(() -> x.isFinished(i));
            Check.index(() -> x.isUnderWay(i));
        }
        x.advance(19);
        state(x, 0, false, false);
        x.advance(1);
        state(x, 0, false, true);
        x.advance(9);
        state(x, 0, false, true);
        x.advance(1);
        state(x, 0, true, false);
        state(x, 1, false, false);
        x.advance(10);
        state(x, 0, true, false);
        state(x, 1, false, true);
        state(x, 2, false, false);
        ChannelSchedule y = Given.three();
        y.book(2, true, 10);
        y.book(2, true, 15);
        Check.due("0 1 1 2 2 1 0", () -> y.occupancy(9) + " " + y.occupancy(10) + " " + y.occupancy(14) + " "
                + y.occupancy(15) + " " + y.occupancy(39) + " " + y.occupancy(40) + " " + y.occupancy(45));
        Check.due(0, () -> y.occupancy(0));
        Check.due(0, () -> y.occupancy(1200));
        for (int i : new int[] {-1, 1201, MIN, MAX}) {
            Check.argument(() -> y.occupancy(i));
        }
    }

    private static void state(ChannelSchedule x, int booking, boolean isFinished, boolean isUnderWay) {
        Check.due(isFinished, () -> x.isFinished(booking));
        Check.due(isUnderWay, () -> x.isUnderWay(booking));
    }

    private static void emptyChannel() {
        Check.part("promises 25 and 26");
        ChannelSchedule x = Given.three();
        Check.due(1201, () -> x.emptyMinutes(0, 1200));
        Check.due(1201, () -> x.longestEmptyRun(0, 1200));
        Check.due(1, () -> x.emptyMinutes(1200, 1200));
        // 10 to 39 and 15 to 44 together, 60 to 69
        x.book(2, true, 10);
        x.book(2, true, 15);
        x.book(0, false, 60);
        int[][] due = {{0, 1200, 1156, 1131}, {0, 69, 25, 15}, {0, 0, 1, 1}, {9, 10, 1, 1}, {10, 10, 0, 0},
            {10, 44, 0, 0}, {44, 45, 1, 1}, {45, 59, 15, 15}, {40, 65, 15, 15}, {20, 50, 6, 6}, {0, 50, 16, 10},
            {62, 68, 0, 0}, {62, 72, 3, 3}, {1200, 1200, 1, 1}};
        for (int[] d : due) {
            Check.due(d[2], () -> x.emptyMinutes(d[0], d[1]));
            Check.due(d[3], () -> x.longestEmptyRun(d[0], d[1]));
        }
        int[][] bad = {{-1, 5}, {0, 1201}, {1201, 1201}, {6, 5}, {0, -1}, {MIN, MAX}, {0, MAX}, {5, MIN}};
        for (int[] b : bad) {
            Check.argument(() -> x.emptyMinutes(b[0], b[1]));
            Check.argument(() -> x.longestEmptyRun(b[0], b[1]));
        }
    }

    // ---- promises 27 to 35

    private static void conflicts() {
        Check.part("promises 27 and 28");
        ChannelSchedule x = Given.three();
        x.book(1, true, 100);
        x.book(1, true, 200);
        // the same way: a booking from 100 to 120; ship b (20), a (10), c (30)
        Check.due("0 1 1 1 1 1 0", () -> counts(x, 1, true, 95, 96, 99, 100, 101, 104, 105));
        Check.due("0 1 1 1 1 0", () -> counts(x, 0, true, 95, 96, 100, 105, 114, 115));
        Check.due("0 1 1 1 1 0", () -> counts(x, 2, true, 85, 86, 95, 100, 104, 105));
        // the other way
        Check.due("0 1 1 1 0", () -> counts(x, 0, false, 80, 81, 100, 129, 130));
        Check.due("0 1 1 0", () -> counts(x, 2, false, 60, 61, 129, 130));
        Check.due(0, () -> x.firstConflict(1, true, 101));
        Check.due(1, () -> x.firstConflict(1, true, 201));
        Check.due(NONE, () -> x.firstConflict(1, true, 150));
        x.book(1, true, 105);
        Check.due(2, () -> x.conflictCount(1, true, 103));
        Check.due(0, () -> x.firstConflict(1, true, 103));
        Check.due(1, () -> x.firstConflict(1, true, 106));
        Check.due(2, () -> x.conflictCount(0, false, 115));
        // past minutes count as well, and the current transit times do
        x.advance(500);
        Check.due(2, () -> x.conflictCount(1, true, 103));
        x.setThickness(1);
        Check.due("2 1 0", () -> counts(x, 0, true, 112, 117, 118));
        // with headway and clearance 0 equal starts still conflict
        ChannelSchedule y = Given.swift();
        y.book(0, true, 5);
        Check.due("0 1 0", () -> counts(y, 0, true, 4, 5, 6));
        Check.due("0 1 0", () -> counts(y, 0, false, 4, 5, 6));
        // with headway 0 nobody overtakes: equal ends are fine
        ChannelSchedule z = Given.loaded("channel 0 0 0;ship a 10 0 1;ship b 11 0 1;ship c 12 0 1;");
        z.book(1, true, 50);
        Check.due("1 0 0", () -> counts(z, 0, true, 50, 51, 52));
        Check.due("0 1", () -> counts(z, 2, true, 49, 50));
        for (int i : new int[] {-1, 3, MIN, MAX}) {
            Check.index(() -> x.conflictCount(i, true, 0));
            Check.index(() -> x.firstConflict(i, false, 0));
            Check.index(() -> x.conflictCount(i, true, -1));
            Check.index(() -> x.firstConflict(i, true, 1000));
        }
        for (int i : new int[] {-1, 1000, MIN, MAX}) {
            Check.argument(() -> x.conflictCount(0, true, i));
            Check.argument(() -> x.firstConflict(0, true, i));
        }
        Check.due(0, () -> x.conflictCount(0, true, 0));
        Check.due(NONE, () -> x.firstConflict(0, true, 0));
        Check.due(0, () -> x.conflictCount(0, true, 999));
        Check.due(NONE, () -> x.firstConflict(0, true, 999));
    }

    private static String counts(ChannelSchedule x, int ship, boolean in, int... starts) {
        List<String> counts = new ArrayList<>();
        for (int start : starts) {
            counts.add("" + x.conflictCount(ship, in, start));
        }
        return String.join(" ", counts);
    }

    private static void freeStarts() {
        Check.part("promise 29");
        ChannelSchedule x = Given.three();
        Check.due(0, () -> x.earliestStart(0, true, 0));
        Check.due(999, () -> x.earliestStart(0, true, 999));
        x.book(1, true, 10);
        x.book(1, false, 60);
        Check.due(0, () -> x.earliestStart(0, true, 0));
        Check.due(25, () -> x.earliestStart(0, true, 6));
        Check.due(25, () -> x.earliestStart(0, true, 25));
        Check.due(90, () -> x.earliestStart(2, true, 21));
        Check.due(20, () -> x.earliestStart(2, true, 20));
        Check.due(40, () -> x.earliestStart(0, false, 0));
        Check.due(75, () -> x.earliestStart(0, false, 56));
        x.advance(400);
        Check.due(0, () -> x.earliestStart(0, true, 0));
        x.book(2, true, 990);
        Check.due(995, () -> x.earliestStart(2, true, 986));
        Check.due(995, () -> x.earliestStart(2, true, 995));
        Check.due(NONE, () -> x.earliestStart(2, false, 999));
        Check.part("promise 30");
        ChannelSchedule y = Given.three();
        Check.due(0, () -> y.latestStart(2, true, 30));
        Check.due(NONE, () -> y.latestStart(2, true, 29));
        Check.due(NONE, () -> y.latestStart(2, true, 0));
        Check.due(999, () -> y.latestStart(2, true, 1200));
        Check.due(999, () -> y.latestStart(0, true, 1009));
        Check.due(998, () -> y.latestStart(0, true, 1008));
        y.book(1, true, 5);
        y.book(1, false, 100);
        Check.due(80, () -> y.latestStart(0, true, 90));
        Check.due(80, () -> y.latestStart(0, true, 139));
        Check.due(130, () -> y.latestStart(0, true, 140));
        Check.due(105, () -> y.latestStart(1, false, 125));
        Check.due(95, () -> y.latestStart(1, false, 124));
        Check.due(NONE, () -> y.latestStart(0, false, 44));
        Check.due(35, () -> y.latestStart(0, false, 45));
        for (int i : new int[] {-1, 3, MIN, MAX}) {
            Check.index(() -> x.earliestStart(i, true, -1));
            Check.index(() -> x.latestStart(i, true, -1));
        }
        for (int i : new int[] {-1, 1000, MIN, MAX}) {
            Check.argument(() -> x.earliestStart(0, true, i));
        }
        for (int i : new int[] {-1, 1201, MIN, MAX}) {
            Check.argument(() -> x.latestStart(0, true, i));
        }
    }

    private static void bestCancellation() {
        Check.part("promise 31");
        ChannelSchedule x = Given.three();
        Check.element(() -> x.bestCancellation(0, true, 0));
        Check.argument(() -> x.bestCancellation(0, true, -1));
        Check.argument(() -> x.bestCancellation(0, true, 1000));
        Check.index(() -> x.bestCancellation(3, true, -1));
        Check.index(() -> x.bestCancellation(-1, true, 0));
        x.book(1, true, 10);
        x.book(1, true, 50);
        x.book(1, false, 90);
        // without a conflict at the wanted start every booking gives the same: the lowest wins
        Check.due(0, () -> x.bestCancellation(0, true, 200));
        Check.due(1, () -> x.bestCancellation(1, true, 48));
        Check.due(2, () -> x.bestCancellation(1, true, 70));
        Check.due(0, () -> x.bestCancellation(0, true, 12));
        Check.due(3, x::bookingCount);
        // no start at all counts as 1000, and loses against 999
        ChannelSchedule y = Given.three();
        y.book(1, true, 500);
        y.book(2, true, 998);
        Check.due(1, () -> y.bestCancellation(2, true, 999));
        Check.due(1, () -> y.bestCancellation(2, true, 996));
        y.book(2, true, 993);
        Check.due(2, () -> y.bestCancellation(2, true, 999));
        Check.due(0, () -> y.bestCancellation(2, false, 999));
    }

    private static void rowsOfBookings() {
        Check.part("promises 32 and 33");
        ChannelSchedule x = Given.swift();
        Check.due(0, x::directionSwitches);
        Check.due(0, x::longestConvoy);
        String ways = "ioooiiio";
        int[] switches = {0, 1, 1, 1, 2, 2, 2, 3};
        int[] convoys = {1, 1, 2, 3, 3, 3, 3, 3};
        for (int i = 0; i < ways.length(); i++) {
            x.book(0, ways.charAt(i) == 'i', 10 * i);
            Check.due(switches[i], x::directionSwitches);
            Check.due(convoys[i], x::longestConvoy);
        }
        x.book(1, true, 65);
        Check.due(4, x::longestConvoy);
    }

    private static void slack() {
        Check.part("promise 34");
        ChannelSchedule x = Given.three();
        x.book(0, true, 100);
        Check.due(899, () -> x.slack(0));
        x.book(1, true, 200);
        Check.due(95, () -> x.slack(0));
        x.book(0, false, 250);
        Check.due(20, () -> x.slack(1));
        Check.due(749, () -> x.slack(2));
        // the duration of the booking counts, not the current transit time
        x.setThickness(9);
        Check.due(20, () -> x.slack(1));
        x.advance(300);
        Check.due(20, () -> x.slack(1));
        ChannelSchedule y = Given.three();
        y.book(2, true, 100);
        y.book(0, true, 125);
        Check.due(0, () -> y.slack(0));
        Check.due(874, () -> y.slack(1));
        y.book(0, true, 999);
        Check.due(0, () -> y.slack(2));
        for (int i : new int[] {-1, 3, MIN, MAX}) {
            Check.index(() -> x.slack(i));
        }
    }

    private static void whyNotMovable() {
        Check.part("promise 35");
        ChannelSchedule x = Given.three();
        x.book(0, true, 10);
        x.book(0, true, 50);
        x.book(1, false, 100);
        Check.due(0, () -> x.whyNotMovable(0, 10));
        Check.due(0, () -> x.whyNotMovable(0, 0));
        Check.due(0, () -> x.whyNotMovable(1, 12 + 3));
        Check.due(3, () -> x.whyNotMovable(1, 14));
        Check.due(0, () -> x.whyNotMovable(1, 80));
        Check.due(3, () -> x.whyNotMovable(1, 81));
        Check.due(0, () -> x.whyNotMovable(1, 999));
        x.setThickness(9);
        Check.due(0, () -> x.whyNotMovable(1, 80));
        x.advance(9);
        Check.due(0, () -> x.whyNotMovable(0, 9));
        Check.due(2, () -> x.whyNotMovable(0, 8));
        x.advance(1);
        Check.due(1, () -> x.whyNotMovable(0, 0));
        Check.due(1, () -> x.whyNotMovable(0, 900));
        x.advance(35);
        Check.due(1, () -> x.whyNotMovable(0, 900));
        Check.due(2, () -> x.whyNotMovable(1, 44));
        Check.due(0, () -> x.whyNotMovable(1, 45));
        Check.due(2, () -> x.whyNotMovable(2, 15));
        Check.due(3, () -> x.whyNotMovable(2, 55));
        for (int i : new int[] {-1, 3, MIN, MAX}) {
            Check.index(() -> x.whyNotMovable(i, -1));
            Check.index(() -> x.whyNotMovable(i, 0));
        }
        for (int i : new int[] {-1, 1000, MIN, MAX}) {
            Check.argument(() -> x.whyNotMovable(0, i));
        }
    }

    private static void fullSchedule() {
        Check.part("promises 17 to 52 with 20 bookings");
        ChannelSchedule x = Given.full();
        x.request(1, true, 10, 10);
        for (int i = 1; i < 8; i++) {
            x.request(1, false, 10 + 2 * i, 10 + 2 * i);
        }
        Check.due("20 8", () -> x.bookingCount() + " " + x.requestCount());
        Check.due("1 0", () -> x.occupancy(48) + " " + x.occupancy(49));
        Check.due(1181, () -> x.emptyMinutes(0, 1200));
        Check.due(1152, () -> x.longestEmptyRun(0, 1200));
        Check.due("1 0", () -> counts(x, 0, true, 48, 999));
        Check.due(19, () -> x.firstConflict(0, true, 48));
        Check.due(NONE, () -> x.firstConflict(0, true, 999));
        Check.due(49, () -> x.earliestStart(0, true, 48));
        Check.due(47, () -> x.latestStart(0, true, 49));
        Check.due(19, () -> x.bestCancellation(0, true, 48));
        Check.due(0, x::directionSwitches);
        Check.due(20, x::longestConvoy);
        Check.due(951, () -> x.slack(19));
        Check.due(1, () -> x.slack(18));
        Check.due(3, () -> x.whyNotMovable(18, 48));
        Check.due(0, () -> x.whyNotMovable(19, 500));
        Check.due(0, x::bestValue);
        Check.due(false, () -> x.isSelected(7));
        Check.due(16, x::waitingWeight);
        Check.due(1, () -> x.servedWithout(0));
        Check.due(0, () -> x.servedWithout(19));
        Check.due(20.0f / 49.0f, x::utilization);
        Check.due(1.0, x::meanTransit);
        Check.due(0, x::inconsistencies);
        Check.due(159, x::writeSchedule);
        Check.index(() -> x.bookedShip(20));
        Check.index(() -> x.withdraw(8));
        Check.due(0, () -> x.moveBooking(0, 999));
        Check.due(0, () -> x.advance(10));
        Check.due(9, () -> x.advance(19));
        Check.due(1, () -> x.withdraw(7));
        Check.due(0, () -> x.cancel(19));
        Check.due(19, x::bookingCount);
    }

    // ---- promises 36 to 46

    private static void requests() {
        Check.part("promises 36 to 40 and 46");
        ChannelSchedule x = Given.three();
        Check.due(0, x::requestCount);
        Check.due(0, x::waitingWeight);
        Check.index(() -> x.requestedShip(0));
        x.book(1, true, 100);
        x.request(2, false, 100, 105);
        x.request(0, true, 101, 101);
        x.request(2, false, 95, 99);
        Check.due(3, x::requestCount);
        Check.due("2 0 2", () -> x.requestedShip(0) + " " + x.requestedShip(1) + " " + x.requestedShip(2));
        Check.due("false true false", () -> x.isRequestInbound(0) + " " + x.isRequestInbound(1) + " "
                + x.isRequestInbound(2));
        Check.due("100 101 95", () -> x.earliestRequested(0) + " " + x.earliestRequested(1) + " "
                + x.earliestRequested(2));
        Check.due("105 101 99", () -> x.latestRequested(0) + " " + x.latestRequested(1) + " " + x.latestRequested(2));
        Check.due(7, x::waitingWeight);
        for (int i : new int[] {-1, 3, 8, MIN, MAX}) {
            Check.index(() -> x.requestedShip(i));
            Check.index(() -> x.isRequestInbound(i));
            Check.index(() -> x.earliestRequested(i));
            Check.index(() -> x.latestRequested(i));
            Check.index(() -> x.whyNotFeasible(i));
            Check.index(() -> x.isSelected(i));
            Check.index(() -> x.feasibleStart(i));
            Check.index(() -> x.withdraw(i));
        }
    }

    private static void feasibility() {
        Check.part("promises 41 and 45");
        ChannelSchedule x = Given.three();
        x.book(1, true, 100);
        x.request(0, false, 90, 110);
        Check.due(3, () -> x.whyNotFeasible(0));
        Check.due(NONE, () -> x.feasibleStart(0));
        x.advance(110);
        Check.due(3, () -> x.whyNotFeasible(0));
        x.advance(1);
        Check.due(1, () -> x.whyNotFeasible(0));
        Check.due(NONE, () -> x.feasibleStart(0));
        Check.due(1, x::requestCount);
        // with 20 bookings nothing is feasible, but a latest minute in the past comes first
        ChannelSchedule y = Given.full();
        y.request(0, true, 60, 70);
        Check.due(2, () -> y.whyNotFeasible(0));
        Check.due(NONE, () -> y.feasibleStart(0));
        y.request(0, true, 0, 5);
        y.advance(6);
        Check.due(2, () -> y.whyNotFeasible(0));
        Check.due(1, () -> y.whyNotFeasible(1));
        // a slower ship ends later, so it may start sooner behind one that it must not overtake
        ChannelSchedule z = Given.three();
        z.book(2, true, 100);
        z.setThickness(5);
        z.request(0, true, 110, 112);
        Check.due(1, z::requestCount);
        Check.due(3, () -> z.whyNotFeasible(0));
        Check.due(1, () -> z.setThickness(7));
        starts(z, 100, 111);
    }

    private static void selection() {
        Check.part("promises 42 and 43");
        ChannelSchedule x = Given.full();
        Check.due(0, x::bestValue);
        // all at 100: one of them; b is worth more
        x.request(0, true, 100, 100);
        Check.due(1, x::bestValue);
        Check.due(true, () -> x.isSelected(0));
        x.request(1, true, 100, 200);
        Check.due(2, x::bestValue);
        selected(x, "01");
        x.request(1, false, 100, 200);
        selected(x, "010");
        x.request(0, true, 101, 200);
        selected(x, "0101");
        Check.due(3, x::bestValue);
        // what the schedule forbids is never selected
        x.request(1, true, 10, 200);
        selected(x, "01010");
        // neither the current minute nor the limit of bookings matters
        x.request(0, true, 5, 6);
        selected(x, "010101");
        x.advance(150);
        selected(x, "010101");
        Check.due(4, x::bestValue);
        // the schedule forbids the request at the front
        ChannelSchedule f = Given.three();
        f.book(1, true, 100);
        f.request(0, false, 100, 100);
        selected(f, "0");
        Check.due(0, f::bestValue);
        f.request(0, true, 102, 102);
        f.request(2, false, 90, 110);
        selected(f, "000");
        // two light ones against a heavy one of the same value: the lowest number wins
        ChannelSchedule y = Given.loaded("channel 3 3 0;ship a 5 0 1;ship b 9 0 2;ship c 5 0 3;");
        for (int i = 0; i < 20; i++) {
            y.book(0, true, 200 + 5 * i);
        }
        y.request(0, false, 14, 14);
        y.request(1, true, 19, 19);
        selected(y, "01");
        y.request(0, false, 28, 28);
        Check.due(2, y::bestValue);
        selected(y, "101");
        ChannelSchedule z = Given.loaded("channel 3 3 0;ship a 5 0 1;ship b 9 0 2;ship c 5 0 3;");
        for (int i = 0; i < 20; i++) {
            z.book(0, true, 200 + 5 * i);
        }
        z.request(1, true, 19, 19);
        z.request(0, false, 14, 14);
        z.request(0, false, 28, 28);
        selected(z, "100");
        z.request(2, true, 40, 40);
        selected(z, "1001");
        Check.due(5, z::bestValue);
        // the current transit times count: with 3 more units b, from 19 to 34, still goes, and so do all but a at 28
        z.setThickness(3);
        selected(z, "1001");
        z.setThickness(9);
        selected(z, "1001");
        z.request(2, false, 46, 46);
        selected(z, "10010");
    }

    private static void selected(ChannelSchedule x, String due) {
        StringBuilder got = new StringBuilder();
        for (int i = 0; i < x.requestCount(); i++) {
            got.append(x.isSelected(i) ? '1' : '0');
        }
        Check.due(due, got::toString);
    }

    private static void servedWithout() {
        Check.part("promise 44");
        ChannelSchedule x = Given.three();
        x.book(1, true, 100);
        x.book(1, true, 200);
        x.request(0, false, 100, 100);
        x.request(0, false, 105, 105);
        x.request(0, false, 101, 101);
        x.request(0, false, 205, 205);
        Check.due(2, () -> x.servedWithout(0));
        Check.due(1, () -> x.servedWithout(1));
        Check.due("2 4 2 0 0", () -> x.bookingCount() + " " + x.requestCount() + " " + x.bookingsMade() + " "
                + x.bookingsCancelled() + " " + x.requestsServed());
        starts(x, 100, 200);
        Check.index(() -> x.servedWithout(2));
        Check.index(() -> x.servedWithout(-1));
        Check.index(() -> x.servedWithout(MAX));
        Check.due(2, () -> x.cancel(0));
        x.undo();
        // under way or finished: as if it was not, but the minute counts
        x.advance(101);
        Check.due(1, () -> x.servedWithout(0));
        Check.state(() -> x.cancel(0));
        x.advance(99);
        Check.due(0, () -> x.servedWithout(0));
        Check.due(1, () -> x.servedWithout(1));
        Check.due(5, x::undo);
        Check.due(101, x::minute);
    }

    // ---- promises 47 to 52

    private static void statistics() {
        Check.part("promises 47 to 52");
        ChannelSchedule x = Given.three();
        Check.due(0.0f, x::utilization);
        Check.due(0.0, x::meanTransit);
        Check.due(0, x::inconsistencies);
        x.book(0, true, 0);
        Check.due(1.0f, x::utilization);
        Check.due(10.0, x::meanTransit);
        x.book(1, true, 5);
        Check.due(1.0f, x::utilization);
        x.book(0, true, 65);
        Check.due(35.0f / 75.0f, x::utilization);
        Check.due(40.0 / 3.0, x::meanTransit);
        Check.due("3 0 0", () -> x.bookingsMade() + " " + x.bookingsCancelled() + " " + x.requestsServed());
        // served at once: a booking, but not one from the waiting list
        x.request(0, true, 100, 100);
        Check.due("4 0 0", () -> x.bookingsMade() + " " + x.bookingsCancelled() + " " + x.requestsServed());
        x.request(0, false, 100, 100);
        Check.due("4 0 0", () -> x.bookingsMade() + " " + x.bookingsCancelled() + " " + x.requestsServed());
        x.cancel(3);
        Check.due("5 1 1", () -> x.bookingsMade() + " " + x.bookingsCancelled() + " " + x.requestsServed());
        x.moveBooking(3, 300);
        Check.due("5 1 1", () -> x.bookingsMade() + " " + x.bookingsCancelled() + " " + x.requestsServed());
        Check.due(0, x::inconsistencies);
        x.undo();
        x.undo();
        Check.due("4 0 0", () -> x.bookingsMade() + " " + x.bookingsCancelled() + " " + x.requestsServed());
        Check.due(0, x::inconsistencies);
        // the greatest end need not be that of the last booking: with headway 0 two may end together
        ChannelSchedule y = Given.loaded("channel 0 0 0;ship a 10 0 1;ship b 9 0 1;");
        y.book(0, true, 10);
        y.book(1, true, 11);
        Check.due(0.5f, y::utilization);
        Check.due(9.5, y::meanTransit);
        Check.due(0, y::inconsistencies);
        y.book(0, true, 999);
        Check.due(20.0f / 1009.0f, y::utilization);
    }

    // ---- promises 53 to 59

    private static void book() {
        Check.part("promise 53");
        ChannelSchedule x = Given.three();
        for (int i : new int[] {-1, 3, 10, MIN, MAX}) {
            Check.index(() -> x.book(i, true, -1));
            Check.index(() -> x.book(i, true, 0));
        }
        for (int i : new int[] {-1, 1000, MIN, MAX}) {
            Check.argument(() -> x.book(0, true, i));
        }
        Check.state(x::undo);
        Check.due(10, () -> x.book(0, true, 0));
        Check.due(1029, () -> x.book(2, false, 999));
        Check.state(() -> x.book(0, true, 4));
        Check.due(15, () -> x.book(0, true, 5));
        starts(x, 0, 5, 999);
        x.setThickness(9);
        Check.due(83, () -> x.book(2, true, 35));
        x.advance(200);
        Check.argument(() -> x.book(0, true, -1));
        Check.state(() -> x.book(0, true, 199));
        Check.due(228, () -> x.book(0, true, 200));
        Check.due(5, x::bookingCount);
        ChannelSchedule y = Given.full();
        Check.state(() -> y.book(0, true, 900));
        Check.argument(() -> y.book(0, true, 1000));
        Check.due(20, y::bookingCount);
        Check.due(0, () -> y.cancel(19));
        Check.due(901, () -> y.book(0, true, 900));
    }

    private static void request() {
        Check.part("promise 54");
        ChannelSchedule x = Given.three();
        for (int i : new int[] {-1, 3, MIN, MAX}) {
            Check.index(() -> x.request(i, true, -1, -1));
        }
        int[][] bad = {{-1, 5}, {1000, 1000}, {6, 5}, {0, 1000}, {0, -1}, {MIN, 5}, {5, MAX}, {MAX, MAX}};
        for (int[] b : bad) {
            Check.argument(() -> x.request(0, true, b[0], b[1]));
        }
        Check.state(x::undo);
        Check.due(0, () -> x.request(0, true, 0, 0));
        Check.due(5, () -> x.request(0, true, 3, 5));
        Check.due(NONE, () -> x.request(0, true, 3, 9));
        Check.due(25, () -> x.request(0, false, 3, 100));
        Check.due(999, () -> x.request(0, false, 999, 999));
        starts(x, 0, 5, 25, 999);
        Check.due(1, x::requestCount);
        x.advance(50);
        Check.due(50, () -> x.request(0, true, 45, 60));
        Check.due(NONE, () -> x.request(0, true, 45, 49));
        Check.due(2, x::requestCount);
        for (int i = 2; i < 8; i++) {
            Check.due(NONE, () -> x.request(0, true, 45, 49));
        }
        Check.due(8, x::requestCount);
        int undoable = 5;
        Check.state(() -> x.request(0, true, 45, 49));
        Check.argument(() -> x.request(0, true, 50, 49));
        Check.due(8, x::requestCount);
        // a full list does not keep a feasible request away
        Check.due(200, () -> x.request(0, true, 200, 200));
        Check.due(undoable, x::undo);
        // with 20 bookings it waits
        ChannelSchedule y = Given.full();
        Check.due(NONE, () -> y.request(0, true, 900, 900));
        Check.due(1, () -> y.cancel(0));
    }

    private static void cancel() {
        Check.part("promise 55");
        ChannelSchedule x = Given.three();
        Check.index(() -> x.cancel(0));
        x.book(0, true, 10);
        x.book(1, true, 50);
        x.book(2, false, 100);
        x.book(1, false, 200);
        x.request(1, true, 100, 103);
        x.request(1, true, 100, 107);
        x.request(1, false, 101, 101);
        x.request(1, true, 100, 105);
        for (int i : new int[] {-1, 4, MIN, MAX}) {
            Check.index(() -> x.cancel(i));
        }
        // from the front to the back: the first and the second are served, the fourth no more
        Check.due(2, () -> x.cancel(2));
        starts(x, 10, 50, 100, 105, 200);
        Check.due(2, x::requestCount);
        Check.due("101 100", () -> x.earliestRequested(0) + " " + x.earliestRequested(1));
        Check.due("6 1 2", () -> x.bookingsMade() + " " + x.bookingsCancelled() + " " + x.requestsServed());
        Check.due(0, () -> x.cancel(0));
        starts(x, 50, 100, 105, 200);
        x.advance(49);
        x.advance(1);
        Check.state(() -> x.cancel(0));
        x.advance(40);
        Check.state(() -> x.cancel(0));
        starts(x, 50, 100, 105, 200);
        x.advance(9);
        Check.due(1, () -> x.cancel(1));
        Check.due(1, x::requestCount);
    }

    private static void moveBooking() {
        Check.part("promise 56");
        ChannelSchedule x = Given.three();
        Check.index(() -> x.moveBooking(0, 0));
        x.book(0, true, 10);
        x.book(1, true, 50);
        x.book(2, false, 100);
        x.request(1, true, 100, 103);
        x.request(0, false, 14, 15);
        for (int i : new int[] {-1, 3, MIN, MAX}) {
            Check.index(() -> x.moveBooking(i, -1));
        }
        for (int i : new int[] {-1, 1000, MIN, MAX}) {
            Check.argument(() -> x.moveBooking(0, i));
        }
        Check.state(() -> x.moveBooking(0, 90));
        Check.due(0, () -> x.moveBooking(0, 0));
        x.undo();
        x.setThickness(4);
        Check.due(1, () -> x.moveBooking(0, 300));
        // 28 minutes of b from 100 on do not go with c at 100: only a, from 14 to 32, is served
        Check.due("a<14-32 b>50-70 c<100-130 a>300-310", () -> Given.written(x));
        Check.due(1, () -> x.moveBooking(2, 999));
        Check.due("a<14-32 b>50-70 b>100-128 a>300-310 c<999-1029", () -> Given.written(x));
        Check.state(() -> x.moveBooking(3, 64));
        Check.due(0, () -> x.moveBooking(3, 65));
        Check.due("a<14-32 b>50-70 a>65-75 b>100-128 c<999-1029", () -> Given.written(x));
        Check.due(0, () -> x.moveBooking(2, 65));
        x.advance(14);
        Check.state(() -> x.moveBooking(0, 20));
        Check.state(() -> x.moveBooking(1, 13));
        Check.due(0, () -> x.moveBooking(1, 49));
        Check.due(0, x::inconsistencies);
    }

    private static void withdraw() {
        Check.part("promise 57");
        ChannelSchedule x = Given.three();
        x.book(1, true, 100);
        x.request(0, false, 100, 101);
        x.request(1, false, 102, 103);
        x.request(2, false, 104, 105);
        Check.index(() -> x.withdraw(3));
        Check.index(() -> x.withdraw(-1));
        Check.due(1, () -> x.withdraw(1));
        Check.due("2 0 2 104 105", () -> x.requestCount() + " " + x.requestedShip(0) + " " + x.requestedShip(1) + " "
                + x.earliestRequested(1) + " " + x.latestRequested(1));
        Check.due(0, () -> x.withdraw(0));
        Check.due(2, () -> x.withdraw(0));
        Check.index(() -> x.withdraw(0));
        Check.due(0, x::requestsServed);
        x.undo();
        Check.due(1, x::requestCount);
    }

    private static void setThickness() {
        Check.part("promise 58");
        ChannelSchedule x = Given.loaded("channel 5 10 9;ship a 10 5 1;ship b 20 9 2;");
        for (int i : new int[] {-1, 10, MIN, MAX}) {
            Check.argument(() -> x.setThickness(i));
        }
        Check.due(9, x::thickness);
        Check.due(18, () -> x.transitTime(0));
        x.book(1, true, 100);
        x.book(1, true, 200);
        Check.due(NONE, () -> x.request(0, false, 75, 75));
        Check.due(NONE, () -> x.request(0, false, 180, 190));
        Check.due(0, () -> x.setThickness(8));
        Check.due(1, () -> x.setThickness(7));
        Check.due("a<75-89 b>100-120 b>200-220", () -> Given.written(x));
        Check.due(0, () -> x.setThickness(6));
        Check.due(1, () -> x.setThickness(5));
        Check.due("a<75-89 b>100-120 a<180-190 b>200-220", () -> Given.written(x));
        Check.due(0, () -> x.setThickness(5));
        Check.due(5, x::thickness);
        Check.due(0, () -> x.setThickness(0));
        Check.due(10, () -> x.transitTime(0));
    }

    private static void advance() {
        Check.part("promise 59");
        ChannelSchedule x = Given.three();
        for (int i : new int[] {0, -1, 501, MIN, MAX}) {
            Check.argument(() -> x.advance(i));
        }
        x.book(0, true, 10);
        x.book(0, true, 20);
        x.book(0, false, 500);
        Check.due(0, () -> x.advance(19));
        Check.due(1, () -> x.advance(1));
        Check.due(0, () -> x.advance(1));
        Check.due(2, () -> x.advance(489));
        Check.due(510, x::minute);
        Check.due(0, x::requestCount);
        x.undo();
        x.undo();
        Check.due(2, () -> x.advance(499));
        Check.due(519, x::minute);
        Check.due(0, () -> x.advance(500));
        Check.state(() -> x.advance(182));
        Check.argument(() -> x.advance(501));
        Check.due(0, () -> x.advance(181));
        Check.due(1200, x::minute);
        Check.state(() -> x.advance(1));
        Check.argument(() -> x.advance(0));
        Check.due(1200, x::minute);
    }

    // ---- promise 60

    private static void runScript() {
        Check.part("promise 60");
        ChannelSchedule x = Given.three();
        script(x, "", 0);
        Check.due(0, x::undo);
        script(x, "book a in 10;book\nb out 0100 ;request c in 10 20;cancel1;", 4);
        errors(x, 0, NONE);
        Check.argument(() -> x.truncate(1));
        Check.due("a>10-20 b<100-120", () -> Given.written(x));
        Check.due(0, x::undo);
        Check.due(0, x::bookingCount);
        script(x, "book b in 100;request a out 100 100;request a out 101 101;withdraw 0;move 0 200;ice 3;"
                + "advance 7;", 7);
        Check.due("a<101-111 b>200-220", () -> Given.written(x));
        Check.due("3 7", () -> x.thickness() + " " + x.minute());
        Check.due(0, x::undo);
        Check.due("0 0 0", () -> x.thickness() + " " + x.minute() + " " + x.requestCount());
        // 30 commands are the most
        String thirty = "advance 1;".repeat(30);
        script(x, thirty, 30);
        Check.due(30, x::minute);
        script(x, thirty + "advance 1;", "throws IllegalArgumentException");
        errors(x, 4, 300);
        script(x, thirty + "advances", "throws IllegalArgumentException");
        errors(x, 1, 300);
        script(x, thirty + "5", "throws IllegalArgumentException");
        errors(x, 1, 300);
        script(x, thirty + "ship", "throws IllegalArgumentException");
        errors(x, 1, 300);
        Check.due(30, x::minute);
        Check.due(0, x::undo);
    }

    private static void scriptErrors() {
        Check.part("promises 5, 6 and 60, errors of scripts");
        badScript(";", 1, 0);
        badScript("5", 1, 0);
        badScript("ship ann 1 0 1;", 1, 0);
        badScript("Book ann in 5;", 1, 0);
        badScript("book ann in 5", 1, 13);
        badScript("book ann in 5 \n", 1, 15);
        badScript("book ann in 5;book", 1, 18);
        badScript("book ann in 5;boo", 1, 14);
        badScript("book ann 5;", 1, 9);
        badScript("book ann inn 5;", 1, 9);
        badScript("book ann in out;", 1, 12);
        badScript("book ann in 5 6;", 1, 14);
        badScript("book 5 in 5;", 1, 5);
        badScript("book ;", 1, 5);
        badScript("book eve in 5;", 3, 5);
        badScript("book an in 5;", 3, 5);
        badScript("book anna in 5;", 3, 5);
        badScript("book annannan in 5;", 3, 5);
        badScript("book annannann in 5;", 1, 5);
        badScript("request ann in 5;", 1, 16);
        badScript("request eve in 5 6;", 3, 8);
        badScript("request ann in 5 6 7;", 1, 19);
        badScript("cancel;", 1, 6);
        badScript("cancel ann;", 1, 7);
        badScript("cancel 00000;", 1, 7);
        badScript("cancel 1 1;", 1, 9);
        badScript("took ann in 5;", 1, 0);
        badScript("request ann in 5", 1, 16);
        badScript("move 1", 1, 6);
        badScript("move 1;", 1, 6);
        badScript("move 1 1 1;", 1, 9);
        badScript("withdraw;", 1, 8);
        badScript("withdrawn 0;", 1, 0);
        badScript("ice;", 1, 3);
        badScript("advance 1,", 1, 9);
        badScript("advance 1;\r\n", 1, 10);
        badScript("book ann in 5;advance 1;cancel 12345;", 1, 31);
        // numbers are not checked by the parser
        script(new ChannelSchedule(), "ice 9999;", 0);
        script(new ChannelSchedule(), "ice 9;ice 0;ice 0000;", 3);
        script(new ChannelSchedule(), "book ann in 9999;", 0);
        script(new ChannelSchedule(), "ice 1;" + "\n".repeat(594), 1);
    }

    private static void scriptStops() {
        Check.part("promise 60, commands that throw");
        String[] stopping = {"book a in 1000;", "book a in 9;", "book a in 102;", "request a in 5 4;",
            "request a in 0 1000;", "cancel 1;", "move 1 5;", "move 0 1000;", "move 0 9;", "withdraw 0;", "ice 10;",
            "advance 0;", "advance 501;"};
        for (String command : stopping) {
            ChannelSchedule x = Given.three();
            x.advance(10);
            script(x, "book a in 100;" + command + "book a in 200;", 1);
            starts(x, 100);
            Check.due("10 0 0", () -> x.minute() + " " + x.thickness() + " " + x.requestCount());
            Check.due(1, x::undo);
            starts(x);
        }
        ChannelSchedule x = Given.three();
        script(x, "book a in 10;advance 10;cancel 0;ice 1;", 2);
        script(x, "move 0 50;ice 1;", 0);
        script(x, "advance 500;advance 500;advance 191;advance 190;", 2);
        ChannelSchedule y = Given.full();
        script(y, "book a in 900;ice 1;", 0);
        script(y, "request a in 900 900;".repeat(9), 8);
    }

    // ---- promises 61 to 65

    private static void undo() {
        Check.part("promise 61");
        ChannelSchedule x = Given.three();
        Check.state(x::undo);
        for (int i = 0; i < 9; i++) {
            x.book(0, true, 100 + 10 * i);
        }
        for (int i = 5; i >= 0; i--) {
            int left = i;
            Check.due(left, x::undo);
            Check.due(3 + left, x::bookingCount);
            Check.due(3 + left, x::bookingsMade);
        }
        Check.state(x::undo);
        Check.due(3, x::bookingCount);
        // every change counts, what throws does not, and saving is none
        x.book(2, false, 500);
        x.request(0, true, 500, 500);
        x.setThickness(0);
        x.moveBooking(3, 510);
        x.withdraw(0);
        Check.state(() -> x.book(0, true, 510));
        Check.index(() -> x.withdraw(0));
        x.save(0);
        x.advance(5);
        x.writeSchedule();
        Given.give(x, "book");
        Check.due(5, x::undo);
        Check.due(4, () -> x.truncate(4));
        Check.due(0, x::minute);
        Check.due(4, x::undo);
        Check.due(1, x::requestCount);
        Check.due(3, x::undo);
        Check.due(500, () -> x.startMinute(3));
        Check.due(2, x::undo);
        Check.due(1, x::undo);
        Check.due(0, x::requestCount);
        Check.due(0, x::undo);
        Check.due(3, x::bookingCount);
        Check.due((int) 'a', () -> x.outputByte(0));
        Check.due(4, () -> x.restore(0));
        // all of the state comes back, and a new change follows the undone one
        ChannelSchedule y = Given.three();
        y.book(1, true, 100);
        y.request(0, false, 100, 100);
        y.cancel(0);
        Check.due(2, y::undo);
        Check.due("1 1 1 0 0", () -> y.bookingCount() + " " + y.requestCount() + " " + y.bookingsMade() + " "
                + y.bookingsCancelled() + " " + y.requestsServed());
        y.setThickness(4);
        Check.due(2, y::undo);
        Check.due("0 1", () -> y.thickness() + " " + y.requestCount());
        // errors and their text stay
        Check.argument(() -> Given.give(y, "ice").runScript());
        y.undo();
        errors(y, 1, 3);
    }

    private static void saves() {
        Check.part("promises 62 and 63");
        ChannelSchedule x = Given.three();
        for (int i : new int[] {-1, 2, MIN, MAX}) {
            Check.index(() -> x.save(i));
            Check.index(() -> x.restore(i));
        }
        Check.state(() -> x.restore(0));
        Check.due(0, () -> x.save(0));
        x.book(1, true, 100);
        x.request(0, false, 100, 100);
        x.setThickness(3);
        x.advance(2);
        Check.due(1, () -> x.save(1));
        x.cancel(0);
        x.book(0, true, 300);
        Check.due(2, x::bookingCount);
        Check.due(1, () -> x.restore(1));
        Check.due("3 2 1 1 1 0 0", () -> x.thickness() + " " + x.minute() + " " + x.bookingCount() + " "
                + x.requestCount() + " " + x.bookingsMade() + " " + x.bookingsCancelled() + " " + x.requestsServed());
        Check.state(x::undo);
        x.cancel(0);
        Check.due(1, () -> x.restore(1));
        Check.due(1, x::requestCount);
        Check.due(0, () -> x.restore(0));
        Check.due("0 0 0 0", () -> x.thickness() + " " + x.minute() + " " + x.requestCount() + " " + x.bookingsMade());
        x.book(0, true, 7);
        Check.due(1, () -> x.save(0));
        Check.due(0, x::undo);
        Check.due(0, x::bookingCount);
        x.writeSchedule();
        Given.give(x, "b");
        Check.due(1, () -> x.restore(0));
        Check.due(1, x::findShip);
        Check.due(7, () -> x.startMinute(0));
        Check.index(() -> x.outputByte(0));
    }

    private static void output() {
        Check.part("promises 64 and 65");
        ChannelSchedule x = Given.loaded("channel 0 0 0;ship a 1 0 1;ship abcdef 60 0 1;");
        Check.index(() -> x.outputByte(0));
        Check.due(0, x::writeSchedule);
        Check.index(() -> x.outputByte(0));
        x.book(0, true, 0);
        Check.due(5, x::writeSchedule);
        Check.due("a>0-1", () -> Given.written(x));
        x.book(1, false, 999);
        x.book(0, false, 9);
        x.book(0, true, 99);
        Check.due("a>0-1", () -> "" + (char) x.outputByte(0) + (char) x.outputByte(1) + (char) x.outputByte(2)
                + (char) x.outputByte(3) + (char) x.outputByte(4));
        Check.index(() -> x.outputByte(5));
        Check.due("a>0-1 a<9-10 a>99-100 abcdef<999-1059", () -> Given.written(x));
        Check.due(37, x::writeSchedule);
        for (int i : new int[] {-1, 37, 320, MIN, MAX}) {
            Check.index(() -> x.outputByte(i));
        }
        x.cancel(3);
        x.cancel(2);
        Check.due("a>0-1 a<9-10", () -> Given.written(x));
        Check.due(12, x::writeSchedule);
        Check.index(() -> x.outputByte(12));
        // numbers at the change of their digits
        ChannelSchedule z = Given.loaded("channel 0 0 0;ship a 1 0 1;");
        for (int start : new int[] {0, 8, 9, 10, 98, 99, 100, 998, 999}) {
            z.book(0, true, start);
        }
        Check.due("a>0-1 a>8-9 a>9-10 a>10-11 a>98-99 a>99-100 a>100-101 a>998-999 a>999-1000", () -> Given.written(z));
        // the longest output
        ChannelSchedule y = Given.loaded("channel 0 0 9;ship abcdef 60 0 1;");
        for (int i = 0; i < 20; i++) {
            y.book(0, true, 980 + i);
        }
        StringBuilder due = new StringBuilder();
        for (int i = 0; i < 20; i++) {
            due.append(i == 0 ? "" : " ").append("abcdef>").append(980 + i).append("-").append(1058 + i);
        }
        Check.due(due, () -> Given.written(y));
        Check.due(20 * 16 - 1, y::writeSchedule);
    }
}
