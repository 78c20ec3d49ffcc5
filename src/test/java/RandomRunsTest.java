import java.nio.charset.StandardCharsets;
import java.util.Arrays;
import java.util.List;
import java.util.Random;
import java.util.concurrent.Callable;

/** Long runs of calls, the same in every session, each answer compared with that of PlainChannel. */
public final class RandomRunsTest {
    private static final int RUNS = 500;
    private static final int CALLS = 500;
    private static final int[] EDGES = {-1, 0, 1, 9, 10, 19, 20, 499, 500, 501, 599, 600, 999, 1000, 1199, 1200, 1201,
        Integer.MIN_VALUE, Integer.MAX_VALUE};

    private final Random random;
    private final ChannelSchedule made = new ChannelSchedule();
    private final PlainChannel plain = new PlainChannel();
    private final StringBuilder trail = new StringBuilder();
    /** How far the start minutes spread in this run. */
    private final int spread;
    private boolean isRight = true;

    private RandomRunsTest(int seed) {
        random = new Random(seed);
        spread = new int[] {60, 200, 500, 1000}[seed % 4];
    }

    public static void main(String[] args) {
        for (int seed = 0; seed < RUNS && Check.allRight(); seed++) {
            Check.part("run " + seed);
            new RandomRunsTest(seed).run();
        }
        for (int seed = 0; seed < 4000 && Check.allRight(); seed++) {
            Check.part("texts " + seed);
            new RandomRunsTest(seed).runTexts();
        }
        Check.end("RandomRunsTest");
    }

    private void run() {
        if (random.nextInt(4) > 0) {
            giveText(setupText());
            both("load()", made::load, plain::load);
        }
        for (int i = 0; i < CALLS && isRight; i++) {
            if (random.nextInt(3) == 0) {
                query();
            } else {
                change();
            }
            settings();
            if (i % 25 == 0) {
                everything();
            }
        }
        everything();
    }

    private void runTexts() {
        for (int i = 0; i < 6 && isRight; i++) {
            boolean isSetup = random.nextInt(2) == 0;
            giveText(spoiled(isSetup ? setupText() : scriptText()));
            if (isSetup) {
                both("load()", made::load, plain::load);
            } else {
                both("runScript()", made::runScript, plain::runScript);
            }
            settings();
            everything();
        }
    }

    private void both(String call, Callable<?> one, Callable<?> other) {
        if (!isRight) {
            return;
        }
        trail.append(call).append("; ");
        isRight = Check.same(Check.answer(other), Check.answer(one), call);
        if (!isRight) {
            System.out.println(trail);
        }
    }

    // arguments

    private int near(int count) {
        return random.nextInt(12) == 0 ? edge() : random.nextInt(count + 1);
    }

    private int edge() {
        return EDGES[random.nextInt(EDGES.length)];
    }

    private int start() {
        return random.nextInt(25) == 0 ? edge() : Math.max(0, made.minute() - 5 + random.nextInt(spread));
    }

    private int ship() {
        return random.nextInt(20) == 0 ? edge() : random.nextInt(made.shipCount());
    }

    // texts

    private void giveText(String text) {
        int rest = text.length();
        for (int i = 0; i < text.length(); i += 20) {
            String part = (text.substring(i) + " ".repeat(20)).substring(0, 20);
            byte[] b = part.getBytes(StandardCharsets.ISO_8859_1);
            int[] w = new int[5];
            for (int j = 0; j < 20; j++) {
                w[j / 4] = w[j / 4] << 8 | b[j] & 255;
            }
            both("append(" + Arrays.toString(w) + ")", () -> made.append(w[0], w[1], w[2], w[3], w[4]),
                    () -> plain.append(w));
        }
        both("truncate(" + rest + ")", () -> made.truncate(rest), () -> plain.truncate(rest));
    }

    private String name(int ship) {
        return List.of("a", "b", "ann", "ship", "in", "book", "abcdef", "zzzzzz", "cc", "d", "e", "f").get(ship);
    }

    private String gap() {
        return " \n".repeat(random.nextInt(2)) + " ";
    }

    private String setupText() {
        int ships = 1 + random.nextInt(random.nextInt(6) == 0 ? 11 : 6);
        StringBuilder text = new StringBuilder("channel");
        int most = List.of(0, 2, 8, 30).get(random.nextInt(4));
        text.append(gap()).append(random.nextInt(most + 1)).append(gap()).append(random.nextInt(most + 1));
        text.append(gap()).append(random.nextInt(10)).append(";");
        for (int i = 0; i < ships; i++) {
            text.append("ship").append(gap()).append(name(i)).append(gap());
            text.append(1 + random.nextInt(Math.min(60, spread / 10))).append(gap());
            text.append(random.nextInt(10)).append(gap()).append(1 + random.nextInt(random.nextBoolean() ? 3 : 99));
            text.append(random.nextBoolean() ? " ;" : ";");
        }
        return text.toString();
    }

    private String someShip() {
        int ship = random.nextInt(made.shipCount());
        StringBuilder name = new StringBuilder();
        for (int i = 0; !Check.answer(letter(ship, i)).startsWith("throws"); i++) {
            name.append((char) made.shipNameByte(ship, i));
        }
        return name.toString();
    }

    private Callable<Integer> letter(int ship, int index) {
        return () -> made.shipNameByte(ship, index);
    }

    private String scriptText() {
        int commands = random.nextInt(random.nextInt(8) == 0 ? 34 : 8);
        StringBuilder text = new StringBuilder();
        for (int i = 0; i < commands; i++) {
            String way = random.nextBoolean() ? " in " : " out ";
            int start = Math.max(0, start()) % 10000;
            text.append(switch (commands > 20 ? 4 + random.nextInt(3) : random.nextInt(7)) {
                case 0 -> "book " + someShip() + way + start;
                case 1 -> "request " + someShip() + way + start + gap() + (start + random.nextInt(40)) % 10000;
                case 2 -> "cancel " + random.nextInt(made.bookingCount() + 1);
                case 3 -> "move " + random.nextInt(made.bookingCount() + 1) + gap() + start;
                case 4 -> commands > 20 ? "ice 5" : "withdraw " + random.nextInt(made.requestCount() + 1);
                case 5 -> "ice " + random.nextInt(10 + random.nextInt(2));
                default -> "advance " + random.nextInt(20);
            }).append(random.nextBoolean() ? ";" : " ;\n");
        }
        return text.length() > 600 ? text.substring(0, 600) : text.toString();
    }

    /** The text, sometimes with one place that is another one than before. */
    private String spoiled(String text) {
        int place = text.isEmpty() ? 0 : random.nextInt(text.length());
        String spoil = switch (random.nextInt(9)) {
            case 0 -> "" + (char) random.nextInt(256);
            case 1 -> ";";
            case 2 -> " 9 ";
            case 3 -> "abcdefgh".substring(random.nextInt(4));
            case 4 -> "31";
            case 5 -> "ship ";
            case 6 -> "0".repeat(random.nextInt(5));
            default -> null;
        };
        if (spoil == null) {
            return random.nextBoolean() ? text : text.substring(0, place);
        }
        return cut(text.substring(0, place) + spoil + text.substring(random.nextBoolean() || text.isEmpty()
                ? place : place + 1));
    }

    private static String cut(String text) {
        return text.length() > 600 ? text.substring(0, 600) : text;
    }

    // calls

    private void change() {
        int ship = ship();
        boolean in = random.nextBoolean();
        int start = start();
        int booking = near(made.bookingCount());
        int request = near(made.requestCount());
        switch (random.nextInt(34)) {
            case 0, 1, 2, 3, 4, 5, 6, 7 ->
                both("book(" + ship + "," + in + "," + start + ")", () -> made.book(ship, in, start),
                        () -> plain.book(ship, in, start));
            case 8, 9, 10, 11, 12, 13, 14, 15 -> {
                int latest = random.nextInt(20) == 0 ? edge() : start + random.nextInt(30);
                both("request(" + ship + "," + in + "," + start + "," + latest + ")",
                        () -> made.request(ship, in, start, latest), () -> plain.request(ship, in, start, latest));
            }
            case 16, 17, 18 -> both("cancel(" + booking + ")", () -> made.cancel(booking), () -> plain.cancel(booking));
            case 19, 20, 21, 22 -> both("moveBooking(" + booking + "," + start + ")",
                    () -> made.moveBooking(booking, start), () -> plain.moveBooking(booking, start));
            case 23 -> both("withdraw(" + request + ")", () -> made.withdraw(request), () -> plain.withdraw(request));
            case 24, 25 -> {
                int ice = near(9);
                both("setThickness(" + ice + ")", () -> made.setThickness(ice), () -> plain.setThickness(ice));
            }
            case 26 -> {
                int minutes = random.nextInt(8) == 0 ? edge() : random.nextInt(spread / 20 + 3);
                both("advance(" + minutes + ")", () -> made.advance(minutes), () -> plain.advance(minutes));
            }
            case 27, 28 -> {
                giveText(spoiled(scriptText()));
                both("runScript()", made::runScript, plain::runScript);
            }
            case 29, 30, 31 -> {
                for (int i = random.nextInt(random.nextInt(3) == 0 ? 8 : 3); i >= 0; i--) {
                    both("undo()", made::undo, plain::undo);
                }
            }
            case 32 -> {
                int slot = near(2);
                both("save(" + slot + ")", () -> made.save(slot), () -> plain.save(slot));
            }
            default -> {
                int slot = near(2);
                if (random.nextInt(3) == 0) {
                    both("restore(" + slot + ")", () -> made.restore(slot), () -> plain.restore(slot));
                } else if (random.nextInt(12) == 0) {
                    giveText(spoiled(setupText()));
                    both("load()", made::load, plain::load);
                }
            }
        }
    }

    private void query() {
        int ship = ship();
        boolean in = random.nextBoolean();
        int start = random.nextInt(6) == 0 ? edge() : random.nextInt(spread + 50);
        int to = random.nextInt(6) == 0 ? edge() : start + random.nextInt(300);
        int booking = near(made.bookingCount());
        String trio = "(" + ship + "," + in + "," + start + ")";
        both("conflictCount" + trio, () -> made.conflictCount(ship, in, start),
                () -> plain.conflictCount(ship, in, start));
        both("firstConflict" + trio, () -> made.firstConflict(ship, in, start),
                () -> plain.firstConflict(ship, in, start));
        both("earliestStart" + trio, () -> made.earliestStart(ship, in, start),
                () -> plain.earliestStart(ship, in, start));
        both("latestStart" + trio, () -> made.latestStart(ship, in, start), () -> plain.latestStart(ship, in, start));
        if (random.nextInt(8) == 0) {
            both("bestCancellation" + trio, () -> made.bestCancellation(ship, in, start),
                    () -> plain.bestCancellation(ship, in, start));
        }
        both("occupancy(" + start + ")", () -> made.occupancy(start), () -> plain.occupancy(start));
        both("emptyMinutes(" + start + "," + to + ")", () -> made.emptyMinutes(start, to),
                () -> plain.emptyMinutes(start, to));
        both("longestEmptyRun(" + start + "," + to + ")", () -> made.longestEmptyRun(start, to),
                () -> plain.longestEmptyRun(start, to));
        both("whyNotMovable(" + booking + "," + start + ")", () -> made.whyNotMovable(booking, start),
                () -> plain.whyNotMovable(booking, start));
        both("shipNameByte(" + ship + "," + booking + ")", () -> made.shipNameByte(ship, booking),
                () -> plain.shipNameByte(ship, booking));
        both("findShip()", made::findShip, plain::findShip);
        both("outputByte(" + start + ")", () -> made.outputByte(start), () -> plain.outputByte(start));
    }

    private void settings() {
        both("errorCode()", made::errorCode, () -> plain.errorCode);
        both("errorPosition()", made::errorPosition, () -> plain.errorPosition);
        both("shipCount()", made::shipCount, () -> plain.ships.size());
        both("headway()", made::headway, () -> plain.headway);
        both("clearance()", made::clearance, () -> plain.clearance);
        both("thickness()", made::thickness, () -> plain.state.thickness);
        both("minute()", made::minute, () -> plain.state.minute);
        both("bookingCount()", made::bookingCount, () -> plain.state.bookings.size());
        both("requestCount()", made::requestCount, () -> plain.state.requests.size());
        both("bookingsMade()", made::bookingsMade, () -> plain.state.made);
        both("bookingsCancelled()", made::bookingsCancelled, () -> plain.state.cancelled);
        both("requestsServed()", made::requestsServed, () -> plain.state.served);
        both("inconsistencies()", made::inconsistencies, () -> 0);
    }

    private void everything() {
        for (int i = -1; i <= plain.ships.size(); i++) {
            int ship = i;
            both("transitTime(" + i + ")", () -> made.transitTime(ship), () -> plain.transitTime(ship));
            both("iceClass(" + i + ")", () -> made.iceClass(ship), () -> plain.iceClass(ship));
            both("weight(" + i + ")", () -> made.weight(ship), () -> plain.weight(ship));
            for (int j = -1; j < 7; j++) {
                int index = j;
                both("shipNameByte", () -> made.shipNameByte(ship, index), () -> plain.shipNameByte(ship, index));
            }
        }
        for (int i = -1; i <= plain.state.bookings.size(); i++) {
            int n = i;
            both("bookedShip(" + i + ")", () -> made.bookedShip(n), () -> plain.booking(n).ship());
            both("startMinute(" + i + ")", () -> made.startMinute(n), () -> plain.booking(n).start());
            both("endMinute(" + i + ")", () -> made.endMinute(n), () -> plain.booking(n).end());
            both("isInbound(" + i + ")", () -> made.isInbound(n), () -> plain.booking(n).in());
            both("isFinished(" + i + ")", () -> made.isFinished(n), () -> plain.isFinished(n));
            both("isUnderWay(" + i + ")", () -> made.isUnderWay(n), () -> plain.isUnderWay(n));
            both("slack(" + i + ")", () -> made.slack(n), () -> plain.slack(n));
            both("servedWithout(" + i + ")", () -> made.servedWithout(n), () -> plain.servedWithout(n));
        }
        for (int i = -1; i <= plain.state.requests.size(); i++) {
            int n = i;
            both("requestedShip(" + i + ")", () -> made.requestedShip(n), () -> plain.waiting(n).ship());
            both("isRequestInbound(" + i + ")", () -> made.isRequestInbound(n), () -> plain.waiting(n).in());
            both("earliestRequested(" + i + ")", () -> made.earliestRequested(n), () -> plain.waiting(n).earliest());
            both("latestRequested(" + i + ")", () -> made.latestRequested(n), () -> plain.waiting(n).latest());
            both("whyNotFeasible(" + i + ")", () -> made.whyNotFeasible(n), () -> plain.whyNotFeasible(n));
            both("isSelected(" + i + ")", () -> made.isSelected(n), () -> plain.isSelected(n));
            both("feasibleStart(" + i + ")", () -> made.feasibleStart(n), () -> plain.feasibleStart(n));
        }
        both("bestValue()", made::bestValue, plain::bestValue);
        both("waitingWeight()", made::waitingWeight, plain::waitingWeight);
        both("directionSwitches()", made::directionSwitches, plain::directionSwitches);
        both("longestConvoy()", made::longestConvoy, plain::longestConvoy);
        both("utilization()", made::utilization, plain::utilization);
        both("meanTransit()", made::meanTransit, plain::meanTransit);
        both("writeSchedule()", made::writeSchedule, plain::writeSchedule);
        for (int i = -1; i <= plain.output.length(); i++) {
            int n = i;
            both("outputByte(" + i + ")", () -> made.outputByte(n), () -> plain.outputByte(n));
        }
    }
}
