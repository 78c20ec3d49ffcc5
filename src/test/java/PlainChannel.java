import java.util.ArrayList;
import java.util.Arrays;
import java.util.List;
import java.util.NoSuchElementException;
import java.util.TreeMap;

/**
 * The document once more, told as slowly and plainly as it can be: every minute is tried, every pair is looked at,
 * whole states are copied. RandomRunsTest compares ChannelSchedule with it.
 */
final class PlainChannel {
    static final int NONE = -1;

    record Ship(String name, int time, int ice, int weight) {
    }

    record Booking(int ship, boolean in, int start, int end) {
        boolean conflicts(Booking o, int headway, int clearance) {
            if (start == o.start) {
                return true;
            }
            Booking a = start < o.start ? this : o;
            Booking b = a == this ? o : this;
            if (a.in == b.in) {
                return !(b.start >= a.start + headway && b.end >= a.end + headway);
            }
            return !(b.start >= a.end + clearance);
        }
    }

    record Request(int ship, boolean in, int earliest, int latest) {
    }

    static final class State {
        int thickness;
        int minute;
        int made;
        int cancelled;
        int served;
        List<Booking> bookings = new ArrayList<>();
        List<Request> requests = new ArrayList<>();

        State copy() {
            State s = new State();
            s.thickness = thickness;
            s.minute = minute;
            s.made = made;
            s.cancelled = cancelled;
            s.served = served;
            s.bookings = new ArrayList<>(bookings);
            s.requests = new ArrayList<>(requests);
            return s;
        }
    }

    static final class TextError extends Exception {
        private static final long serialVersionUID = 1L;
        final int code;
        final int position;

        TextError(int code, int position) {
            this.code = code;
            this.position = position;
        }
    }

    /** Kind: w word, n number, s semicolon, x invalid, e end. */
    record Token(char kind, int at, String text) {
        int number() {
            return Integer.parseInt(text);
        }
    }

    int headway;
    int clearance;
    List<Ship> ships = new ArrayList<>();
    State state = new State();
    List<State> history = new ArrayList<>();
    TreeMap<Integer, State> saves = new TreeMap<>();
    StringBuilder buffer = new StringBuilder();
    int errorCode = 0;
    int errorPosition = NONE;
    String output = "";

    PlainChannel() {
        headway = 5;
        clearance = 10;
        state.thickness = 3;
        ships.add(new Ship("ann", 20, 3, 4));
        ships.add(new Ship("bob", 12, 0, 9));
        ships.add(new Ship("cid", 30, 5, 2));
        ships.add(new Ship("dot", 15, 2, 7));
    }

    // input

    int append(int... words) {
        if (buffer.length() + 20 > 600) {
            throw new IllegalStateException();
        }
        for (int word : words) {
            for (int shift = 24; shift >= 0; shift -= 8) {
                buffer.append((char) ((word >> shift) & 255));
            }
        }
        return buffer.length();
    }

    int truncate(int length) {
        argument(length >= 0 && length <= buffer.length());
        buffer.setLength(length);
        return length;
    }

    static List<Token> tokens(String text) {
        List<Token> list = new ArrayList<>();
        int i = 0;
        while (i < text.length()) {
            char c = text.charAt(i);
            int j = i + 1;
            if (c >= 'a' && c <= 'z') {
                while (j < text.length() && text.charAt(j) >= 'a' && text.charAt(j) <= 'z') {
                    j++;
                }
                list.add(new Token(j - i > 8 ? 'x' : 'w', i, text.substring(i, j)));
            } else if (c >= '0' && c <= '9') {
                while (j < text.length() && text.charAt(j) >= '0' && text.charAt(j) <= '9') {
                    j++;
                }
                list.add(new Token(j - i > 4 ? 'x' : 'n', i, text.substring(i, j)));
            } else if (c == ';') {
                list.add(new Token('s', i, ";"));
            } else if (c != ' ' && c != '\n') {
                list.add(new Token('x', i, "?"));
            }
            i = j;
        }
        list.add(new Token('e', text.length(), ""));
        return list;
    }

    private List<Token> left;

    private Token take(char kind) throws TextError {
        Token t = left.get(0);
        if (t.kind != kind) {
            throw new TextError(1, t.at);
        }
        left.remove(0);
        return t;
    }

    private void takeWord(String word) throws TextError {
        if (!(left.get(0).kind == 'w' && left.get(0).text.equals(word))) {
            throw new TextError(1, left.get(0).at);
        }
        left.remove(0);
    }

    private int takeNumber(int least, int greatest) throws TextError {
        Token t = take('n');
        if (t.number() < least || t.number() > greatest) {
            throw new TextError(2, t.at);
        }
        return t.number();
    }

    int load() {
        left = tokens(buffer.toString());
        buffer.setLength(0);
        List<Ship> newShips = new ArrayList<>();
        int newHeadway;
        int newClearance;
        int newThickness;
        try {
            takeWord("channel");
            newHeadway = takeNumber(0, 30);
            newClearance = takeNumber(0, 30);
            newThickness = takeNumber(0, 9);
            take('s');
            do {
                Token first = left.get(0);
                takeWord("ship");
                if (newShips.size() == 10) {
                    throw new TextError(4, first.at);
                }
                Token name = take('w');
                if (name.text.length() > 6 || newShips.stream().anyMatch(s -> s.name.equals(name.text))) {
                    throw new TextError(3, name.at);
                }
                newShips.add(new Ship(name.text, takeNumber(1, 60), takeNumber(0, 9), takeNumber(1, 99)));
                take('s');
            } while (left.get(0).kind != 'e');
        } catch (TextError e) {
            errorCode = e.code;
            errorPosition = e.position;
            throw new IllegalArgumentException();
        }
        errorCode = 0;
        errorPosition = NONE;
        headway = newHeadway;
        clearance = newClearance;
        ships = newShips;
        state = new State();
        state.thickness = newThickness;
        history.clear();
        saves.clear();
        return ships.size();
    }

    // ships

    private static void index(boolean ok) {
        if (!ok) {
            throw new IndexOutOfBoundsException();
        }
    }

    private static void argument(boolean ok) {
        if (!ok) {
            throw new IllegalArgumentException();
        }
    }

    private static void legal(boolean ok) {
        if (!ok) {
            throw new IllegalStateException();
        }
    }

    private static <T> T at(List<T> list, int number) {
        index(number >= 0 && number < list.size());
        return list.get(number);
    }

    int transitTime(int ship) {
        Ship s = at(ships, ship);
        return s.time + 2 * Math.max(0, state.thickness - s.ice);
    }

    int iceClass(int ship) {
        return at(ships, ship).ice;
    }

    int weight(int ship) {
        return at(ships, ship).weight;
    }

    int shipNameByte(int ship, int index) {
        String name = at(ships, ship).name;
        index(index >= 0 && index < name.length());
        return name.charAt(index);
    }

    int findShip() {
        return shipNamed(buffer.toString());
    }

    private int shipNamed(String name) {
        for (int i = 0; i < ships.size(); i++) {
            if (ships.get(i).name.equals(name)) {
                return i;
            }
        }
        throw new NoSuchElementException();
    }

    // schedule

    Booking booking(int number) {
        return at(state.bookings, number);
    }

    boolean isFinished(int number) {
        return booking(number).end <= state.minute;
    }

    boolean isUnderWay(int number) {
        return !isFinished(number) && booking(number).start <= state.minute;
    }

    int occupancy(int minute) {
        argument(minute >= 0 && minute <= 1200);
        return (int) state.bookings.stream().filter(b -> b.start <= minute && b.end > minute).count();
    }

    int emptyMinutes(int from, int to) {
        argument(from >= 0 && from <= 1200 && to >= from && to <= 1200);
        int n = 0;
        for (int m = from; m <= to; m++) {
            n += occupancy(m) == 0 ? 1 : 0;
        }
        return n;
    }

    int longestEmptyRun(int from, int to) {
        argument(from >= 0 && from <= 1200 && to >= from && to <= 1200);
        int best = 0;
        int run = 0;
        for (int m = from; m <= to; m++) {
            run = occupancy(m) == 0 ? run + 1 : 0;
            best = Math.max(best, run);
        }
        return best;
    }

    // conflicts

    private boolean clash(Booking a, Booking b) {
        return a.conflicts(b, headway, clearance);
    }

    private Booking trial(int ship, boolean in, int start) {
        return new Booking(ship, in, start, start + transitTime(ship));
    }

    private int conflicts(Booking b, List<Booking> others) {
        int n = 0;
        for (Booking o : others) {
            n += clash(b, o) ? 1 : 0;
        }
        return n;
    }

    private List<Booking> without(int number) {
        List<Booking> others = new ArrayList<>(state.bookings);
        others.remove(number);
        return others;
    }

    int conflictCount(int ship, boolean in, int start) {
        at(ships, ship);
        argument(start >= 0 && start <= 999);
        return conflicts(trial(ship, in, start), state.bookings);
    }

    int firstConflict(int ship, boolean in, int start) {
        at(ships, ship);
        argument(start >= 0 && start <= 999);
        for (int i = 0; i < state.bookings.size(); i++) {
            if (clash(trial(ship, in, start), booking(i))) {
                return i;
            }
        }
        return NONE;
    }

    private int earliest(int ship, boolean in, int from, int to, List<Booking> others) {
        for (int s = from; s <= to; s++) {
            if (conflicts(trial(ship, in, s), others) == 0) {
                return s;
            }
        }
        return NONE;
    }

    int earliestStart(int ship, boolean in, int from) {
        at(ships, ship);
        argument(from >= 0 && from <= 999);
        return earliest(ship, in, from, 999, state.bookings);
    }

    int latestStart(int ship, boolean in, int deadline) {
        at(ships, ship);
        argument(deadline >= 0 && deadline <= 1200);
        for (int s = 999; s >= 0; s--) {
            Booking b = trial(ship, in, s);
            if (b.end <= deadline && conflicts(b, state.bookings) == 0) {
                return s;
            }
        }
        return NONE;
    }

    int bestCancellation(int ship, boolean in, int from) {
        at(ships, ship);
        argument(from >= 0 && from <= 999);
        if (state.bookings.isEmpty()) {
            throw new NoSuchElementException();
        }
        int best = 0;
        int bestResult = Integer.MAX_VALUE;
        for (int i = 0; i < state.bookings.size(); i++) {
            int result = earliest(ship, in, from, 999, without(i));
            result = result == NONE ? 1000 : result;
            if (result < bestResult) {
                bestResult = result;
                best = i;
            }
        }
        return best;
    }

    int directionSwitches() {
        int n = 0;
        for (int i = 1; i < state.bookings.size(); i++) {
            n += booking(i).in == booking(i - 1).in ? 0 : 1;
        }
        return n;
    }

    int longestConvoy() {
        int best = 0;
        for (int i = 0; i < state.bookings.size(); i++) {
            int j = i;
            while (j < state.bookings.size() && booking(j).in == booking(i).in) {
                j++;
            }
            best = Math.max(best, j - i);
        }
        return best;
    }

    private Booking moved(int number, int start) {
        Booking b = booking(number);
        return new Booking(b.ship, b.in, start, start + b.end - b.start);
    }

    int slack(int number) {
        int n = 0;
        int start = booking(number).start;
        while (start + n + 1 <= 999 && conflicts(moved(number, start + n + 1), without(number)) == 0) {
            n++;
        }
        return n;
    }

    int whyNotMovable(int number, int start) {
        booking(number);
        argument(start >= 0 && start <= 999);
        if (isFinished(number) || isUnderWay(number)) {
            return 1;
        }
        if (start < state.minute) {
            return 2;
        }
        return conflicts(moved(number, start), without(number)) > 0 ? 3 : 0;
    }

    // waiting list

    Request waiting(int number) {
        return at(state.requests, number);
    }

    private int servingStart(Request r) {
        if (state.bookings.size() >= 20) {
            return NONE;
        }
        return earliest(r.ship, r.in, Math.max(r.earliest, state.minute), r.latest, state.bookings);
    }

    int whyNotFeasible(int number) {
        Request r = waiting(number);
        if (r.latest < state.minute) {
            return 1;
        }
        if (state.bookings.size() == 20) {
            return 2;
        }
        return servingStart(r) == NONE ? 3 : 0;
    }

    int feasibleStart(int number) {
        return servingStart(waiting(number));
    }

    private boolean[] bestSelection() {
        int n = state.requests.size();
        boolean[] best = new boolean[n];
        for (int set = 0; set < 1 << n; set++) {
            boolean[] chosen = new boolean[n];
            List<Booking> all = new ArrayList<>();
            for (int i = 0; i < n; i++) {
                chosen[i] = (set >> i & 1) == 1;
                if (chosen[i]) {
                    all.add(trial(waiting(i).ship, waiting(i).in, waiting(i).earliest));
                }
            }
            boolean fits = true;
            for (int i = 0; i < all.size(); i++) {
                fits &= conflicts(all.get(i), state.bookings) == 0;
                fits &= conflicts(all.get(i), all.subList(0, i)) == 0;
            }
            if (fits && isBetter(chosen, best)) {
                best = chosen;
            }
        }
        return best;
    }

    private boolean isBetter(boolean[] a, boolean[] b) {
        if (value(a) != value(b)) {
            return value(a) > value(b);
        }
        int differ = Arrays.mismatch(a, b);
        return differ >= 0 && a[differ];
    }

    private int value(boolean[] chosen) {
        int sum = 0;
        for (int i = 0; i < chosen.length; i++) {
            sum += chosen[i] ? weight(waiting(i).ship) : 0;
        }
        return sum;
    }

    int bestValue() {
        return value(bestSelection());
    }

    boolean isSelected(int number) {
        waiting(number);
        return bestSelection()[number];
    }

    int servedWithout(int number) {
        booking(number);
        State before = state.copy();
        int served = removeAndServe(number);
        state = before;
        return served;
    }

    int waitingWeight() {
        return state.requests.stream().mapToInt(r -> weight(r.ship)).sum();
    }

    // statistics

    float utilization() {
        int end = state.bookings.stream().mapToInt(Booking::end).max().orElse(0);
        if (end == 0) {
            return 0.0f;
        }
        int n = 0;
        for (int m = 0; m < end; m++) {
            n += occupancy(m) > 0 ? 1 : 0;
        }
        return (float) n / (float) end;
    }

    double meanTransit() {
        if (state.bookings.isEmpty()) {
            return 0.0;
        }
        int ends = state.bookings.stream().mapToInt(Booking::end).sum();
        int starts = state.bookings.stream().mapToInt(Booking::start).sum();
        return (double) (ends - starts) / (double) state.bookings.size();
    }

    // changes

    private void insert(Booking b) {
        int i = 0;
        while (i < state.bookings.size() && booking(i).start <= b.start) {
            i++;
        }
        state.bookings.add(i, b);
    }

    private int process() {
        int served = 0;
        for (Request r : new ArrayList<>(state.requests)) {
            int start = servingStart(r);
            if (start != NONE) {
                insert(trial(r.ship, r.in, start));
                // Identity, for two requests may be equal: the first equal one stands further ahead, was
                // visited before and not served, so this one would not be feasible either.
                state.requests.remove(r);
                state.made++;
                state.served++;
                served++;
            }
        }
        return served;
    }

    private void changing() {
        history.add(state.copy());
        if (history.size() > 6) {
            history.remove(0);
        }
    }

    int book(int ship, boolean in, int start) {
        at(ships, ship);
        argument(start >= 0 && start <= 999);
        legal(start >= state.minute && state.bookings.size() < 20);
        legal(conflicts(trial(ship, in, start), state.bookings) == 0);
        changing();
        insert(trial(ship, in, start));
        state.made++;
        return start + transitTime(ship);
    }

    int request(int ship, boolean in, int earliest, int latest) {
        at(ships, ship);
        argument(earliest >= 0 && earliest <= 999 && latest >= earliest && latest <= 999);
        Request r = new Request(ship, in, earliest, latest);
        int start = servingStart(r);
        legal(start != NONE || state.requests.size() < 8);
        changing();
        if (start == NONE) {
            state.requests.add(r);
        } else {
            insert(trial(ship, in, start));
            state.made++;
        }
        return start;
    }

    private int removeAndServe(int number) {
        state.bookings.remove(number);
        state.cancelled++;
        return process();
    }

    int cancel(int number) {
        booking(number);
        legal(!isUnderWay(number) && !isFinished(number));
        changing();
        return removeAndServe(number);
    }

    int moveBooking(int number, int start) {
        legal(whyNotMovable(number, start) == 0);
        changing();
        Booking b = moved(number, start);
        state.bookings.remove(number);
        insert(b);
        return process();
    }

    int withdraw(int number) {
        int ship = waiting(number).ship;
        changing();
        state.requests.remove(number);
        return ship;
    }

    int setThickness(int thickness) {
        argument(thickness >= 0 && thickness <= 9);
        changing();
        state.thickness = thickness;
        return process();
    }

    int advance(int minutes) {
        argument(minutes >= 1 && minutes <= 500);
        legal(state.minute + minutes <= 1200);
        changing();
        int before = 0;
        int after = 0;
        for (int i = 0; i < state.bookings.size(); i++) {
            before += isFinished(i) ? 1 : 0;
        }
        state.minute += minutes;
        for (int i = 0; i < state.bookings.size(); i++) {
            after += isFinished(i) ? 1 : 0;
        }
        return after - before;
    }

    private interface Step {
        void run();
    }

    int runScript() {
        left = tokens(buffer.toString());
        buffer.setLength(0);
        List<Step> steps = new ArrayList<>();
        try {
            while (left.get(0).kind != 'e') {
                steps.add(step(steps.size()));
            }
        } catch (TextError e) {
            errorCode = e.code;
            errorPosition = e.position;
            throw new IllegalArgumentException();
        }
        errorCode = 0;
        errorPosition = NONE;
        State before = state.copy();
        List<State> formerHistory = new ArrayList<>(history);
        int executed = 0;
        try {
            for (Step s : steps) {
                s.run();
                executed++;
            }
        } catch (IndexOutOfBoundsException | IllegalArgumentException | IllegalStateException e) {
            // The command that throws ends the script.
        }
        history = formerHistory;
        history.add(before);
        if (history.size() > 6) {
            history.remove(0);
        }
        return executed;
    }

    private Step step(int earlier) throws TextError {
        Token verb = take('w');
        if (!List.of("book", "request", "cancel", "move", "withdraw", "ice", "advance").contains(verb.text)) {
            throw new TextError(1, verb.at);
        }
        if (earlier == 30) {
            throw new TextError(4, verb.at);
        }
        int ship = 0;
        boolean in = false;
        if (verb.text.equals("book") || verb.text.equals("request")) {
            Token name = take('w');
            try {
                ship = shipNamed(name.text);
            } catch (NoSuchElementException e) {
                throw new TextError(3, name.at);
            }
            Token direction = take('w');
            in = direction.text.equals("in");
            if (!in && !direction.text.equals("out")) {
                throw new TextError(1, direction.at);
            }
        }
        int a = take('n').number();
        int b = verb.text.equals("request") || verb.text.equals("move") ? take('n').number() : 0;
        take('s');
        int ofShip = ship;
        boolean inbound = in;
        return switch (verb.text) {
            case "book" -> () -> book(ofShip, inbound, a);
            case "request" -> () -> request(ofShip, inbound, a, b);
            case "cancel" -> () -> cancel(a);
            case "move" -> () -> moveBooking(a, b);
            case "withdraw" -> () -> withdraw(a);
            case "ice" -> () -> setThickness(a);
            default -> () -> advance(a);
        };
    }

    // undo, saved states, output

    int undo() {
        legal(!history.isEmpty());
        state = history.remove(history.size() - 1);
        return history.size();
    }

    int save(int slot) {
        index(slot == 0 || slot == 1);
        saves.put(slot, state.copy());
        return state.bookings.size();
    }

    int restore(int slot) {
        index(slot == 0 || slot == 1);
        legal(saves.containsKey(slot));
        state = saves.get(slot).copy();
        history.clear();
        return state.bookings.size();
    }

    int writeSchedule() {
        List<String> items = new ArrayList<>();
        for (Booking b : state.bookings) {
            items.add(ships.get(b.ship).name + (b.in ? ">" : "<") + b.start + "-" + b.end);
        }
        output = String.join(" ", items);
        return output.length();
    }

    int outputByte(int index) {
        index(index >= 0 && index < output.length());
        return output.charAt(index);
    }
}
