import java.util.ArrayList;
import java.util.List;

/**
 * Undo, saved states, setups, the input buffer and the output text at their bounds: what is empty, full, replaced, or
 * written over again and again.
 */
public final class StatesTest {
    private static final int NONE = ChannelSchedule.NONE;
    private static final int MAX = Integer.MAX_VALUE;
    private static final int MIN = Integer.MIN_VALUE;

    private interface Change {
        Object on(ChannelSchedule x);
    }

    private StatesTest() {
    }

    public static void main(String[] args) {
        everyChangeIsUndone();
        noChanges();
        latestSixChanges();
        undoneAndChangedAgain();
        untouchedByUndo();
        slots();
        restoredStates();
        untouchedByRestore();
        replacedByLoad();
        keptByRefusedLoad();
        appended();
        truncated();
        orderOfBytes();
        bufferOnceRead();
        findShip();
        outputText();
        longestOutput();
        scripts();
        commandsThatThrow();
        commandsOneByOne();
        Check.end("StatesTest");
    }

    /** Ship a 10-20 is under way, b 50-70 and c out 100-130 are to come, a and b wait for c; minute 12. */
    private static ChannelSchedule begun() {
        ChannelSchedule x = Given.three();
        x.book(0, true, 10);
        x.book(1, true, 50);
        x.book(2, false, 100);
        x.request(0, true, 100, 101);
        x.request(1, true, 95, 99);
        x.setThickness(1);
        x.setThickness(0);
        x.advance(12);
        x.save(0);
        x.restore(0);
        return x;
    }

    private static List<Change> changes() {
        return List.of(x -> x.book(0, false, 200), x -> x.request(2, true, 110, 120), x -> x.request(2, true, 300, 300),
                x -> x.cancel(1), x -> x.cancel(2), x -> x.moveBooking(1, 300), x -> x.moveBooking(2, 500),
                x -> x.moveBooking(1, 50), x -> x.withdraw(0), x -> x.withdraw(1), x -> x.setThickness(9),
                x -> x.setThickness(0), x -> x.advance(1), x -> x.advance(500), x -> Given.give(x, "").runScript(),
                x -> Given.give(x, "cancel 99;").runScript(),
                x -> Given.give(x, "book a out 200;cancel 2;ice 5;advance 100;withdraw 0;").runScript());
    }

    // ---- undo

    private static void everyChangeIsUndone() {
        Check.part("each change can be undone, with the whole state and all counters");
        String before = Whole.state(begun());
        for (Change change : changes()) {
            ChannelSchedule x = begun();
            Check.same(before, Whole.state(x), "the object before the change");
            Check.state(x::undo);
            change.on(x);
            Check.due(0, x::undo);
            Check.same(before, Whole.state(x), "the object after undoing");
            Check.state(x::undo);
            Check.same(before, Whole.state(x), "the object after a refused undo");
        }
        // all but those that find everything as it should be do change what can be seen
        int unseen = 0;
        for (Change change : changes()) {
            ChannelSchedule x = begun();
            change.on(x);
            unseen += before.equals(Whole.state(x)) ? 1 : 0;
        }
        int due = unseen;
        Check.due(4, () -> due);
    }

    private static void noChanges() {
        Check.part("what is no change can't be undone");
        ChannelSchedule x = begun();
        x.save(0);
        x.save(1);
        x.writeSchedule();
        x.outputByte(0);
        x.append(0, 0, 0, 0, 0);
        x.truncate(1);
        x.servedWithout(2);
        x.slack(1);
        x.bestValue();
        x.bestCancellation(0, true, 0);
        Check.argument(x::load);
        Check.argument(() -> Given.give(x, "book").runScript());
        Check.state(x::undo);
        x.restore(1);
        Check.state(x::undo);
    }

    private static void latestSixChanges() {
        Check.part("the latest 6 changes can be undone");
        for (int count = 0; count <= 20; count++) {
            ChannelSchedule x = Given.three();
            for (int i = 1; i <= count; i++) {
                x.advance(i);
            }
            int undoable = Math.min(count, 6);
            for (int i = 1; i <= undoable; i++) {
                int left = undoable - i;
                int minute = (count - i) * (count - i + 1) / 2;
                Check.due(left, x::undo);
                Check.due(minute, x::minute);
            }
            int minute = (count - undoable) * (count - undoable + 1) / 2;
            Check.state(x::undo);
            Check.due(minute, x::minute);
        }
    }

    private static void undoneAndChangedAgain() {
        Check.part("the latest change that has not been undone");
        // the same with a list of minutes: up to 6 are kept
        for (int pattern = 1; pattern < 64; pattern++) {
            ChannelSchedule x = Given.three();
            List<Integer> kept = new ArrayList<>();
            for (int i = 0; i < 60; i++) {
                boolean isUndo = (pattern >> i % 6 & 1) == 0;
                if (!isUndo) {
                    kept.add(x.minute());
                    if (kept.size() > 6) {
                        kept.remove(0);
                    }
                    x.advance(1 + i % 7);
                } else if (kept.isEmpty()) {
                    Check.state(x::undo);
                } else {
                    int minute = kept.remove(kept.size() - 1);
                    int left = kept.size();
                    Check.due(left, x::undo);
                    Check.due(minute, x::minute);
                }
            }
        }
    }

    private static void untouchedByUndo() {
        Check.part("undoing leaves the input buffer, the errors, the output text and the saved states");
        ChannelSchedule x = begun();
        x.setThickness(2);
        x.save(1);
        x.book(0, false, 300);
        x.writeSchedule();
        String output = Whole.output(x);
        Check.argument(() -> Given.give(x, "ice 1;cancel").runScript());
        Given.give(x, "b");
        Check.due(1, x::undo);
        Check.due(0, x::undo);
        Check.due(output, () -> Whole.output(x));
        Check.due("code 1\nposition 12\n", () -> Whole.errors(x));
        Check.due(1, x::findShip);
        Check.argument(() -> x.truncate(2));
        Check.due(0, x::thickness);
        Check.due(3, () -> x.restore(1));
        Check.due(2, x::thickness);
    }

    // ---- saved states

    private static void slots() {
        Check.part("promises 62 and 63: slot 0 or 1");
        ChannelSchedule x = Given.three();
        for (int slot : new int[] {-1, 2, MIN, MAX}) {
            Check.index(() -> x.save(slot));
            Check.index(() -> x.restore(slot));
        }
        Check.state(() -> x.restore(0));
        Check.state(() -> x.restore(1));
        Check.due(0, () -> x.save(1));
        Check.state(() -> x.restore(0));
        Check.due(0, () -> x.restore(1));
        x.book(0, true, 100);
        Check.due(1, () -> x.save(0));
        Check.due(0, () -> x.restore(1));
        Check.due(0, x::bookingCount);
        Check.due(1, () -> x.restore(0));
        Check.due(1, x::bookingCount);
        Check.part("promise 62: replaces what was saved in the slot before");
        x.book(0, true, 200);
        Check.due(2, () -> x.save(0));
        x.cancel(1);
        Check.due(2, () -> x.restore(0));
        x.cancel(1);
        x.cancel(0);
        Check.due(0, () -> x.save(0));
        x.book(1, true, 300);
        Check.due(0, () -> x.restore(0));
        Check.due("0 2 2", () -> x.bookingCount() + " " + x.bookingsMade() + " " + x.bookingsCancelled());
        Check.due(0, () -> x.restore(1));
        Check.due("0 0 0", () -> x.bookingCount() + " " + x.bookingsMade() + " " + x.bookingsCancelled());
    }

    private static void restoredStates() {
        Check.part("promise 63: an empty state, a full one and any other, each over each, and again and again");
        for (Change change : changes()) {
            ChannelSchedule x = begun();
            String before = Whole.state(x);
            x.save(1);
            change.on(x);
            String after = Whole.state(x);
            x.save(0);
            Check.due(3, () -> x.restore(1));
            Check.same(before, Whole.state(x), "what was saved before the change");
            Check.state(x::undo);
            int bookings = x.bookingCount();
            x.restore(0);
            Check.same(after, Whole.state(x), "what was saved after the change");
            Check.due(bookings, () -> x.restore(1));
            Check.same(before, Whole.state(x), "what stays saved");
        }
        ChannelSchedule x = Given.swift();
        String empty = Whole.state(x);
        x.save(0);
        for (int i = 0; i < 20; i++) {
            x.book(i % 2, i % 3 == 0, 10 + 3 * i);
        }
        for (int i = 0; i < 8; i++) {
            x.request(i % 2, i % 3 != 0, 10 + i, 20 + i);
        }
        String full = Whole.state(x);
        Check.due(20, () -> x.save(1));
        Check.due(0, () -> x.restore(0));
        Check.same(empty, Whole.state(x), "the empty state");
        Check.due(20, () -> x.restore(1));
        Check.same(full, Whole.state(x), "the full state");
    }

    private static void untouchedByRestore() {
        Check.part("restoring leaves the input buffer, the errors, the output text and the saved states");
        ChannelSchedule x = begun();
        x.save(1);
        x.book(0, false, 300);
        x.save(0);
        x.writeSchedule();
        String output = Whole.output(x);
        Check.argument(() -> Given.give(x, "ice 1;cancel").runScript());
        Given.give(x, "c");
        Check.due(3, () -> x.restore(1));
        Check.due(output, () -> Whole.output(x));
        Check.due("code 1\nposition 12\n", () -> Whole.errors(x));
        Check.due(2, x::findShip);
        Check.argument(() -> x.truncate(2));
        Check.due(4, () -> x.restore(0));
        Check.due(3, () -> x.restore(1));
        Check.part("saving leaves all as it is, the history too");
        x.setThickness(1);
        x.setThickness(2);
        String state = Whole.state(x);
        Check.due(3, () -> x.save(0));
        Check.same(state, Whole.state(x), "the object after saving");
        Check.due(output, () -> Whole.output(x));
        Check.due("code 1\nposition 12\n", () -> Whole.errors(x));
        Check.due(2, x::findShip);
        Check.due(1, x::undo);
        Check.due(0, x::undo);
        Check.due("0", () -> x.thickness() + "");
        x.restore(0);
        Check.due(2, x::thickness);
    }

    // ---- setups

    private static void replacedByLoad() {
        Check.part("promise 4: a valid setup replaces the whole state");
        String text = "channel 30 0 9;ship zz 60 0 99;";
        String due = Whole.state(Given.loaded(text));
        ChannelSchedule x = begun();
        x.save(1);
        x.advance(87);
        x.cancel(2);
        Check.argument(() -> Given.give(x, "?").runScript());
        Check.due(1, () -> Given.give(x, text).load());
        Check.same(due, Whole.state(x), "the new state");
        Check.due("code 0\nposition -1\n", () -> Whole.errors(x));
        Check.argument(() -> x.truncate(1));
        Check.state(x::undo);
        Check.state(() -> x.restore(0));
        Check.state(() -> x.restore(1));
        for (int ship = 1; ship < 4; ship++) {
            int old = ship;
            Check.index(() -> x.transitTime(old));
        }
        Check.element(() -> Given.give(x, "a").findShip());
        Check.part("promise 64: the output text is replaced by writing alone, not by a setup");
        ChannelSchedule w = begun();
        w.writeSchedule();
        String output = Whole.output(w);
        Check.due(1, () -> Given.give(w, text).load());
        Check.due(output, () -> Whole.output(w));
        Check.due(0, w::writeSchedule);
        Check.index(() -> w.outputByte(0));
        Check.part("promise 4: a valid setup replaces the whole state");
        // a state with everything full, and the same setup again
        ChannelSchedule y = Given.full();
        for (int i = 0; i < 8; i++) {
            y.request(0, true, 10, 10);
        }
        Check.due(1, () -> Given.give(y, text).load());
        Check.same(due, Whole.state(y), "the new state");
        Check.due(1, () -> Given.give(y, text).load());
        Check.same(due, Whole.state(y), "the new state");
        // the setup of a new object
        String first = "channel 5 10 3;ship ann 20 3 4;ship bob 12 0 9;ship cid 30 5 2;ship dot 15 2 7;";
        Check.due(4, () -> Given.give(y, first).load());
        Check.same(Whole.state(new ChannelSchedule()), Whole.state(y), "the first setup");
        Check.part("promise 1: objects have nothing in common");
        ChannelSchedule z = new ChannelSchedule();
        z.book(0, true, 5);
        Given.give(z, text).load();
        Check.same(Whole.state(y), Whole.state(new ChannelSchedule()), "a new object");
    }

    private static void keptByRefusedLoad() {
        Check.part("promise 4: a setup with an error at any place changes only the buffer and the errors");
        String text = "channel 1 1 1;ship zz 2 2 2;ship yy 3 3 3;";
        ChannelSchedule x = begun();
        String before = Whole.state(x);
        for (int length = 0; length < text.length(); length++) {
            String part = text.substring(0, length) + "?";
            Check.argument(() -> Given.give(x, part).load());
            Check.argument(() -> x.truncate(1));
        }
        Check.same(before, Whole.state(x), "the object after refused setups");
        Check.due(3, () -> x.restore(0));
        Check.due(0, () -> Given.give(x, "a").findShip());
        Check.element(() -> Given.give(x, "zz").findShip());
    }

    // ---- buffer

    private static void appended() {
        Check.part("promise 2: the new length would exceed 600");
        for (int length = 575; length <= 600; length++) {
            ChannelSchedule x = Given.give(new ChannelSchedule(), " ".repeat(length));
            if (length <= 580) {
                int due = length + 20;
                Check.due(due, () -> x.append(0, 0, 0, 0, 0));
            } else {
                Check.state(() -> x.append(0, 0, 0, 0, 0));
            }
        }
    }

    private static void truncated() {
        Check.part("promise 3: length 0 to its current length");
        for (int length : new int[] {0, 1, 19, 20, 21, 300, 599, 600}) {
            ChannelSchedule x = Given.give(new ChannelSchedule(), " ".repeat(length));
            for (int bad : new int[] {-1, length + 1, 601, MIN, MAX}) {
                Check.argument(() -> x.truncate(bad));
            }
            Check.due(length, () -> x.truncate(length));
            Check.due(length / 2, () -> x.truncate(length / 2));
            Check.argument(() -> x.truncate(length / 2 + 1));
            Check.due(0, () -> x.truncate(0));
            Check.due(0, () -> x.truncate(0));
        }
    }

    private static void orderOfBytes() {
        Check.part("promise 2: the four bytes of each argument, the most significant byte first, in this order");
        String letters = "abcdefghijklmnopqrst";
        for (int i = 0; i < 20; i++) {
            ChannelSchedule x = new ChannelSchedule();
            int[] words = new int[5];
            words[i / 4] = letters.charAt(i) << 24 - 8 * (i % 4);
            x.append(fill(words[0], i, 0), fill(words[1], i, 1), fill(words[2], i, 2), fill(words[3], i, 3),
                    fill(words[4], i, 4));
            x.truncate(i + 1);
            Check.argument(x::runScript);
            // the letter is no command, and stands behind i line feeds
            Check.due("code 1\nposition " + i + "\n", () -> Whole.errors(x));
        }
    }

    private static void bufferOnceRead() {
        Check.part("promise 2: what was cut off does not come back");
        ChannelSchedule x = Given.give(new ChannelSchedule(), "book ann in 5;");
        x.truncate(9);
        x.append(0x20202020, 0x20202020, 0x20202020, 0x20202020, 0x20202020);
        Check.argument(x::runScript);
        Check.due("code 1\nposition 29\n", () -> Whole.errors(x));
        Check.part("promises 4 and 60: the buffer is empty afterwards, and takes 600 bytes again");
        for (String text : new String[] {"", "book", "channel 1 1 1;ship a 1 0 1;", "ice 1;"}) {
            ChannelSchedule y = Given.give(new ChannelSchedule(), text);
            Check.answer(text.startsWith("ch") ? y::load : y::runScript);
            Check.argument(() -> y.truncate(1));
            for (int i = 1; i <= 30; i++) {
                int due = 20 * i;
                Check.due(due, () -> y.append(-1, -1, -1, -1, -1));
            }
            Check.state(() -> y.append(0, 0, 0, 0, 0));
        }
    }

    /** The word, with line feeds at the places before place i of the 20. */
    private static int fill(int word, int i, int number) {
        int filled = word;
        for (int j = 0; j < 4; j++) {
            if (number * 4 + j < i) {
                filled |= '\n' << 24 - 8 * j;
            }
        }
        return filled;
    }

    private static void findShip() {
        Check.part("promise 16: the name equals the whole input buffer, which stays unchanged");
        ChannelSchedule x = Given.loaded("channel 0 0 0;ship abcdef 1 0 1;ship abcde 1 0 1;ship a 1 0 1;");
        Check.due(0, () -> Given.give(x, "abcdef").findShip());
        Check.due(0, x::findShip);
        x.truncate(5);
        Check.due(1, x::findShip);
        x.truncate(4);
        Check.element(x::findShip);
        x.truncate(1);
        Check.due(2, x::findShip);
        x.truncate(0);
        Check.element(x::findShip);
        for (String other : new String[] {" a", "a ", "a\n", "a;", "aa", "abcdefg", "abcdeg", "bbcdef", "A", "\0"}) {
            Check.element(() -> Given.give(x, other).findShip());
            Check.due(other.length(), () -> x.truncate(other.length()));
        }
        Check.element(() -> Given.give(x, "a".repeat(600)).findShip());
    }

    // ---- output

    private static void outputText() {
        Check.part("promise 65: nothing was written yet, an empty text, a longer and a shorter one");
        ChannelSchedule x = Given.three();
        for (int index : new int[] {-1, 0, 1, MIN, MAX}) {
            Check.index(() -> x.outputByte(index));
        }
        x.book(0, true, 7);
        Check.index(() -> x.outputByte(0));
        Check.due(6, x::writeSchedule);
        Check.due('a' + 0, () -> x.outputByte(0));
        Check.due('7' + 0, () -> x.outputByte(5 - 3));
        Check.due('7' + 0, () -> x.outputByte(5));
        for (int index : new int[] {-1, 6, 7, MIN, MAX}) {
            Check.index(() -> x.outputByte(index));
        }
        x.book(1, false, 100);
        Check.index(() -> x.outputByte(6));
        Check.due("a>7-17 b<100-120", () -> Given.written(x));
        Check.due(' ' + 0, () -> x.outputByte(6));
        Check.due('0' + 0, () -> x.outputByte(15));
        Check.index(() -> x.outputByte(16));
        x.cancel(1);
        x.cancel(0);
        Check.due('0' + 0, () -> x.outputByte(15));
        Check.due(0, x::writeSchedule);
        Check.index(() -> x.outputByte(0));
    }

    private static void longestOutput() {
        Check.part("promise 64: all numbers in decimal");
        String setup = "channel 0 0 9;ship a 1 9 1;ship abcdef 60 0 1;";
        int[][] due = {{0, 0}, {0, 1}, {0, 8}, {0, 9}, {0, 10}, {0, 98}, {0, 99}, {0, 100}, {0, 101}, {0, 109},
            {0, 998}, {0, 999}, {1, 0}, {1, 21}, {1, 22}, {1, 921}, {1, 922}, {1, 999}};
        for (int[] d : due) {
            ChannelSchedule y = Given.loaded(setup);
            int end = y.book(d[0], d[1] % 2 == 0, d[1]);
            String text = (d[0] == 0 ? "a" : "abcdef") + (d[1] % 2 == 0 ? ">" : "<") + d[1] + "-" + end;
            Check.due(text, () -> Given.written(y));
        }
        Check.part("promise 64: one space between the bookings, 20 of the longest ones");
        ChannelSchedule z = Given.loaded(setup);
        StringBuilder all = new StringBuilder();
        for (int i = 0; i < 20; i++) {
            z.book(1, true, 980 + i);
            all.append(i > 0 ? " " : "").append("abcdef>").append(980 + i).append('-').append(1058 + i);
            Check.due(all, () -> Given.written(z));
        }
        Check.due(319, z::writeSchedule);
        Check.due('7' + 0, () -> z.outputByte(318));
        Check.index(() -> z.outputByte(319));
        Check.index(() -> z.outputByte(320));
    }

    // ---- scripts

    private static void scripts() {
        Check.part("promise 60: a valid script counts as a single change, even if no command was executed");
        ChannelSchedule x = begun();
        for (int i = 0; i < 7; i++) {
            Check.due(0, () -> Given.give(x, "cancel 0;").runScript());
        }
        for (int i = 5; i >= 0; i--) {
            int left = i;
            Check.due(left, x::undo);
        }
        Check.state(x::undo);
        Check.due(30, () -> Given.give(x, "advance 3;".repeat(30)).runScript());
        Check.due(102, x::minute);
        Check.due(0, x::undo);
        Check.due(12, x::minute);
    }

    private static void commandsThatThrow() {
        Check.part("promise 60: execution stops at the first command whose method would throw, at each bound");
        String[] thrown = {"book a in 1000;", "book a in 9999;", "book a in 11;", "book a in 46;", "book b out 30;",
            "request a in 1000 1000;", "request a in 0 1000;", "request a in 5 4;", "cancel 0;", "cancel 3;",
            "cancel 9999;", "move 0 500;", "move 3 500;", "move 1 1000;", "move 1 11;", "move 1 86;", "withdraw 2;",
            "withdraw 9999;", "ice 10;", "ice 9999;", "advance 0;", "advance 501;", "advance 9999;"};
        String before = Whole.state(begun());
        for (String command : thrown) {
            ChannelSchedule y = begun();
            Check.same("0", Check.answer(() -> Given.give(y, command + "ice 9;").runScript()), command);
            Check.same(before, Whole.state(y), command);
            Check.due("code 0\nposition -1\n", () -> Whole.errors(y));
        }
        String[] executed = {"book a in 12;", "book a in 999;", "book b out 140;", "request a in 999 999;",
            "request a in 0 0;", "request a in 0 999;", "cancel 1;", "cancel 2;", "move 1 999;", "move 1 50;",
            "move 2 500;", "withdraw 0;", "withdraw 1;", "ice 0;", "ice 9;", "advance 1;", "advance 500;"};
        for (String command : executed) {
            ChannelSchedule y = begun();
            boolean isBlocked = command.equals("book a in 12;");
            Check.same(isBlocked ? "0" : "1", Check.answer(() -> Given.give(y, command).runScript()), command);
        }
        Check.due(3, () -> Given.give(begun(), "advance 500;advance 500;advance 188;").runScript());
        Check.due(2, () -> Given.give(begun(), "advance 500;advance 500;advance 189;").runScript());
    }

    private static void commandsOneByOne() {
        Check.part("promise 60: each command finds what the ones before it have done");
        ChannelSchedule z = Given.three();
        Check.due(5, () -> Given.give(z, "book a in 5;move 0 9;cancel 0;book a in 9;advance 9;cancel 0;").runScript());
        Check.due("1 9 2", () -> z.bookingCount() + " " + z.minute() + " " + z.bookingsMade());
        ChannelSchedule w = Given.full();
        Check.due(0, () -> Given.give(w, "book a in 900;").runScript());
        Check.due(2, () -> Given.give(w, "cancel 19;book a in 900;book a in 950;").runScript());
        Check.due(8, () -> Given.give(w, "request b out 10 10;".repeat(9)).runScript());
        Check.due(NONE, () -> w.feasibleStart(7));
    }
}
