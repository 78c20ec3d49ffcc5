import java.util.ArrayList;
import java.util.List;
import java.util.concurrent.Callable;

/** Counts checks, prints those that fail, and ends the program with their result. */
final class Check {
    private static int done = 0;
    private static int wrong = 0;
    private static String part = "";

    private Check() {
    }

    static void part(String name) {
        part = name;
    }

    /** What a call answers: its value as text, or "throws" and the exact class of what it throws. */
    static String answer(Callable<?> call) {
        try {
            return String.valueOf(call.call());
        } catch (Exception e) {
            return "throws " + e.getClass().getSimpleName();
        }
    }

    static void due(Object want, Callable<?> call) {
        same(String.valueOf(want), answer(call), "a call");
    }

    static void index(Callable<?> call) {
        due("throws IndexOutOfBoundsException", call);
    }

    static void argument(Callable<?> call) {
        due("throws IllegalArgumentException", call);
    }

    static void state(Callable<?> call) {
        due("throws IllegalStateException", call);
    }

    static void element(Callable<?> call) {
        due("throws NoSuchElementException", call);
    }

    static boolean same(String want, String got, String what) {
        done++;
        if (want.equals(got)) {
            return true;
        }
        wrong++;
        if (wrong <= 40) {
            System.out.println(part + ": " + what + " answered " + got + ", due is " + want + place());
        }
        return false;
    }

    /** Where in the test the failing check stands. */
    private static String place() {
        List<String> lines = new ArrayList<>();
        for (StackTraceElement e : new Throwable().getStackTrace()) {
            if (!e.getClassName().equals("Check") && lines.size() < 2) {
                lines.add(e.getFileName() + ":" + e.getLineNumber());
            }
        }
        return " (" + String.join(", ", lines) + ")";
    }

    static boolean allRight() {
        return wrong == 0;
    }

    static void end(String name) {
        System.out.println(name + ": " + done + " checks, " + wrong + " wrong");
        if (wrong > 0 || done == 0) {
            System.exit(1);
        }
    }
}
