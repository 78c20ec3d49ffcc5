import java.io.IOException;
import java.lang.reflect.Field;
import java.lang.reflect.Method;
import java.lang.reflect.Modifier;
import java.nio.file.Files;
import java.nio.file.Path;
import java.util.ArrayList;
import java.util.Arrays;
import java.util.Collections;
import java.util.List;
import java.util.TreeMap;
import java.util.TreeSet;
import java.util.regex.Pattern;

/** The public face is that of the document, and the source keeps to those rules of LANGUAGE.md that can be seen. */
public final class FaceTest {
    /** Name, answer and arguments of each method, in the order of the document. */
    private static final String FACE = """
            append int int int int int int
            truncate int int
            load int
            errorCode int
            errorPosition int
            shipCount int
            headway int
            clearance int
            thickness int
            minute int
            transitTime int int
            iceClass int int
            weight int int
            shipNameByte int int int
            findShip int
            bookingCount int
            bookedShip int int
            startMinute int int
            endMinute int int
            isInbound boolean int
            isFinished boolean int
            isUnderWay boolean int
            occupancy int int
            emptyMinutes int int int
            longestEmptyRun int int int
            conflictCount int int boolean int
            firstConflict int int boolean int
            earliestStart int int boolean int
            latestStart int int boolean int
            bestCancellation int int boolean int
            directionSwitches int
            longestConvoy int
            slack int int
            whyNotMovable int int int
            requestCount int
            requestedShip int int
            isRequestInbound boolean int
            earliestRequested int int
            latestRequested int int
            whyNotFeasible int int
            bestValue int
            isSelected boolean int
            servedWithout int int
            feasibleStart int int
            waitingWeight int
            bookingsMade int
            bookingsCancelled int
            requestsServed int
            utilization float
            meanTransit double
            inconsistencies int
            book int int boolean int
            request int int boolean int int
            cancel int int
            moveBooking int int int
            withdraw int int
            setThickness int int
            advance int int
            runScript int
            undo int
            save int int
            restore int int
            writeSchedule int
            outputByte int int
            """;

    private FaceTest() {
    }

    public static void main(String[] args) throws IOException {
        face();
        members();
        source(Files.readString(Path.of("src/main/java/ChannelSchedule.java")));
        Check.end("FaceTest");
    }

    private static void face() {
        Check.part("face");
        Class<?> c = ChannelSchedule.class;
        Check.due(Modifier.PUBLIC | Modifier.FINAL, c::getModifiers);
        Check.due(1, () -> c.getDeclaredConstructors().length);
        Check.due(true, () -> Modifier.isPublic(c.getDeclaredConstructor().getModifiers()));
        Check.due(-1, () -> ChannelSchedule.NONE);
        List<String> due = new ArrayList<>(FACE.lines().toList());
        List<String> got = new ArrayList<>();
        for (Method m : c.getDeclaredMethods()) {
            if (!Modifier.isPrivate(m.getModifiers())) {
                StringBuilder line = new StringBuilder(m.getName()).append(' ').append(m.getReturnType());
                for (Class<?> type : m.getParameterTypes()) {
                    line.append(' ').append(type);
                }
                got.add(line.toString());
                Check.due(Modifier.PUBLIC, m::getModifiers);
            }
        }
        Collections.sort(due);
        Collections.sort(got);
        Check.due(String.join("\n", due), () -> String.join("\n", got));
    }

    private static void members() {
        Check.part("rules 1, 5, 11 and 12");
        Class<?> c = ChannelSchedule.class;
        List<String> open = new ArrayList<>();
        for (Field f : c.getDeclaredFields()) {
            if (!Modifier.isPrivate(f.getModifiers())) {
                open.add(f.getName());
            }
        }
        Check.due("[NONE]", open::toString);
        TreeSet<String> faceNames = new TreeSet<>();
        FACE.lines().forEach(line -> faceNames.add(line.substring(0, line.indexOf(' '))));
        List<Class<?>> all = new ArrayList<>(Arrays.asList(c.getDeclaredClasses()));
        Check.due(true, () -> all.size() <= 11);
        for (Class<?> inner : all) {
            Check.due(true, () -> Modifier.isStatic(inner.getModifiers()) && !Modifier.isPublic(inner.getModifiers())
                    && !Modifier.isProtected(inner.getModifiers()));
        }
        all.add(c);
        for (Class<?> each : all) {
            for (Method m : each.getDeclaredMethods()) {
                boolean isOfFace = each == c && Modifier.isPublic(m.getModifiers());
                Check.same("false", "" + (!isOfFace && faceNames.contains(m.getName())), "sharing the name " + m);
                Check.same("true", "" + (m.getParameterCount() <= 7), "seven parameters at most " + m);
            }
            int fields = 0;
            for (Field f : each.getDeclaredFields()) {
                boolean isStatic = Modifier.isStatic(f.getModifiers());
                fields += isStatic ? 0 : 1;
                boolean isConstant = Modifier.isFinal(f.getModifiers())
                        && (f.getType() == int.class || f.getType() == String.class);
                Check.same("true", "" + (!isStatic || isConstant), "a constant " + f);
            }
            Check.same("true", "" + (fields <= 20), "twenty fields at most in " + each);
        }
    }

    private static void source(String text) {
        Check.part("rules 1, 2, 4, 6 and 10");
        Check.due("[import java.util.NoSuchElementException;]",
                () -> text.lines().filter(line -> line.startsWith("import ")).toList());
        Check.due(true, () -> text.lines().noneMatch(line -> line.startsWith("package ")));
        Check.due(true, () -> text.chars().allMatch(letter -> letter < 127));
        String code = text.replaceAll("(?s)/\\*.*?\\*/", "").replaceAll("//[^\n]*", "");
        String[] strange = {"->", "::", "\\bfinally\\b", "\\btry\\b", "\\bcatch\\b", "\\bsynchronized\\b",
            "\\bassert\\b", "\\binstanceof\\b", "\\bMath\\.\\w+Exact\\b", "\\bSystem\\b", "\\bThread\\b",
            "\\bRandom\\b", "\\bFile\\b", "\\bObject\\b", "\\bvar\\b", "\\blong\\b", "\\bstatic \\{",
            "\" \\+", "\\+ \"",
            "\\bequals\\b", "\\bhashCode\\b", "\\btoString\\b", "@"};
        for (String each : strange) {
            Check.same("false", "" + Pattern.compile(each).matcher(code).find(), "having " + each);
        }
        Check.due("IllegalArgumentException IllegalStateException IndexOutOfBoundsException NoSuchElementException",
                () -> thrown(code));
        Check.due(true, () -> longestMethod(code) <= 60);
        objectsMade(code);
        callDepth(code);
    }

    private static void objectsMade(String code) {
        Check.part("rule 12: objects are made with the object itself, and no call makes any but what it throws");
        for (Body body : bodies(code)) {
            boolean isConstructor = Character.isUpperCase(body.name.charAt(0));
            boolean makes = Pattern.compile("(?<!throw )\\bnew\\b|\\.clone\\(|\\bcopyOf").matcher(body.text).find();
            Check.same("false", "" + (makes && !isConstructor), "making an object: " + body.name);
            Check.same("false", "" + (isConstructor && body.text.contains("throw ")), "throwing: " + body.name);
        }
    }

    private static void callDepth(String code) {
        Check.part("rules 8 and 11: no recursion, and calls go at most eight deep");
        TreeMap<String, TreeSet<String>> calls = new TreeMap<>();
        List<Body> bodies = bodies(code);
        for (Body body : bodies) {
            calls.put(body.name, new TreeSet<>());
        }
        // one name for one method, so that names tell which ones are called; and no method was overlooked
        Check.due(bodies.size(), calls::size);
        TreeSet<String> declared = new TreeSet<>();
        List<Class<?>> all = new ArrayList<>(Arrays.asList(ChannelSchedule.class.getDeclaredClasses()));
        all.add(ChannelSchedule.class);
        for (Class<?> each : all) {
            for (Method m : each.getDeclaredMethods()) {
                declared.add(m.getName());
            }
        }
        declared.addAll(List.of("ChannelSchedule", "Setup"));
        Check.due(declared, calls::keySet);
        for (Body body : bodies) {
            var call = Pattern.compile("\\b(\\w+)\\(").matcher(body.text);
            while (call.find()) {
                if (calls.containsKey(call.group(1))) {
                    calls.get(body.name).add(call.group(1));
                }
            }
        }
        for (String name : calls.keySet()) {
            Check.same("true", "" + (depth(name, calls, 1) <= 8), "eight calls deep at most: " + name);
        }
    }

    /** How many calls stand open at once below this one, which is the depth-th; far too many if it calls itself. */
    private static int depth(String name, TreeMap<String, TreeSet<String>> calls, int depth) {
        int deepest = depth;
        if (depth <= 20) {
            for (String called : calls.get(name)) {
                deepest = Math.max(deepest, depth(called, calls, depth + 1));
            }
        }
        return deepest;
    }

    private record Body(String name, String text) {
    }

    /** The methods and constructors, by the indent of the lines that open and close them. */
    private static List<Body> bodies(String code) {
        List<Body> found = new ArrayList<>();
        String opening = "^( {4}| {8})(?! )[^;{}=\n(]*\\b(\\w+)\\([^;{}]*\\{\n";
        var method = Pattern.compile("(?ms)" + opening + "(.*?)^\\1\\}").matcher(code);
        while (method.find()) {
            found.add(new Body(method.group(2), method.group(3)));
        }
        return found;
    }

    private static String thrown(String code) {
        TreeSet<String> names = new TreeSet<>();
        var found = Pattern.compile("throw new (\\w+)\\(\\);").matcher(code);
        while (found.find()) {
            names.add(found.group(1));
        }
        return String.join(" ", names);
    }

    private static int longestMethod(String code) {
        int longest = 0;
        for (Body body : bodies(code)) {
            longest = Math.max(longest, (int) body.text.lines().count() + 2);
        }
        return longest;
    }
}
