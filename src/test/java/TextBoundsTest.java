import java.util.ArrayList;
import java.util.List;

/**
 * Texts at their bounds: every place of the grammar is tried with every kind of token, every bound of a number, a
 * name and a count with the values next to it, every byte at the places where it makes a difference, and every text
 * that ends too early.
 */
public final class TextBoundsTest {
    private static final String FINE = "code 0\nposition -1\n";
    private static final int OK = 0;

    /** Tokens of all kinds, with those at every bound of the grammar. */
    private static final List<String> TOKENS = List.of("channel", "channels", "ship", "ships", "in", "out", "a", "z",
            "az", "abcdef", "abcdefg", "abcdefgh", "abcdefghi", "abcdefghijklmnop", "book", "request", "cancel", "move",
            "withdraw", "ice", "advance", "0", "1", "9", "10", "30", "31", "59", "60", "61", "98", "99", "100", "999",
            "1000", "9999", "0000", "0001", "0009", "0030", "0031", "10000", "00000", "00001", "99999", "4294967297",
            ";", "?", "A", "Z", "-", "\0", "\t", "\r", "\u007f", "\u0080", "\u00e1", "\u00ff", "`", "{", "/", ":");

    private TextBoundsTest() {
    }

    public static void main(String[] args) {
        setupPlaces();
        setupEnds();
        ships();
        names();
        commandPlaces();
        commandEnds();
        commandCount();
        bytes();
        spaces();
        wholeBuffer();
        firstError();
        Check.end("TextBoundsTest");
    }

    // ---- what a text gives

    private static void setup(String text, int ships, int code, int position) {
        ChannelSchedule x = Given.give(new ChannelSchedule(), text);
        if (code == OK) {
            Check.due(ships, x::load);
            Check.same(FINE, Whole.errors(x), text);
        } else {
            Check.argument(x::load);
            Check.same("code " + code + "\nposition " + position + "\n", Whole.errors(x), text);
        }
        Check.due(code == OK ? ships : 4, x::shipCount);
        Check.argument(() -> x.truncate(1));
    }

    private static void script(String text, int code, int position) {
        ChannelSchedule x = Given.give(new ChannelSchedule(), text);
        if (code == OK) {
            Check.due(true, () -> x.runScript() >= 0);
            Check.same(FINE, Whole.errors(x), text);
            Check.due(0, x::undo);
        } else {
            Check.argument(x::runScript);
            Check.same("code " + code + "\nposition " + position + "\n", Whole.errors(x), text);
            Check.state(x::undo);
        }
        Check.argument(() -> x.truncate(1));
    }

    private static boolean isWord(String token) {
        return token.matches("[a-z]{1,8}");
    }

    private static boolean isNumber(String token) {
        return token.matches("[0-9]{1,4}");
    }

    // ---- setup texts

    /** What each token of the setup below must be: a literal, "name", or the range of a number. */
    private static final String[] SETUP = "channel 5 10 3 ; ship a 20 3 4 ; ship b 1 0 1 ;".split(" ");
    private static final String[] SETUP_RULES =
            "channel 0-30 0-30 0-9 ; ship name 1-60 0-9 1-99 ; ship name 1-60 0-9 1-99 ;".split(" ");

    /** The code of the error that the token is at this place of the setup, 0 if it is none. */
    private static int setupCode(int place, String token) {
        String rule = SETUP_RULES[place];
        if (rule.equals("name")) {
            boolean isTaken = place > 6 && token.equals("a");
            return !isWord(token) ? 1 : token.length() > 6 || isTaken ? 3 : OK;
        }
        if (rule.contains("-")) {
            String[] range = rule.split("-");
            if (!isNumber(token)) {
                return 1;
            }
            int number = Integer.parseInt(token);
            return number < Integer.parseInt(range[0]) || number > Integer.parseInt(range[1]) ? 2 : OK;
        }
        return token.equals(rule) ? OK : 1;
    }

    private static void setupPlaces() {
        Check.part("each token at each place of a setup text");
        setup(String.join(" ", SETUP), 2, OK, -1);
        for (int place = 0; place < SETUP.length; place++) {
            for (String token : TOKENS) {
                String[] changed = SETUP.clone();
                changed[place] = token;
                int position = String.join(" ", List.of(SETUP).subList(0, place)).length() + (place > 0 ? 1 : 0);
                setup(String.join(" ", changed), 2, setupCode(place, token), position);
            }
        }
        // behind the last semicolon only another ship may stand
        String whole = String.join("", List.of("channel 5 10 3;", "ship a 20 3 4;"));
        for (String token : TOKENS) {
            if (token.equals("ship")) {
                setup(whole + token, 0, 1, whole.length() + 4);
            } else {
                setup(whole + token, 0, 1, whole.length());
            }
        }
    }

    private static void setupEnds() {
        Check.part("a setup text that ends too early");
        String whole = "channel 12 13 3;ship ann 20 3 44;ship b 11 0 1;";
        for (int length = 0; length < whole.length(); length++) {
            String text = whole.substring(0, length);
            if (length == whole.indexOf(";ship b") + 1) {
                setup(text, 1, OK, -1);
                continue;
            }
            // where the text ends inside of a literal word, this word is the one with the error
            int start = Math.max(text.lastIndexOf(' '), text.lastIndexOf(';')) + 1;
            String last = text.substring(start);
            boolean isPartOfLiteral = start == 0 ? !last.isEmpty() && !last.equals("channel")
                    : text.charAt(start - 1) == ';' && !last.isEmpty() && !last.equals("ship");
            setup(text, 0, 1, isPartOfLiteral ? start : length);
            setup(text + " \n ", 0, 1, isPartOfLiteral ? start : length + 3);
        }
    }

    private static void ships() {
        Check.part("1 to 10 ships");
        StringBuilder text = new StringBuilder("channel 1 1 1;");
        setup(text.toString(), 0, 1, 14);
        for (int i = 0; i < 10; i++) {
            text.append("ship n").append((char) ('a' + i)).append(" 1 0 1;");
            setup(text.toString(), i + 1, OK, -1);
        }
        int end = text.length();
        Check.part("an 11th ship");
        setup(text + "ship", 0, 4, end);
        setup(text + "ship z 1 0 1;", 0, 4, end);
        setup(text + "\n ship na 1 0 1;", 0, 4, end + 2);
        setup(text + "ships", 0, 1, end);
        setup(text + "shi", 0, 1, end);
        setup(text + "shipshipship", 0, 1, end);
        setup(text + ";", 0, 1, end);
        setup(text + "1", 0, 1, end);
        setup(text + "?", 0, 1, end);
        // an error before the 11th ship comes first
        setup(text.toString().replace("nj 1", "nj 0") + "ship", 0, 2, end - 6);
        ChannelSchedule x = Given.loaded(text.toString());
        Check.due(9, () -> Given.give(x, "nj").findShip());
        Check.due("nj", () -> Given.nameOf(x, 9));
        Check.index(() -> x.transitTime(10));
    }

    private static void names() {
        Check.part("names");
        String before = "channel 1 1 1;ship ";
        for (int length = 1; length <= 12; length++) {
            String name = "zyxwvutsrqponm".substring(0, length);
            setup(before + name + " 1 0 1;", 1, length <= 6 ? OK : length <= 8 ? 3 : 1, 19);
            if (length <= 6) {
                ChannelSchedule x = Given.loaded(before + name + " 1 0 1;");
                Check.due(name, () -> Given.nameOf(x, 0));
                int last = length - 1;
                Check.due((int) name.charAt(last), () -> x.shipNameByte(0, last));
                Check.index(() -> x.shipNameByte(0, last + 1));
                Check.due(0, () -> Given.give(x, name).findShip());
                Check.element(() -> Given.give(x, name.substring(1)).findShip());
                Check.element(() -> Given.give(x, name + "a").findShip());
                Check.due(1, () -> Given.give(x, "book " + name + " in 5;").runScript());
            }
        }
        // a name that an earlier ship has, whichever it is; one that begins like it is another one
        String two = before + "abc 1 0 1;ship abd 1 0 1;ship ";
        setup(two + "abc 1 0 1;", 0, 3, two.length());
        setup(two + "abd 1 0 1;", 0, 3, two.length());
        setup(two + "ab 1 0 1;", 3, OK, -1);
        setup(two + "abcd 1 0 1;", 3, OK, -1);
        setup(two + "bc 1 0 1;", 3, OK, -1);
        setup(two + "abb 1 0 1;", 3, OK, -1);
        // the error is that of the name, whatever follows it
        setup(two + "abc", 0, 3, two.length());
        setup(two + "abc 99 99 999", 0, 3, two.length());
        setup(two + "abcdefg", 0, 3, two.length());
        // a name of the setup that is replaced is free again
        ChannelSchedule x = new ChannelSchedule();
        Check.due(1, () -> Given.give(x, before + "ann 1 0 1;").load());
        Check.due(1, () -> Given.give(x, before + "ann 2 0 1;").load());
        Check.argument(() -> Given.give(x, "book bob in 5;").runScript());
        Check.same("code 3\nposition 5\n", Whole.errors(x), "the name of a ship of an earlier setup");
        // literal words are names like others
        setup("channel 1 1 1;ship ship 1 0 1;ship in 1 0 1;ship out 1 0 1;ship book 1 0 1;ship ice 1 0 1;", 5, OK, -1);
        setup("channel 1 1 1;ship channel 1 0 1;", 0, 3, 19);
    }

    // ---- scripts

    private static final String[] COMMANDS = {"book ann in 5 ;", "request bob out 5 6 ;", "cancel 0 ;", "move 0 7 ;",
        "withdraw 0 ;", "ice 4 ;", "advance 3 ;"};
    private static final String[] COMMAND_RULES = {"verb name way number ;", "verb name way number number ;",
        "verb number ;", "verb number number ;", "verb number ;", "verb number ;", "verb number ;"};

    /** The code of the error that the token is at a place with this rule, 0 if it is none. */
    private static int commandCode(String rule, String token) {
        return switch (rule) {
            case "name" -> !isWord(token) ? 1 : 3;
            case "way" -> token.equals("in") || token.equals("out") ? OK : 1;
            case "number" -> isNumber(token) ? OK : 1;
            default -> token.equals(rule) ? OK : 1;
        };
    }

    private static boolean isVerb(String token) {
        return List.of("book", "request", "cancel", "move", "withdraw", "ice", "advance").contains(token);
    }

    private static void commandPlaces() {
        Check.part("each token at each place of a command");
        for (int i = 0; i < COMMANDS.length; i++) {
            String before = i % 2 == 0 ? "" : "ice 2;\n";
            String[] tokens = COMMANDS[i].split(" ");
            String[] rules = COMMAND_RULES[i].split(" ");
            script(before + COMMANDS[i], OK, -1);
            for (int place = 0; place < tokens.length; place++) {
                List<String> changed = new ArrayList<>(List.of(tokens));
                int position = before.length() + String.join(" ", changed.subList(0, place)).length()
                        + (place > 0 ? 1 : 0);
                for (String token : TOKENS) {
                    if (place == 0 && isVerb(token)) {
                        continue;
                    }
                    changed.set(place, token);
                    script(before + String.join(" ", changed), commandCode(rules[place], token), position);
                }
                for (String name : new String[] {"ann", "bob", "cid", "dot"}) {
                    changed.set(place, name);
                    int code = rules[place].equals("name") ? OK : commandCode(rules[place], name);
                    script(before + String.join(" ", changed), code, position);
                }
            }
            // a token too few: the next one stands where it is not allowed
            for (int place = 1; place < tokens.length; place++) {
                List<String> changed = new ArrayList<>(List.of(tokens));
                int position = before.length() + String.join(" ", changed.subList(0, place)).length() + 1;
                changed.remove(place);
                boolean isEnd = place == changed.size();
                boolean isNumberNext = !isEnd && rules[place].equals("number") && rules[place + 1].equals("number");
                int at = isNumberNext ? position + 2 : isEnd ? position - 1 : position;
                // "in" and "out" may be names, but no ship has them
                int code = rules[place].equals("name") ? 3 : 1;
                script(before + String.join(" ", changed), code, at);
            }
        }
    }

    private static void commandEnds() {
        Check.part("a script that ends too early");
        for (String command : COMMANDS) {
            String[] tokens = command.split(" ");
            for (int count = 1; count < tokens.length; count++) {
                String text = "ice 2;" + String.join(" ", List.of(tokens).subList(0, count));
                script(text, 1, text.length());
                script(text + " ", 1, text.length() + 1);
                script(text + "\n\n \n", 1, text.length() + 4);
            }
        }
        script("", OK, -1);
        script(" ", OK, -1);
        script("\n", OK, -1);
        script(" ".repeat(600), OK, -1);
        script("ice 2;ic", 1, 6);
        script("ice 2;b", 1, 6);
    }

    private static void commandCount() {
        Check.part("30 commands and the 31st");
        for (int count = 0; count <= 31; count++) {
            ChannelSchedule x = Given.give(new ChannelSchedule(), "advance 1;".repeat(count));
            if (count <= 30) {
                int due = count;
                Check.due(due, x::runScript);
                Check.due(due, x::minute);
                Check.due(0, x::undo);
            } else {
                Check.argument(x::runScript);
                Check.due("code 4\nposition 300\n", () -> Whole.errors(x));
                Check.due(0, x::minute);
            }
        }
        String thirty = "ice 1;".repeat(30);
        for (String verb : new String[] {"book", "request", "cancel", "move", "withdraw", "ice", "advance"}) {
            script(thirty + verb, 4, 180);
            script(thirty + " \n" + verb + " ann in 5;", 4, 182);
        }
        String[] others = {"in", "ship", "ann", "channel", "bookbookbook", "boo", "5", "12345", ";", "?"};
        for (String other : others) {
            script(thirty + other, 1, 180);
        }
        script(thirty + " \n ", OK, -1);
        // an error before the 31st command comes first, one behind it does not count
        script("ice 1;".repeat(29) + "ice 1 1;ice 1;", 1, 180);
        script(thirty + "ice x;", 4, 180);
    }

    // ---- bytes

    private static void bytes() {
        Check.part("each byte");
        for (int value = 0; value < 256; value++) {
            char c = (char) value;
            boolean isLetter = c >= 'a' && c <= 'z';
            boolean isDigit = c >= '0' && c <= '9';
            boolean isSpace = c == ' ' || c == '\n';
            script("book ann" + c + "in 5;", isSpace ? OK : isLetter ? 3 : 1, isLetter ? 5 : 8);
            script("advance 1" + c + ";", isSpace || isDigit ? OK : 1, c == ';' ? 10 : 9);
            script("ice 1;" + c, isSpace ? OK : 1, 6);
            script("" + c, isSpace ? OK : 1, 0);
            setup("channel 5 10 3" + c + ";ship a 1 0 1;", 1, isSpace ? OK : isDigit ? 2 : 1,
                    isDigit ? 13 : c == ';' ? 15 : 14);
            // "a5 1 0 1": 5 is the time and 1 the class, so that the weight is 0; but a time of 0 stands before it
            setup("channel 5 10 3;ship a" + c + " 1 0 1;", 1, isSpace || isLetter ? OK : isDigit ? 2 : 1,
                    isDigit && c != '0' ? 25 : 21);
            ChannelSchedule x = new ChannelSchedule();
            Check.element(() -> Given.give(x, "ann" + c).findShip());
            Check.element(() -> Given.give(x, c + "ann").findShip());
            String close = "an" + c;
            if (c == 'n') {
                Check.due(0, () -> Given.give(x, close).findShip());
            } else {
                Check.element(() -> Given.give(x, close).findShip());
            }
        }
    }

    private static void spaces() {
        Check.part("spaces and line feeds");
        for (String gap : new String[] {" ", "\n", "  ", "\n\n", " \n", "\n \n "}) {
            setup(gap + String.join(gap, SETUP) + gap, 2, OK, -1);
            String wrong = gap + String.join(gap, SETUP).replace("20", "61");
            setup(wrong, 0, 2, wrong.indexOf("61"));
            for (String command : COMMANDS) {
                script(gap + command.replace(" ", gap) + gap + command.replace(" ", gap) + gap, OK, -1);
                String cut = gap + command.replace(" ", gap).replace(";", "");
                script(cut, 1, cut.length());
            }
        }
        // they separate: what would be one token is two
        script("ad vance 1;", 1, 0);
        script("advance 1\n2;", 1, 10);
        setup("channel 3 0 3 0 0;ship a 1 0 1;", 0, 1, 14);
        // none is needed between tokens of different kinds
        setup("channel5 10 3;ship a20 3 4;ship b1 0 1;", 2, OK, -1);
        script("advance1;cancel0;move0 1;book ann in5;request bob out5 6;", OK, -1);
        script("book ann5;", 1, 8);
    }

    /** A text of 600 bytes, the longest that the buffer holds, is read to its last byte. */
    private static void wholeBuffer() {
        Check.part("texts of 600 bytes");
        String shortSetup = "channel 5 10 3;ship a 20 3 4;";
        String gap = " ".repeat(600 - shortSetup.length());
        setup(gap + shortSetup, 1, OK, -1);
        setup(shortSetup + gap, 1, OK, -1);
        setup(shortSetup + gap.substring(1) + "?", 0, 1, 599);
        setup(gap + shortSetup.replace(';', '?'), 0, 1, gap.length() + 14);
        setup(shortSetup + gap.substring(4) + "ship", 0, 1, 600);
        setup("x".repeat(600), 0, 1, 0);
        setup("1".repeat(600), 0, 1, 0);
        setup(";".repeat(600), 0, 1, 0);
        script(" ".repeat(590) + "advance 1;", OK, -1);
        script(" ".repeat(591) + "advance 1", 1, 600);
        script(" ".repeat(599) + "5", 1, 599);
        script("advance " + "1".repeat(592), 1, 8);
        script("advance 1;" + " ".repeat(589) + ";", 1, 599);
        ChannelSchedule x = new ChannelSchedule();
        Check.due(1, () -> Given.give(x, " ".repeat(580) + "book bob in      77;").runScript());
        Check.due("bob>77-95", () -> Given.written(x));
    }

    private static void firstError() {
        Check.part("the first token with an error counts, and its lowest code");
        setup("channel 31 x ?;", 0, 2, 8);
        setup("channel x 31 ?;", 0, 1, 8);
        setup("channel 31000 31;", 0, 1, 8);
        setup("channel 1 1 1;ship abcdefg 99 99 999 ?", 0, 3, 19);
        setup("channel 1 1 1;ship abcdefghi 99", 0, 1, 19);
        setup("channel 1 1 1;ship a 0 10 0;", 0, 2, 21);
        setup("channel 1 1 1;ship a 1 10 0;", 0, 2, 23);
        setup("channel 1 1 1;ship a 1 0 0;", 0, 2, 25);
        setup("channel 1 1 10;ship", 0, 2, 12);
        script("book eve inn 5;", 3, 5);
        script("book ann inn x;", 1, 9);
        script("book eveeveeve in 5;", 1, 5);
        script("book eve in 99999;", 3, 5);
        script("book ann in 99999;book eve", 1, 12);
        // a number out of range is no error of a script
        script("book ann in 9999;", OK, -1);
        script("request ann out 9999 0;", OK, -1);
        script("cancel 9999;withdraw 9999;move 9999 9999;ice 9999;advance 9999;", OK, -1);
        script("advance 0;", OK, -1);
    }
}
