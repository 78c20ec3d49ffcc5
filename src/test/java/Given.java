import java.nio.charset.StandardCharsets;

/** Objects that the tests begin with, and texts put into them and read from them. */
final class Given {
    private Given() {
    }

    static ChannelSchedule give(ChannelSchedule x, String text) {
        byte[] bytes = text.getBytes(StandardCharsets.ISO_8859_1);
        int before = x.truncate(0);
        for (int i = 0; i < bytes.length; i += 20) {
            int[] words = new int[5];
            for (int j = 0; j < 20; j++) {
                words[j / 4] = words[j / 4] << 8 | (i + j < bytes.length ? bytes[i + j] & 255 : 0);
            }
            before = x.append(words[0], words[1], words[2], words[3], words[4]);
        }
        if (before != bytes.length) {
            x.truncate(bytes.length);
        }
        return x;
    }

    static ChannelSchedule loaded(String text) {
        ChannelSchedule x = give(new ChannelSchedule(), text);
        x.load();
        return x;
    }

    /** Headway 5, clearance 10, no ice: a takes 10 minutes, b 20, c 30; weights 1, 2, 3. */
    static ChannelSchedule three() {
        return loaded("channel 5 10 0;ship a 10 0 1;ship b 20 0 2;ship c 30 0 3;");
    }

    /** Headway and clearance 0: every passage takes 1 minute, so that many fit. */
    static ChannelSchedule swift() {
        return loaded("channel 0 0 0;ship a 1 0 1;ship b 1 0 2;");
    }

    static ChannelSchedule full() {
        ChannelSchedule x = swift();
        for (int i = 0; i < 20; i++) {
            x.book(0, true, 10 + 2 * i);
        }
        return x;
    }

    static String nameOf(ChannelSchedule x, int ship) {
        StringBuilder name = new StringBuilder();
        for (int i = 0; i < 6; i++) {
            int index = i;
            String letter = Check.answer(() -> x.shipNameByte(ship, index));
            if (letter.startsWith("throws")) {
                break;
            }
            name.append((char) Integer.parseInt(letter));
        }
        return name.toString();
    }

    static String written(ChannelSchedule x) {
        int length = x.writeSchedule();
        StringBuilder text = new StringBuilder();
        for (int i = 0; i < length; i++) {
            text.append((char) x.outputByte(i));
        }
        Check.index(() -> x.outputByte(length));
        return text.toString();
    }
}
