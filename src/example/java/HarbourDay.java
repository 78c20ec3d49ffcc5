/** A program that uses ChannelSchedule: README.md explains it, and shows what it prints. */
public final class HarbourDay {
    private HarbourDay() {
    }

    public static void main(String[] args) {
        ChannelSchedule channel = new ChannelSchedule();
        bookings(channel);
        requests(channel);
        texts(channel);
        errors(channel);
        states(channel);
    }

    private static void bookings(ChannelSchedule channel) {
        int end = channel.book(0, true, 10);
        System.out.println("ship 0 goes in from 10 to " + end);
        System.out.println("ship 1 can go out from " + channel.earliestStart(1, false, 10));
        try {
            channel.book(1, false, 20);
        } catch (IllegalStateException e) {
            System.out.println("not at 20: booking " + channel.firstConflict(1, false, 20) + " is in the way");
        }
    }

    private static void requests(ChannelSchedule channel) {
        int start = channel.request(1, false, 10, 20);
        System.out.println(start == ChannelSchedule.NONE ? "the request waits" : "served at " + start);
        System.out.println("cancelling booking 0 serves " + channel.cancel(0));
        System.out.println(written(channel));
    }

    private static void texts(ChannelSchedule channel) {
        give(channel, "channel 4 8 0; ship tug 15 3 5; ship ferry 12 1 9;");
        System.out.println(channel.load() + " ships");
        give(channel, "book tug in 30;\nbook ferry out 60;\nmove 0 35;\nadvance 10;");
        System.out.println(channel.runScript() + " commands executed");
        System.out.println(written(channel));
    }

    private static void errors(ChannelSchedule channel) {
        give(channel, "book tug sideways 90;");
        try {
            channel.runScript();
        } catch (IllegalArgumentException e) {
            System.out.println("error " + channel.errorCode() + " at byte " + channel.errorPosition());
        }
    }

    private static void states(ChannelSchedule channel) {
        channel.save(0);
        channel.setThickness(9);
        System.out.println("the ferry takes " + channel.transitTime(1) + " minutes");
        channel.undo();
        System.out.println("the ferry takes " + channel.transitTime(1) + " minutes");
        System.out.println("restored with " + channel.restore(0) + " bookings");
    }

    /** Puts the text into the input buffer in place of what stands there. */
    private static void give(ChannelSchedule channel, String text) {
        channel.truncate(0);
        for (int i = 0; i < text.length(); i += 20) {
            channel.append(four(text, i), four(text, i + 4), four(text, i + 8), four(text, i + 12), four(text, i + 16));
        }
        channel.truncate(text.length());
    }

    /** Four bytes of the text, the first one on top; spaces behind its end. */
    private static int four(String text, int from) {
        int bytes = 0;
        for (int i = from; i < from + 4; i++) {
            bytes = bytes << 8 | (i < text.length() ? text.charAt(i) & 255 : ' ');
        }
        return bytes;
    }

    private static String written(ChannelSchedule channel) {
        int length = channel.writeSchedule();
        StringBuilder text = new StringBuilder();
        for (int i = 0; i < length; i++) {
            text.append((char) channel.outputByte(i));
        }
        return text.toString();
    }
}
