import java.nio.charset.StandardCharsets;

/** Counts the answers that are not as due, and puts texts on the tape. */
class Check {
    static final int NONE = ReplyStamps.NONE;

    private int asked = 0;
    private int wrong = 0;

    void due(String call, long got, long want) {
        asked++;
        if (got != want) {
            wrong++;
            System.out.println(call + " answered " + got + ", due is " + want);
        }
    }

    void due(String call, boolean got, boolean want) {
        due(call, got ? 1 : 0, want ? 1 : 0);
    }

    /** The text alone on a new object has this fault at this place. */
    void fault(String text, int kind, int place) {
        ReplyStamps x = new ReplyStamps();
        due("union() of \"" + text + "\"", union(x, text), NONE);
        due("fault(0) of \"" + text + "\"", x.fault(0), kind);
        due("fault(1) of \"" + text + "\"", x.fault(1), place);
    }

    /** The text alone on a new object is a union of so many statements. */
    void fine(String text, int statements) {
        ReplyStamps x = new ReplyStamps();
        due("union() of \"" + text + "\"", union(x, text), statements);
        due("fault(0) of \"" + text + "\"", x.fault(0), 0);
        due("fault(1) of \"" + text + "\"", x.fault(1), NONE);
    }

    static ReplyStamps of(String text) {
        ReplyStamps x = new ReplyStamps();
        if (union(x, text) == NONE) {
            throw new IllegalStateException("fault " + x.fault(0) + " at " + x.fault(1) + " of " + text);
        }
        return x;
    }

    static int union(ReplyStamps x, String text) {
        put(x, text.getBytes(StandardCharsets.ISO_8859_1));
        return x.union();
    }

    /** The tape is just these bytes. */
    static void put(ReplyStamps x, byte[] bytes) {
        x.end(0);
        for (int at = 0; at < bytes.length; at += 20) {
            x.feed(number(bytes, at), number(bytes, at + 4), number(bytes, at + 8), number(bytes, at + 12),
                number(bytes, at + 16));
        }
        x.end(bytes.length);
    }

    static byte[] bytes(int... octets) {
        byte[] bytes = new byte[octets.length];
        for (int i = 0; i < octets.length; i++) {
            bytes[i] = (byte) octets[i];
        }
        return bytes;
    }

    /** The union of the text, in the state of an image of these bytes and their check byte. */
    static ReplyStamps at(String text, int... octets) {
        ReplyStamps x = of(text);
        put(x, checked(octets));
        if (!x.on()) {
            throw new IllegalStateException("no image of " + text);
        }
        return x;
    }

    /** The latest image, as bytes. */
    static byte[] image(ReplyStamps x) {
        byte[] bytes = new byte[x.image()];
        for (int i = 0; i < bytes.length; i++) {
            bytes[i] = (byte) x.octet(i);
        }
        return bytes;
    }

    /** These bytes and the check byte behind them. */
    static byte[] checked(int... octets) {
        byte[] bytes = new byte[octets.length + 1];
        int check = 191;
        for (int i = 0; i < octets.length; i++) {
            bytes[i] = (byte) octets[i];
            check = (5 * check + octets[i]) % 251;
        }
        bytes[octets.length] = (byte) check;
        return bytes;
    }

    private static int number(byte[] bytes, int at) {
        int number = 0;
        for (int i = at; i < at + 4; i++) {
            number = number << 8 | (i < bytes.length ? bytes[i] & 255 : ' ');
        }
        return number;
    }

    void finish() {
        System.out.println((asked - wrong) + " answers as due, " + wrong + " not");
        if (wrong != 0) {
            System.exit(1);
        }
    }
}
