import java.util.Arrays;

/** Promises 29 to 32: image, octet, on, status. */
public final class ImageTest {
    private static final int NONE = Check.NONE;
    private static final String THREE = "town a;town b;town c;town d;cart a to b days 2;cart b to c days 3;"
        + "holds a of b 4;holds a of c 1;holds b of c 2;holds c of a 1;holds d of a 7;encl 2;";

    public static void main(String[] args) {
        Check check = new Check();
        image(check);
        octet(check);
        on(check);
        onAnew(check);
        noImage(check);
        letters(check);
        status(check);
        check.finish();
    }

    private static void image(Check check) {
        ReplyStamps x = new ReplyStamps();
        check.due("no towns", x.image(), 4);
        check.due("no towns", Arrays.equals(Check.image(x), Check.checked(0, 0, 0)), true);
        x.days(100);
        x.days(100);
        x.days(100);
        check.due("day 300", Arrays.equals(Check.image(x), Check.checked(1, 44, 0)), true);
        x = Check.of("town a;town b;cart a to b days 3;holds a of b 4;holds b of a 1;encl 2;");
        x.days(4);
        // both wrote on day 0 and a on days 1 to 3; on day 3 both letters came, and b wrote again
        check.due("two towns", x.image(), 2 + 6 + 1 + 12 + 1);
        byte[] want = Check.checked(0, 4, 2, 4, 1, 1, 2, 1, 4, 0, 1, 1, 0, 1, 2, 0, 1, 3, 1, 0, 3);
        check.due("two towns", Arrays.equals(Check.image(x), want), true);
        check.due("an image is no act", x.has(9), 1);
    }

    private static void octet(Check check) {
        ReplyStamps x = Check.of("town a;town b;holds a of b 4;");
        check.due("ahead of any", x.octet(0), NONE);
        check.due("image()", x.image(), 10);
        check.due("octet(2)", x.octet(2), 4);
        check.due("octet(-1)", x.octet(-1), NONE);
        check.due("octet(10)", x.octet(10), NONE);
        check.due("octet(MAX)", x.octet(Integer.MAX_VALUE), NONE);
        x.find(0, 1);
        check.due("of the latest image", x.octet(2), 4);
        x.image();
        check.due("of the next one", x.octet(2), 5);
        Check.union(x, "town a;");
        check.due("another union leaves it", x.octet(2), 5);
    }

    private static void on(Check check) {
        ReplyStamps x = Check.of(THREE);
        x.days(7);
        byte[] image = Check.image(x);
        ReplyStamps y = Check.of(THREE);
        Check.put(y, image);
        check.due("on()", y.on(), true);
        check.due("the same image", Arrays.equals(image, Check.image(y)), true);
        for (int what = 2; what < 7; what++) {
            check.due("has(" + what + ")", y.has(what), x.has(what));
        }
        check.due("the same goes on", y.days(50), x.days(50));
        check.due("to the same", Arrays.equals(Check.image(x), Check.image(y)), true);
    }

    private static void onAnew(Check check) {
        ReplyStamps x = Check.of(THREE);
        byte[] image = Check.image(x);
        x.days(9);
        Check.put(x, Check.bytes(0, 0));
        x.bag();
        x.seed(9);
        check.due("some are kept", x.has(7) > 0, true);
        Check.put(x, image);
        check.due("on()", x.on(), true);
        check.due("nothing is kept", x.has(7), 0);
        check.due("no act can be undone", x.has(9), 0);
        check.due("undo()", x.undo(), false);
        check.due("day 0", x.has(2), 0);
        check.due("none under way", x.has(4), 0);
        check.due("the bag stays", x.has(8), 1);
        check.due("the seed stays", x.has(10), 9);
        check.due("the tape went", x.feed(0, 0, 0, 0, 0), 20);
        check.due("on() of noughts", x.on(), false);
        check.due("the tape went", x.feed(0, 0, 0, 0, 0), 20);
    }

    /** Of a union with two towns 3 days apart. */
    private static void is(Check check, boolean want, int... octets) {
        bytesAre(check, want, Check.checked(octets));
    }

    private static void bytesAre(Check check, boolean want, byte[] bytes) {
        ReplyStamps x = Check.of("town a;town b;cart a to b days 3;holds a of b 4;");
        x.days(1);
        byte[] before = Check.image(x);
        Check.put(x, bytes);
        check.due("on() of " + Arrays.toString(bytes), x.on(), want);
        check.due("status(5)", x.status(5), want ? 0 : 1);
        check.due("acts", x.has(9), want ? 0 : 1);
        check.due("all is so", Arrays.equals(want ? bytes : before, Check.image(x)), true);
    }

    private static void noImage(Check check) {
        is(check, true, 0, 0, 0, 0, 0, 0, 0, 0, 0);
        is(check, true, 3, 231, 99, 99, 99, 99, 99, 99, 0);
        is(check, false, 3, 232, 0, 0, 0, 0, 0, 0, 0);
        is(check, false, 4, 0, 0, 0, 0, 0, 0, 0, 0);
        for (int i = 2; i < 8; i++) {
            int[] octets = new int[9];
            octets[i] = 100;
            is(check, false, octets);
            octets[i] = 255;
            is(check, false, octets);
        }
        is(check, true, 0, 0, 0, 0, 0, 0, 0, 0, 2, 0, 1, 1, 1, 0, 3);
        is(check, false, 0, 0, 0, 0, 0, 0, 0, 0, 1, 0, 1, 0);
        is(check, false, 0, 0, 0, 0, 0, 0, 0, 0, 1, 0, 1, 4);
        is(check, false, 0, 0, 0, 0, 0, 0, 0, 0, 1, 1, 1, 1);
        is(check, false, 0, 0, 0, 0, 0, 0, 0, 0, 1, 0, 2, 1);
        is(check, false, 0, 0, 0, 0, 0, 0, 0, 0, 1, 2, 0, 1);
        is(check, false, 0, 0, 0, 0, 0, 0, 0, 0, 1, 255, 0, 1);
        is(check, false, 0, 0, 0, 0, 0, 0, 0, 0, 2, 0, 1, 1);
        is(check, false, 0, 0, 0, 0, 0, 0, 0, 0, 0, 0);
        is(check, false, 0, 0, 0, 0, 0, 0, 0, 0);
        is(check, false, 0, 0, 0);
        bytesAre(check, false, new byte[0]);
        bytesAre(check, false, new byte[] {(byte) 191});
        byte[] wrongCheck = Check.checked(0, 0, 0, 0, 0, 0, 0, 0, 0);
        wrongCheck[9]++;
        bytesAre(check, false, wrongCheck);
        byte[] folded = Check.checked(0, 0, 0, 0, 0, 0, 0, 0, 0);
        folded[9] = (byte) ((folded[9] & 255) + 251);
        bytesAre(check, false, folded);
    }

    private static void letters(Check check) {
        for (int n = 59; n <= 62; n++) {
            int[] octets = new int[9 + 3 * n];
            octets[8] = n;
            for (int i = 0; i < n; i++) {
                octets[9 + 3 * i] = i % 2;
                octets[10 + 3 * i] = 1 - i % 2;
                octets[11 + 3 * i] = 1 + i % 3;
            }
            is(check, n <= 60, octets);
        }
        ReplyStamps x = Check.of("town a;town b;town c;cart a to b days 3;");
        int[] noWay = new int[24];
        noWay[20] = 1;
        noWay[22] = 2;
        noWay[23] = 1;
        Check.put(x, Check.checked(noWay));
        check.due("no way", x.on(), false);
        noWay[22] = 1;
        Check.put(x, Check.checked(noWay));
        check.due("a way", x.on(), true);
        x = new ReplyStamps();
        Check.put(x, Check.checked(0, 7, 0));
        check.due("no towns", x.on(), true);
        check.due("day 7", x.has(2), 7);
        Check.put(x, Check.checked(0, 7, 1, 0, 1, 1));
        check.due("no towns, no letter", x.on(), false);
    }

    private static void status(Check check) {
        ReplyStamps x = Check.of("town a;town b;holds a of b 1;");
        x.end(-1);
        Check.union(x, "x");
        x.days(0);
        x.chance(0);
        x.give(0, 0, 0);
        x.find(0, 0);
        x.burn(0, 0);
        x.undo();
        x.seed(-1);
        x.bag();
        x.on();
        int[] want = {1, 1, 2, 3, 1, 3};
        for (int what = 0; what < want.length; what++) {
            check.due("status(" + what + ")", x.status(what), want[what]);
        }
        check.due("status(6)", x.status(6), NONE);
        check.due("status(-1)", x.status(-1), NONE);
        check.due("status(MIN)", x.status(Integer.MIN_VALUE), NONE);
    }
}
