import java.util.Arrays;
import java.util.function.Supplier;
import java.util.function.ToIntFunction;

/** Promises 21 to 32: acts, what is undone and kept, images, refusals. */
final class ActSentences {
    private static final int NONE = Check.NONE;
    private static final int MAX = Integer.MAX_VALUE;
    private static final int MIN = Integer.MIN_VALUE;
    private static final String AB = "town a;town b;";
    private static final String CART = AB + "cart a to b days 3;";
    private static final String THREE = CART + "town c;holds a of b 3;holds b of a 1;holds b of c 9;";
    private static final int[] NO_DAYS = {0, -1, 101, MIN, MAX};

    private ActSentences() {
    }

    static void all(Sentences s) {
        days(s);
        chance(s);
        give(s);
        noGift(s);
        find(s);
        burn(s);
        undo(s);
        noUndo(s);
        seed(s);
        kept(s);
        image(s);
        octet(s);
        on(s);
        onAgain(s);
        noImage(s);
        noLetters(s);
        status(s);
    }

    private static ReplyStamps onDay(int day) {
        return Check.at(AB, day / 256, day % 256, 0, 0, 0, 0, 0, 0, 0);
    }

    /** On a busy object the call is refused, all staying. */
    private static void not(Sentences s, int kind, String call, ToIntFunction<ReplyStamps> asked, int answer) {
        s.refused(kind, CallSentences::busy, call, asked, answer);
    }

    private static void days(Sentences s) {
        s.of(21, "n DAYS go by (1 .. 100), without DRAWS: how many LETTERS came;");
        ReplyStamps x = Check.of(THREE + "lost 100;");
        s.due("days(1)", x.days(1), 0);
        s.due("days(3)", x.days(3), 2);
        s.due("got", x.has(6), 2);
        s.due("day 4", x.has(2), 4);
        s.due("one act each", x.has(9), 2);
        x.days(100);
        s.due("day 104", x.has(2), 104);
        s.due("no draws", x.has(10), 1);
        s.of(21, "NONE, refused (2), when it can't be (beyond DAY 999).");
        for (int n : NO_DAYS) {
            not(s, 2, "days(" + n + ")", y -> y.days(n), NONE);
        }
        s.refused(2, () -> onDay(999), "days(1) on day 999", y -> y.days(1), NONE);
        s.refused(2, () -> onDay(900), "days(100) on day 900", y -> y.days(100), NONE);
        s.due("days(99) on day 900", onDay(900).days(99), 0);
        s.due("days(100) on day 899", onDay(899).days(100), 0);
        s.due("days(1) on day 998", onDay(998).days(1), 0);
    }

    private static void chance(Sentences s) {
        s.of(22, "n DAYS by the seed (1 .. 100), one ACT: how many LETTERS were LOST;");
        ReplyStamps x = Check.of(THREE + "lost 100;");
        s.due("chance(1)", x.chance(1), 0);
        s.due("chance(3)", x.chance(3), 2);
        s.due("none got", x.has(6), 0);
        s.due("one act each", x.has(9), 2);
        x.chance(100);
        s.due("day 104", x.has(2), 104);
        s.due("one act", x.has(9), 3);
        x.undo();
        s.due("undone at once", x.has(2), 4);
        s.of(22, "NONE, refused (2), when it can't be.");
        for (int n : NO_DAYS) {
            not(s, 2, "chance(" + n + ")", y -> y.chance(n), NONE);
        }
        s.refused(2, () -> onDay(999), "chance(1) on day 999", y -> y.chance(1), NONE);
        s.refused(2, () -> onDay(900), "chance(100) on day 900", y -> y.chance(100), NONE);
        s.due("chance(99) on day 900", onDay(900).chance(99), 0);
        s.due("chance(100) on day 899", onDay(899).chance(100), 0);
    }

    /** a holds one stamp of b, c so many. */
    private static ReplyStamps giving(int held) {
        return Check.at(THREE, 0, 0, 1, 0, 0, 0, 0, 0, 0, 0, 0, 0, 0, 0, 0, 0, 0, held, 0, 0, 0);
    }

    private static void give(Sentences s) {
        s.of(23, "A TOWN gives a stamp of another TOWN: true;");
        ReplyStamps x = giving(98);
        s.due("the last one, to 98", x.give(0, 1, 2), true);
        s.due("none is left", x.pair(0, 1, 0), 0);
        s.due("99 held", x.pair(2, 1, 0), 99);
        s.due("back", x.give(2, 1, 0), true);
        s.due("98 held", x.pair(2, 1, 0), 98);
        s.due("to that town itself", x.give(0, 1, 1), true);
        s.due("it is gone", x.has(3), 98);
        s.due("without a way", Check.of(THREE).give(1, 2, 0), true);
    }

    private static void noGift(Sentences s) {
        s.of(23, "false, refused (3), when it holds none, it is to itself, the third one holds 99, or there are none such.");
        not(s, 3, "it holds none", y -> y.give(0, 2, 1) ? 1 : 0, 0);
        not(s, 3, "it holds none, to that town itself", y -> y.give(0, 2, 2) ? 1 : 0, 0);
        not(s, 3, "to itself", y -> y.give(1, 2, 1) ? 1 : 0, 0);
        not(s, 3, "of its own", y -> y.give(1, 1, 0) ? 1 : 0, 0);
        not(s, 3, "of its own to itself", y -> y.give(1, 1, 1) ? 1 : 0, 0);
        s.refused(3, () -> giving(99), "the third one holds 99", y -> y.give(0, 1, 2) ? 1 : 0, 0);
        s.due("that town itself holds none", giving(99).give(2, 1, 1), true);
        for (int town : Sentences.NO_TOWNS) {
            not(s, 3, "give(" + town + ", 2, 0)", y -> y.give(town, 2, 0) ? 1 : 0, 0);
            not(s, 3, "give(1, " + town + ", 0)", y -> y.give(1, town, 0) ? 1 : 0, 0);
            not(s, 3, "give(1, 2, " + town + ")", y -> y.give(1, 2, town) ? 1 : 0, 0);
        }
        for (int[] no : Sentences.NO_PAIRS) {
            not(s, 3, "give" + Arrays.toString(no), y -> y.give(no[0], no[1], 0) ? 1 : 0, 0);
            not(s, 3, "give" + Arrays.toString(no) + " to c", y -> y.give(no[0], no[1], 2) ? 1 : 0, 0);
        }
    }

    private static void find(Sentences s) {
        s.of(24, "A TOWN finds a stamp of another TOWN: true;");
        ReplyStamps x = giving(97);
        s.due("98", x.find(2, 1), true);
        s.due("99", x.find(2, 1), true);
        s.due("99 held", x.pair(2, 1, 0), 99);
        s.due("the first one, without a way", x.find(2, 0), true);
        s.due("1 held", x.pair(2, 0, 0), 1);
        s.of(24, "false, refused (3), when it holds 99, they are one, or there are none such.");
        s.refused(3, () -> giving(99), "it holds 99", y -> y.find(2, 1) ? 1 : 0, 0);
        not(s, 3, "they are one", y -> y.find(1, 1) ? 1 : 0, 0);
        for (int town : Sentences.NO_TOWNS) {
            not(s, 3, "find(" + town + ", 0)", y -> y.find(town, 0) ? 1 : 0, 0);
            not(s, 3, "find(0, " + town + ")", y -> y.find(0, town) ? 1 : 0, 0);
        }
        for (int[] no : Sentences.NO_PAIRS) {
            not(s, 3, "find" + Arrays.toString(no), y -> y.find(no[0], no[1]) ? 1 : 0, 0);
        }
    }

    private static void burn(Sentences s) {
        s.of(25, "A TOWN burns all stamps of another TOWN: how many;");
        s.due("one", giving(7).burn(0, 1), 1);
        ReplyStamps x = giving(99);
        s.due("99", x.burn(2, 1), 99);
        s.due("none is left", x.pair(2, 1, 0), 0);
        s.due("the others are", x.has(3), 1);
        s.of(25, "NONE, refused (3), when it holds none, they are one, or there are none such.");
        s.refused(3, () -> giving(0), "it holds none", y -> y.burn(2, 1), NONE);
        not(s, 3, "they are one", y -> y.burn(1, 1), NONE);
        for (int town : Sentences.NO_TOWNS) {
            not(s, 3, "burn(" + town + ", 0)", y -> y.burn(town, 0), NONE);
            not(s, 3, "burn(1, " + town + ")", y -> y.burn(1, town), NONE);
        }
        for (int[] no : Sentences.NO_PAIRS) {
            not(s, 3, "burn" + Arrays.toString(no), y -> y.burn(no[0], no[1]), NONE);
        }
    }

    private static void undo(Sentences s) {
        s.of(26, "The latest ACT is undone: all is as it was ahead of it (but the seed): true;");
        for (int act = 0; act < 6; act++) {
            ReplyStamps x = CallSentences.busy();
            byte[] before = Check.image(x);
            int kept = x.has(7);
            acted(x, act);
            s.due("act " + act + " changes some", Arrays.equals(before, Check.image(x)), false);
            int seed = x.has(10);
            s.due("act " + act + ": undo()", x.undo(), true);
            s.due("act " + act + ": as it was", Arrays.equals(before, Check.image(x)), true);
            s.due("act " + act + ": what is kept", x.has(7), kept);
            s.due("act " + act + ": has(9)", x.has(9), 2);
            s.due("act " + act + ": but the seed", x.has(10), seed);
        }
        ReplyStamps drawn = CallSentences.busy();
        int seed = drawn.has(10);
        drawn.chance(20);
        s.due("drawn", drawn.has(10) != seed, true);
        // 50 are told, and those that were told no more come back
        ReplyStamps x = Check.of(AB + "cart a to b days 1;holds a of b 1;");
        x.days(31);
        x.days(60);
        s.due("the oldest one told", x.kept(0, 0), 41);
        x.undo();
        s.due("the oldest one is back", x.kept(0, 0), 1);
        s.due("and the newest", x.kept(29, 0), 30);
        s.due("none behind", x.kept(30, 0), NONE);
        x.days(60);
        x.days(9);
        s.due("the newest of 50", x.kept(49, 0), 99);
        x.undo();
        s.due("the newest of 50 is as it was", x.kept(49, 0), 90);
        s.due("the oldest of 50, too", x.kept(0, 0), 41);
    }

    private static void acted(ReplyStamps x, int act) {
        switch (act) {
            case 0 -> x.days(2);
            case 1 -> x.chance(20);
            case 2 -> x.give(1, 2, 0);
            case 3 -> x.give(1, 2, 2);
            case 4 -> x.find(2, 0);
            default -> x.burn(1, 2);
        }
    }

    private static void noUndo(Sentences s) {
        s.of(26, "false, refused (4), when none can be.");
        s.refused(4, ReplyStamps::new, "undo() of a new object", y -> y.undo() ? 1 : 0, 0);
        s.refused(4, ActSentences::allUndone, "undo() of none left", y -> y.undo() ? 1 : 0, 0);
        s.refused(4, () -> onDay(5), "undo() behind on()", y -> y.undo() ? 1 : 0, 0);
        ReplyStamps x = Check.of(THREE);
        x.days(0);
        x.find(0, 0);
        s.due("a refused act is none", x.undo(), false);
        for (int n = 0; n < 25; n++) {
            x.find(2, 0);
        }
        for (int n = 0; n < 20; n++) {
            s.due("one of the last 20", x.undo(), true);
        }
        s.due("one ahead of these", x.undo(), false);
    }

    private static ReplyStamps allUndone() {
        ReplyStamps x = CallSentences.busy();
        x.undo();
        x.undo();
        return x;
    }

    private static void seed(Sentences s) {
        s.of(27, "The seed: true;");
        for (int seed : new int[] {0, 1, 1 << 30, MAX}) {
            ReplyStamps x = CallSentences.busy();
            s.due("seed(" + seed + ")", x.seed(seed), true);
            s.due("has(10)", x.has(10), seed);
            s.due("no act", x.has(9), 2);
        }
        s.of(27, "false, refused (5), when it is below 0.");
        not(s, 5, "seed(-1)", y -> y.seed(-1) ? 1 : 0, 0);
        not(s, 5, "seed(MIN)", y -> y.seed(MIN) ? 1 : 0, 0);
    }

    private static void kept(Sentences s) {
        s.of(28, "Of what is told as KEPT, the k-th from the oldest on: 0 DAY, 1 from, 2 to, 3 whether LOST.");
        ReplyStamps x = Check.of(THREE + "lost 100;");
        x.days(4);
        x.chance(1);
        int[][] want = {{3, 0, 1, 0}, {3, 1, 0, 0}, {4, 0, 1, 1}};
        s.table("kept", x::kept, want);
        s.of(28, "NONE when there is none such, or for others.");
        for (int k : new int[] {-1, 3, 4, 49, 50, 51, MIN, MAX}) {
            s.due("kept(" + k + ", 0)", x.kept(k, 0), NONE);
        }
        for (int what : new int[] {-1, 4, MIN, MAX}) {
            s.due("kept(0, " + what + ")", x.kept(0, what), NONE);
        }
        s.due("none kept", Check.of(THREE).kept(0, 0), NONE);
        x.undo();
        s.due("undone, so not kept", x.kept(2, 0), NONE);
        x = Check.of(AB + "cart a to b days 1;holds a of b 1;");
        x.days(70);
        s.due("the 50th", x.kept(49, 0), 69);
        s.due("no 51st", x.kept(50, 0), NONE);
    }

    private static void image(Sentences s) {
        s.of(29, "AN IMAGE is written: how many bytes.");
        s.due("no towns", new ReplyStamps().image(), 4);
        s.due("one town", Check.of("town a;").image(), 4);
        s.due("two towns", Check.of(AB).image(), 10);
        ReplyStamps x = CallSentences.busy();
        s.due("three towns", x.image(), 4 + 18 + 3 * x.has(4));
        s.due("no act", x.has(9), 2);
        int[] most = new int[93 + 180];
        most[92] = 60;
        for (int i = 0; i < 60; i++) {
            most[94 + 3 * i] = 1;
            most[95 + 3 * i] = 3;
        }
        s.due("six towns, 60 letters", Check.at(CART + "town c;town d;town e;town f;", most).image(), 274);
    }

    private static void octet(Sentences s) {
        s.of(30, "Byte k of the latest image(); NONE when there is none such.");
        ReplyStamps x = CallSentences.busy();
        s.due("ahead of any", x.octet(0), NONE);
        int length = x.image();
        s.due("the first", x.octet(0), 0);
        s.due("the day", x.octet(1), 4);
        s.due("the last", x.octet(length - 1) >= 0, true);
        for (int k : new int[] {-1, length, MIN, MAX}) {
            s.due("octet(" + k + ")", x.octet(k), NONE);
        }
        x.days(5);
        s.due("of that image, not of what is so", x.octet(1), 4);
        x.image();
        s.due("of the latest", x.octet(1), 9);
        Check.union(x, AB);
        s.due("behind another union the latest still", x.octet(1), 9);
        x.image();
        s.due("a shorter one: the last", x.octet(9) >= 0, true);
        s.due("a shorter one: none behind", x.octet(10), NONE);
    }

    private static void on(Sentences s) {
        s.of(31, "The tape (it goes) is AN IMAGE of this UNION: true, all is as it tells, nothing is KEPT, no ACT can be undone;");
        ReplyStamps x = CallSentences.busy();
        byte[] image = Check.image(x);
        int[] all = new int[7];
        for (int what = 0; what < 7; what++) {
            all[what] = x.has(what);
        }
        int seed = x.has(10);
        x.days(50);
        x.later(0, 1, 60, 0);
        Check.put(x, image);
        s.due("on()", x.on(), true);
        s.due("nothing is left", x.end(1), false);
        s.due("as it tells", Arrays.equals(image, Check.image(x)), true);
        for (int what = 0; what < 7; what++) {
            s.due("has(" + what + ")", x.has(what), all[what]);
        }
        s.due("nothing is kept: has(7)", x.has(7), 0);
        s.due("nothing is kept: kept(0, 0)", x.kept(0, 0), NONE);
        s.due("no act: has(9)", x.has(9), 0);
        s.due("no act: undo()", x.undo(), false);
        s.due("the bag stays", x.has(8), 1);
        s.due("the seed stays", x.has(10), seed);
    }

    /** It goes on from an image as from the state of which it is. */
    private static void onAgain(Sentences s) {
        s.of(31, "all is as it tells,");
        ReplyStamps x = Check.of(THREE);
        x.days(5);
        byte[] image = Check.image(x);
        ReplyStamps y = Check.of(THREE);
        Check.put(y, image);
        y.on();
        s.due("the same letters come", y.days(90), x.days(90));
        s.due("to the same", Arrays.equals(Check.image(x), Check.image(y)), true);
        int[] most = {3, 231, 99, 99, 99, 99, 99, 99, 0};
        s.due("on() of the most", Check.at(CART, most).has(3), 198);
        s.due("no towns", Check.at("", 3, 231, 0).has(2), 999);
        boolean[] checks = new boolean[256];
        for (int day = 0; day <= 999; day++) {
            s.due("on() of day " + day, Check.at(CART, day / 256, day % 256, 0, 0, 0, 0, 0, 0, 0).has(2), day);
            checks[Check.checked(day / 256, day % 256, 0, 0, 0, 0, 0, 0, 0)[9] & 255] = true;
        }
        for (int check = 0; check < 251; check++) {
            s.due("a day with the check byte " + check, checks[check], true);
        }
    }

    /** Of two towns, 3 days apart, the bytes and their check byte are no image. */
    private static void none(Sentences s, int... octets) {
        noneOf(s, Check.checked(octets));
    }

    private static void noneOf(Sentences s, byte[] bytes) {
        Supplier<ReplyStamps> two = () -> {
            ReplyStamps x = Check.of(CART + "holds a of b 4;");
            x.days(4);
            return x;
        };
        s.refused(5, two, "on() of " + Arrays.toString(bytes), y -> {
            Check.put(y, bytes);
            return y.on() ? 1 : 0;
        }, 0);
    }

    private static void noImage(Sentences s) {
        s.of(31, "false, refused (5), all staying, if it is none such");
        int[] fine = {0, 0, 1, 2, 3, 4, 5, 6, 1, 0, 1, 3};
        s.due("a fine one", Check.at(CART, fine).has(4), 1);
        for (int length = 0; length < fine.length; length++) {
            none(s, Arrays.copyOf(fine, length));
        }
        none(s, Arrays.copyOf(fine, fine.length + 1));
        noneOf(s, new byte[0]);
        for (int i = 0; i < fine.length + 1; i++) {
            byte[] other = Check.checked(fine);
            other[i] ^= 1;
            noneOf(s, other);
        }
        foldedCheck(s);
        ReplyStamps x = Check.of(CART);
        Check.put(x, Check.bytes(1, 2, 3));
        x.on();
        s.due("the tape goes", x.feed(0, 0, 0, 0, 0), 20);
        s.of(31, "(DAY 999, stamps, sent, got 99,");
        s.due("day 999", Check.at(CART, 3, 231, 0, 0, 0, 0, 0, 0, 0).has(2), 999);
        none(s, 3, 232, 0, 0, 0, 0, 0, 0, 0);
        none(s, 4, 0, 0, 0, 0, 0, 0, 0, 0);
        none(s, 255, 255, 0, 0, 0, 0, 0, 0, 0);
        for (int i = 2; i < 8; i++) {
            for (int octet : new int[] {99, 100, 128, 255}) {
                int[] octets = new int[9];
                octets[i] = octet;
                if (octet == 99) {
                    s.due("99 at " + i, Arrays.equals(Check.image(Check.at(CART, octets)), Check.checked(octets)), true);
                } else {
                    none(s, octets);
                }
            }
        }
    }

    /** 251 more is the same by 251, and another byte. */
    private static void foldedCheck(Sentences s) {
        int day = 0;
        while ((Check.checked(0, day, 0, 0, 0, 0, 0, 0, 0)[9] & 255) > 4) {
            day++;
        }
        byte[] folded = Check.checked(0, day, 0, 0, 0, 0, 0, 0, 0);
        s.due("as it was", Check.at(CART, 0, day, 0, 0, 0, 0, 0, 0, 0).has(2), day);
        folded[9] += (byte) 251;
        noneOf(s, folded);
    }

    private static int[] withLetters(int letters) {
        int[] octets = new int[9 + 3 * letters];
        octets[8] = letters;
        for (int i = 0; i < letters; i++) {
            octets[10 + 3 * i] = 1;
            octets[11 + 3 * i] = 3;
        }
        return octets;
    }

    private static void noLetters(Sentences s) {
        s.of(31, "LETTERS 60 at most;");
        s.due("60", Check.at(CART, withLetters(60)).has(4), 60);
        none(s, withLetters(61));
        none(s, withLetters(255));
        s.of(31, "TOWNS that there are, unlike ones, with a way;");
        int[][] none = {{0, 2, 1}, {2, 0, 1}, {2, 2, 1}, {255, 1, 1}, {0, 255, 1}, {0, 0, 1}, {1, 1, 1}, {0, 7, 1}};
        for (int[] letter : none) {
            none(s, 0, 0, 0, 0, 0, 0, 0, 0, 1, letter[0], letter[1], letter[2]);
            none(s, 0, 0, 0, 0, 0, 0, 0, 0, 2, 0, 1, 1, letter[0], letter[1], letter[2]);
        }
        int[] third = new int[24];
        third[20] = 1;
        third[22] = 1;
        third[23] = 1;
        s.due("with a way", Check.at(THREE, third).has(4), 1);
        third[22] = 2;
        s.refused(5, () -> Check.of(THREE), "without a way", y -> {
            Check.put(y, Check.checked(third));
            return y.on() ? 1 : 0;
        }, 0);
        s.of(31, "DAYS left 1 to those of the way).");
        for (int left = 1; left <= 3; left++) {
            s.due(left + " left", Check.at(CART, 0, 0, 0, 0, 0, 0, 0, 0, 1, 1, 0, left).mail(0, 2), left);
        }
        for (int left : new int[] {0, 4, 99, 128, 255}) {
            none(s, 0, 0, 0, 0, 0, 0, 0, 0, 1, 1, 0, left);
        }
    }

    private static void status(Sentences s) {
        s.of(32, "How many were refused: 0 feed(), end(); 1 union(); 2 days(), chance(); 3 give(), find(), burn(); 4 undo();"
            + " 5 seed(), bag(), on().");
        ReplyStamps x = Check.of(THREE);
        for (int what = 0; what < 6; what++) {
            s.due("none yet: status(" + what + ")", x.status(what), 0);
        }
        for (int n = 0; n < 81; n++) {
            x.feed(0, 0, 0, 0, 0);
        }
        x.end(-1);
        x.union();
        x.days(0);
        x.chance(0);
        x.give(0, 0, 0);
        x.find(0, 0);
        x.burn(0, 0);
        x.undo();
        x.seed(-1);
        x.bag();
        x.on();
        int[] want = {2, 1, 2, 3, 1, 3};
        for (int what = 0; what < 6; what++) {
            s.due("status(" + what + ")", x.status(what), want[what]);
        }
        Check.union(x, THREE);
        x.days(1);
        x.undo();
        for (int what = 0; what < 6; what++) {
            s.due("of all unions: status(" + what + ")", x.status(what), want[what]);
        }
        s.of(32, "NONE for others.");
        for (int what : new int[] {-1, 6, MIN, MAX}) {
            s.due("status(" + what + ")", x.status(what), NONE);
        }
    }
}
