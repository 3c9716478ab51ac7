import java.util.Arrays;

/** Promises 1 to 20: the tape, the union, what is so now and ahead, word, whose bag. */
final class CallSentences {
    private static final int NONE = Check.NONE;
    private static final int MAX = Integer.MAX_VALUE;
    private static final int MIN = Integer.MIN_VALUE;
    private static final String AB = "town a;town b;";
    private static final String SIX = AB + "town c;town d;town e;town f;";
    private static final String CART = AB + "cart a to b days 2;";
    private static final String THREE = CART + "town c;holds a of b 3;holds b of a 1;holds b of c 9;";

    private CallSentences() {
    }

    static void all(Sentences s) {
        newObject(s);
        feed(s);
        end(s);
        union(s);
        unionWithFault(s);
        unionAnew(s);
        fault(s);
        has(s);
        hasMost(s);
        letter(s);
        pair(s);
        mail(s);
        writes(s);
        later(s);
        comes(s);
        silent(s);
        word(s);
        wide(s);
        cut(s);
        ring(s);
        swap(s);
        bag(s);
        noBag(s);
        whose(s);
        whoseTelling(s);
    }

    private static void newObject(Sentences s) {
        s.of(1, "No TOWNS;");
        s.due("has(0)", new ReplyStamps().has(0), 0);
        s.due("letter(0, 0)", new ReplyStamps().letter(0, 0), NONE);
        s.of(1, "the seed is 1.");
        s.due("has(10)", new ReplyStamps().has(10), 1);
        s.of(1, "`NONE = -1`: None; refused.");
        s.due("NONE", ReplyStamps.NONE, -1);
        s.due("none", new ReplyStamps().has(11), -1);
        s.due("refused", new ReplyStamps().days(0), -1);
        s.of(1, "An object is used for at most 512 calls after it has been made;");
        ReplyStamps x = Check.of(AB);
        // Check.of made four calls: end, feed, end, union
        for (int call = 5; call <= 512; call++) {
            if (call % 2 == 1) {
                s.due("find, call " + call, x.find(0, 1), true);
            } else {
                s.due("burn, call " + call, x.burn(0, 1), 1);
            }
        }
        s.aside("what later calls answer is free.");
    }

    private static void feed(Sentences s) {
        s.of(2, "Twenty bytes come behind those on the tape, of each number the highest first:");
        ReplyStamps x = new ReplyStamps();
        // "encl 3;lost 7;encl 2" and "; \n\n"
        x.feed(0x656e636c, 0x20333b6c, 0x6f737420, 0x373b656e, 0x636c2032);
        x.feed(0x3b200a0a, 0x20202020, 0x20202020, 0x20202020, 0x20202020);
        s.due("union()", x.union(), 3);
        x.feed(0x20202020, 0x20202020, 0x20202020, 0x20202020, 0x202020ff);
        x.union();
        s.due("the twentieth byte", x.fault(1), 19);
        x.feed(0xff202020, 0x20202020, 0x20202020, 0x20202020, 0x20202020);
        x.union();
        s.due("the first byte", x.fault(1), 0);
        s.of(2, "how many there are;");
        for (int n = 1; n <= 80; n++) {
            s.due("feed " + n, x.feed(MIN, -1, 0, 1, MAX), 20 * n);
        }
        s.of(2, "NONE, refused (0), if there would be more than 1600.");
        s.due("feed 81", x.feed(0, 0, 0, 0, 0), NONE);
        s.due("1600 stay", x.end(1600), true);
        for (int n : new int[] {1581, 1599, 1600}) {
            s.refused(0, () -> fed(n), "feed behind " + n, y -> y.feed(0, 0, 0, 0, 0), NONE);
        }
        s.due("feed behind 1580", fed(1580).feed(0, 0, 0, 0, 0), 1600);
        ReplyStamps full = fed(1581);
        full.feed(0, 0, 0, 0, 0);
        s.due("not one byte of it came", full.end(1582), false);
    }

    /** With so many bytes on the tape. */
    private static ReplyStamps fed(int bytes) {
        ReplyStamps x = new ReplyStamps();
        for (int n = 0; n < bytes; n += 20) {
            x.feed(0x20202020, 0x20202020, 0x20202020, 0x20202020, 0x20202020);
        }
        x.end(bytes);
        return x;
    }

    private static void end(Sentences s) {
        s.of(3, "The tape has its first n bytes alone: true;");
        ReplyStamps x = new ReplyStamps();
        s.due("end(0) of nothing", x.end(0), true);
        x.feed(0x656e636c, 0x20333bff, 0, 0, 0);
        s.due("end(20)", x.end(20), true);
        s.due("end(7)", x.end(7), true);
        s.due("union()", x.union(), 1);
        x.feed(-1, -1, -1, -1, -1);
        s.due("end(0)", x.end(0), true);
        s.due("feed", x.feed(-1, -1, -1, -1, -1), 20);
        s.of(3, "false, refused (0), if it has not so many, or n is below 0.");
        s.refused(0, () -> fed(20), "end(21)", y -> y.end(21) ? 1 : 0, 0);
        s.refused(0, () -> fed(20), "end(MAX)", y -> y.end(MAX) ? 1 : 0, 0);
        s.refused(0, () -> fed(20), "end(-1)", y -> y.end(-1) ? 1 : 0, 0);
        s.refused(0, () -> fed(20), "end(MIN)", y -> y.end(MIN) ? 1 : 0, 0);
        s.refused(0, () -> fed(0), "end(1) of nothing", y -> y.end(1) ? 1 : 0, 0);
        x = fed(20);
        x.end(7);
        s.due("end(8) behind end(7)", x.end(8), false);
        s.due("the tape stays", x.feed(0, 0, 0, 0, 0), 27);
    }

    private static void union(Sentences s) {
        s.of(4, "The tape (it goes) is THE UNION: how many STATEMENTS (0 without);");
        ReplyStamps x = Check.of(AB);
        s.due("nothing is left", x.end(1), false);
        s.due("of no text", x.union(), 0);
        s.due("no towns", x.has(0), 0);
        s.fine(" \n", 0);
        s.fine(AB, 2);
        s.fine("encl 1;".repeat(80), 80);
        s.fine("lost 1" + " ".repeat(1593) + ";", 1);
    }

    /** Of three towns on day 4, with letters under way and kept, a bag, a seed, two acts. */
    static ReplyStamps busy() {
        ReplyStamps x = Check.of(THREE + "lost 100;");
        x.seed(77);
        x.days(3);
        x.chance(1);
        Check.put(x, Check.bytes(0, 0));
        x.bag();
        return x;
    }

    private static void unionWithFault(Sentences s) {
        s.of(4, "NONE, refused (1), with a FAULT (all stays).");
        s.refused(1, CallSentences::busy, "union() with a fault at its end", y -> Check.union(y, "town x;town y"), NONE);
        s.refused(1, CallSentences::busy, "union() with a fault at its start", y -> Check.union(y, "$"), NONE);
        s.refused(1, ReplyStamps::new, "union() with a fault, on a new object", y -> Check.union(y, "town a;$"), NONE);
        ReplyStamps x = Check.of(THREE);
        Check.union(x, "town a;town b;$");
        s.due("the old rules go on", x.comes(0, 1), 3);
        s.due("the tape goes", x.feed(0, 0, 0, 0, 0), 20);
    }

    private static void unionAnew(Sentences s) {
        s.of(4, "Without one all is as at first, nothing is KEPT or in a BAG, no ACT can be undone;");
        ReplyStamps x = busy();
        s.due("kept ahead of it", x.has(7) > 0, true);
        Check.union(x, THREE);
        int[] want = {3, 1, 0, 13, 0, 0, 0, 0, 0, 0};
        for (int what = 0; what < want.length; what++) {
            s.due("has(" + what + ")", x.has(what), want[what]);
        }
        s.due("kept(0, 0)", x.kept(0, 0), NONE);
        s.due("whose(0)", x.whose(0), 7);
        s.refused(4, () -> anew(THREE), "undo()", y -> y.undo() ? 1 : 0, 0);
        x = anew("");
        s.due("of no text: has(3)", x.has(3), 0);
        s.due("of no text: image()", x.image(), 4);
        s.due("of no text: whose(0)", x.whose(0), 0);
        s.due("the rules are gone, too", anew(AB + "cart a to b days 1;holds a of b 1;").later(0, 1, 1, 1), 1);
        s.of(4, "the seed stays.");
        int seed = busy().has(10);
        s.due("some seed", seed != 1, true);
        s.due("has(10)", anew(THREE).has(10), seed);
    }

    /** Another union behind a busy one, whose test of writes holds nowhere. */
    private static ReplyStamps anew(String text) {
        ReplyStamps x = busy();
        Check.union(x, "writes not all;");
        Check.union(x, text);
        return x;
    }

    private static void fault(Sentences s) {
        s.of(5, "Of the latest union(): its FAULT (what 0; 0 without, and ahead of any), its place (1; NONE without).");
        ReplyStamps x = new ReplyStamps();
        s.due("ahead of any: fault(0)", x.fault(0), 0);
        s.due("ahead of any: fault(1)", x.fault(1), NONE);
        String[] texts = {"$", "town a;town a;", "cart a to b days 1;", "encl 4;", "likes ((((((((1", "likes 1;likes 1;"};
        int[] places = {0, 12, 5, 5, 13, 8};
        for (int i = 0; i < texts.length; i++) {
            Check.union(x, texts[i]);
            s.due(texts[i] + ": fault(0)", x.fault(0), i + 1);
            s.due(texts[i] + ": fault(1)", x.fault(1), places[i]);
        }
        Check.union(x, AB);
        s.due("without one: fault(0)", x.fault(0), 0);
        s.due("without one: fault(1)", x.fault(1), NONE);
        s.of(5, "NONE for another what.");
        Check.union(x, "town a;$");
        for (int what : new int[] {-1, 2, MIN, MAX}) {
            s.due("fault(" + what + ")", x.fault(what), NONE);
        }
    }

    private static void has(Sentences s) {
        s.of(6, "How many there are: 0 TOWNS, 1 CARTS, 2 DAY, 3 stamps held by all, 4 LETTERS under way, 5 sent by all, 6 got by"
            + " all, 7 told as KEPT, 8 rows of a BAG, 9 ACTS that can be undone, 10 the seed.");
        ReplyStamps x = busy();
        // a wrote on each of four days, b on days 0 and 2; on day 2 two came, on day 3 one was lost
        int[] want = {3, 1, 4, 9, 3, 6, 2, 3, 1, 2, Draw.nextSeed(77)};
        for (int what = 0; what < want.length; what++) {
            s.due("has(" + what + ")", x.has(what), want[what]);
            s.due("a new object: has(" + what + ")", new ReplyStamps().has(what), what == 10 ? 1 : 0);
        }
        s.of(6, "NONE for others.");
        for (int what : new int[] {-1, 11, MIN, MAX}) {
            s.due("has(" + what + ")", x.has(what), NONE);
        }
    }

    private static void hasMost(Sentences s) {
        s.of(6, "How many there are:");
        int[] octets = new int[93];
        Arrays.fill(octets, 2, 92, 99);
        ReplyStamps x = Check.at(SIX, octets);
        for (int what : new int[] {3, 5, 6}) {
            s.due("99 of each: has(" + what + ")", x.has(what), 30 * 99);
        }
        x.seed(MAX);
        s.due("has(10)", x.has(10), MAX);
        Check.put(x, new byte[32]);
        x.bag();
        s.due("has(8)", x.has(8), 16);
    }

    private static void letter(Sentences s) {
        s.of(7, "Letter k (0 .. 5) of the NAME of a TOWN: 1 .. 26; 0 behind it;");
        ReplyStamps x = Check.of("town a;town azmzaz;town z;");
        int[][] want = {{1, 0, 0, 0, 0, 0}, {1, 26, 13, 26, 1, 26}, {26, 0, 0, 0, 0, 0}};
        s.table("letter", x::letter, want);
        s.due("zzzzzz", Check.of("town zzzzzz;").letter(0, 5), 26);
        s.of(7, "NONE when there is none such.");
        for (int k : new int[] {-1, 6, MIN, MAX}) {
            s.due("letter(1, " + k + ")", x.letter(1, k), NONE);
        }
        for (int town : Sentences.NO_TOWNS) {
            s.due("letter(" + town + ", 0)", x.letter(town, 0), NONE);
        }
    }

    private static void pair(Sentences s) {
        s.of(8, "Of a TOWN and another one: 0 stamps held, 1 sent, 2 got, 3 DAYS of the way (NONE).");
        ReplyStamps x = Check.at(CART, 0, 0, 99, 98, 97, 0, 1, 2, 0);
        int[] want = {99, 98, 97, 2};
        int[] other = {0, 1, 2, 2};
        for (int what = 0; what < 4; what++) {
            s.due("pair(0, 1, " + what + ")", x.pair(0, 1, what), want[what]);
            s.due("pair(1, 0, " + what + ")", x.pair(1, 0, what), other[what]);
        }
        s.due("no way", Check.of(AB).pair(0, 1, 3), NONE);
        s.of(8, "NONE when there are none such, they are one, or for others.");
        x = Check.of(THREE);
        for (int town : Sentences.NO_TOWNS) {
            s.due("pair(" + town + ", 0, 0)", x.pair(town, 0, 0), NONE);
            s.due("pair(0, " + town + ", 3)", x.pair(0, town, 3), NONE);
        }
        for (int[] no : Sentences.NO_PAIRS) {
            s.due("pair" + Arrays.toString(no), x.pair(no[0], no[1], 0), NONE);
        }
        for (int what = 0; what < 4; what++) {
            s.due("pair(1, 1, " + what + ")", x.pair(1, 1, what), NONE);
        }
        for (int what : new int[] {-1, 4, MIN, MAX}) {
            s.due("pair(0, 1, " + what + ")", x.pair(0, 1, what), NONE);
        }
        x = Check.of(SIX + "holds f of e 7;holds b of a 8;");
        s.due("of six towns the last", x.pair(5, 4, 0), 7);
        s.due("of six towns no seventh one", x.pair(0, 6, 0), NONE);
        s.due("of six towns no seventh one either", x.pair(6, 0, 0), NONE);
    }

    private static void mail(Sentences s) {
        s.of(9, "Of the k-th LETTER under way (as they were written): 0 from, 1 to, 2 DAYS left.");
        ReplyStamps x = Check.of(THREE);
        x.days(2);
        int[][] want = {{0, 1, 1}, {1, 0, 1}, {0, 1, 2}};
        s.table("mail", x::mail, want);
        s.of(9, "NONE when there is none such, or for others.");
        for (int k : new int[] {-1, 3, 4, 59, 60, 61, MIN, MAX}) {
            s.due("mail(" + k + ", 0)", x.mail(k, 0), NONE);
        }
        for (int what : new int[] {-1, 3, MIN, MAX}) {
            s.due("mail(0, " + what + ")", x.mail(0, what), NONE);
        }
        s.due("none under way", Check.of(THREE).mail(0, 0), NONE);
        int[] most = new int[9 + 180];
        most[8] = 60;
        for (int i = 0; i < 60; i++) {
            most[10 + 3 * i] = 1;
            most[11 + 3 * i] = 1 + i % 2;
        }
        x = Check.at(CART, most);
        s.due("the last of 60", x.mail(59, 2), 2);
        s.due("none behind 60", x.mail(60, 2), NONE);
    }

    private static void writes(Sentences s) {
        s.of(10, "To which TOWN a TOWN would WRITE now; NONE when to none, or there is none such.");
        ReplyStamps x = Check.of(THREE);
        s.due("writes(0)", x.writes(0), 1);
        s.due("writes(1)", x.writes(1), 0);
        s.due("to none", x.writes(2), NONE);
        for (int town : Sentences.NO_TOWNS) {
            s.due("writes(" + town + ")", x.writes(town), NONE);
        }
        s.due("no letter is written by it", x.has(4), 0);
        s.due("a new object", new ReplyStamps().writes(0), NONE);
        x = Check.of(SIX + "cart a to b days 1;cart a to f days 1;holds b of a 1;holds f of a 1;");
        int[] ofSix = {NONE, 0, NONE, NONE, NONE, 0, NONE};
        for (int town = 0; town <= 6; town++) {
            s.due("of six towns: writes(" + town + ")", x.writes(town), ofSix[town]);
        }
    }

    private static void later(Sentences s) {
        s.of(11, "Behind n DAYS AHEAD (0 .. 60): 0 stamps of another TOWN that a TOWN holds, 1 sent to it, 2 got from it.");
        ReplyStamps x = Check.of(THREE);
        int[][] want = {{3, 0, 0}, {2, 1, 0}, {1, 2, 0}, {1, 3, 1}};
        s.table("later 0, 1, ", (n, what) -> Check.of(THREE).later(0, 1, n, what), want);
        ReplyStamps gone = Check.of(THREE);
        gone.days(60);
        for (int what = 0; what < 3; what++) {
            s.due("later(0, 1, 60, " + what + ")", x.later(0, 1, 60, what), gone.pair(0, 1, what));
        }
        s.due("it is day 0 still", x.has(2), 0);
        s.of(11, "NONE when there are none such, they are one, n can't be, or for others.");
        for (int town : Sentences.NO_TOWNS) {
            s.due("later(" + town + ", 0, 1, 0)", x.later(town, 0, 1, 0), NONE);
            s.due("later(0, " + town + ", 1, 0)", x.later(0, town, 1, 0), NONE);
        }
        for (int[] no : Sentences.NO_PAIRS) {
            s.due("later" + Arrays.toString(no), x.later(no[0], no[1], 1, 0), NONE);
        }
        s.due("one town", x.later(1, 1, 1, 0), NONE);
        for (int n : new int[] {-1, 61, MIN, MAX}) {
            s.due("later(0, 1, " + n + ", 0)", x.later(0, 1, n, 0), NONE);
        }
        for (int what : new int[] {-1, 3, MIN, MAX}) {
            s.due("later(0, 1, 1, " + what + ")", x.later(0, 1, 1, what), NONE);
        }
    }

    private static void comes(Sentences s) {
        s.of(12, "In which DAY AHEAD (1 .. 60) a LETTER from a TOWN comes to another one first;");
        s.due("the first of many", Check.of(THREE).comes(0, 1), 3);
        s.due("the other way", Check.of(THREE).comes(1, 0), 3);
        s.due("in the next one", Check.at(CART, 0, 0, 0, 0, 0, 0, 0, 0, 2, 0, 1, 2, 0, 1, 1).comes(0, 1), 1);
        String once = AB + "cart a to b days 1;holds a of b 1;writes day=";
        s.due("in the 60th", Check.of(once + "58;").comes(0, 1), 60);
        s.of(12, "NONE when none does, there are none such, or they are one.");
        s.due("in the 61st", Check.of(once + "59;").comes(0, 1), NONE);
        s.due("beyond day 999", Check.at(CART, 3, 230, 0, 0, 0, 0, 0, 0, 1, 0, 1, 2).comes(0, 1), NONE);
        s.due("on the last day", Check.at(CART, 3, 229, 0, 0, 0, 0, 0, 0, 1, 0, 1, 2).comes(0, 1), 2);
        ReplyStamps x = Check.of(THREE);
        s.due("none does", x.comes(0, 2), NONE);
        for (int town : Sentences.NO_TOWNS) {
            s.due("comes(" + town + ", 0)", x.comes(town, 0), NONE);
            s.due("comes(0, " + town + ")", x.comes(0, town), NONE);
        }
        ReplyStamps replies = Check.of(THREE + "cart b to c days 1;");
        s.due("b to c", replies.comes(1, 2), 3);
        for (int[] no : Sentences.NO_PAIRS) {
            s.due("comes" + Arrays.toString(no), replies.comes(no[0], no[1]), NONE);
        }
        s.due("one town", x.comes(1, 1), NONE);
        s.due("it is day 0 still", x.has(2), 0);
    }

    private static void silent(Sentences s) {
        s.of(13, "Behind how many DAYS AHEAD (0: now) no LETTER is under way, and no TOWN would WRITE;");
        String once = AB + "cart a to b days 1;holds a of b 1;";
        s.due("now", Check.of(CART).silent(), 0);
        s.due("no towns", new ReplyStamps().silent(), 0);
        s.due("one under way", Check.at(CART, 0, 0, 0, 0, 0, 0, 0, 0, 1, 0, 1, 2).silent(), NONE);
        s.due("one under way, without stamps", Check.at(CART + "encl 0;", 0, 0, 0, 0, 0, 0, 0, 0, 1, 0, 1, 2).silent(), 2);
        s.due("one that would write", Check.of(once + "encl 0;").silent(), 2);
        s.due("one that would write later is silent now", Check.of(once + "writes day>0;").silent(), 0);
        s.due("behind 60", Check.at(once + "encl 0;", 0, 0, 59, 0, 0, 0, 0, 0, 0).silent(), 60);
        s.of(13, "NONE when it is never so.");
        s.due("behind 61", Check.at(once + "encl 0;", 0, 0, 60, 0, 0, 0, 0, 0, 0).silent(), NONE);
        s.due("replies for ever", Check.of(once).silent(), NONE);
        s.due("on day 999", Check.at(once + "encl 0;", 3, 230, 1, 0, 0, 0, 0, 0, 0).silent(), NONE);
        s.due("just on day 999", Check.at(once + "encl 0;", 3, 229, 1, 0, 0, 0, 0, 0, 0).silent(), 2);
        s.due("now, on day 999", Check.at(once + "encl 0;", 3, 231, 0, 0, 0, 0, 0, 0, 0).silent(), 0);
    }

    private static void word(Sentences s) {
        s.of(14, "TOWNS to which WORD goes from a TOWN (it, too), as bits; NONE when there is none such.");
        ReplyStamps x = Check.of(THREE);
        s.due("word(0)", x.word(0), 3);
        s.due("itself alone", x.word(2), 4);
        for (int town : Sentences.NO_TOWNS) {
            s.due("word(" + town + ")", x.word(town), NONE);
        }
        s.due("a new object", new ReplyStamps().word(0), NONE);
    }

    private static void wide(Sentences s) {
        s.of(15, "WIDE: how many stamps (k NONE; 0: none are needed), the k-th: 6 times the TOWN and the other one.");
        s.due("none are needed", AheadSentences.held(CART, "ab ba").wide(NONE), 0);
        s.due("no towns", new ReplyStamps().wide(NONE), 0);
        s.due("one town", Check.of("town a;").wide(NONE), 0);
        s.due("one", AheadSentences.held(CART, "ab").wide(NONE), 1);
        s.due("b of a", AheadSentences.held(CART, "ab").wide(0), 6);
        s.due("a of b", AheadSentences.held(CART, "ba").wide(0), 1);
        s.of(15, "NONE when 3 are not enough, or there is none such.");
        s.due("no way", Check.of(AB).wide(NONE), NONE);
        for (int k : new int[] {-2, 1, 2, 3, MIN, MAX}) {
            s.due("wide(" + k + ")", AheadSentences.held(CART, "ab").wide(k), NONE);
        }
        s.due("the first of none", AheadSentences.held(CART, "ab ba").wide(0), NONE);
        String four = CART + "town c;town d;cart b to c days 1;cart c to d days 1;";
        s.due("4 would be enough", Check.of(four).wide(NONE), NONE);
        s.due("3 are enough", AheadSentences.held(four, "ab").wide(NONE), 3);
        s.due("the third of 3", AheadSentences.held(four, "ab").wide(2), 18);
        s.due("a fourth of 3", AheadSentences.held(four, "ab").wide(3), NONE);
    }

    private static void cut(Sentences s) {
        s.of(16, "CUT: how many pairs (k NONE; 0: no WORD goes anyway), the k-th: 6 times the TOWN and the other one.");
        ReplyStamps x = Check.of(THREE);
        s.due("one", x.cut(1, 0, NONE), 1);
        s.due("b of a", x.cut(1, 0, 0), 6);
        s.due("no word goes anyway", x.cut(0, 2, NONE), 0);
        s.of(16, "NONE when 3 are not enough, there are none such, they are one, or there is no k-th.");
        for (int town : Sentences.NO_TOWNS) {
            s.due("cut(" + town + ", 0, NONE)", x.cut(town, 0, NONE), NONE);
            s.due("cut(0, " + town + ", NONE)", x.cut(0, town, NONE), NONE);
        }
        for (int[] no : Sentences.NO_PAIRS) {
            s.due("cut" + Arrays.toString(no), x.cut(no[0], no[1], NONE), NONE);
        }
        s.due("one town", x.cut(1, 1, NONE), NONE);
        for (int k : new int[] {-2, 1, 2, 3, MIN, MAX}) {
            s.due("cut(1, 0, " + k + ")", x.cut(1, 0, k), NONE);
        }
        s.due("the first of none", x.cut(0, 2, 0), NONE);
        String five = CART + "town c;town d;town e;cart b to c days 1;cart c to d days 1;cart d to e days 1;";
        s.due("4 would be enough", AheadSentences.held(five, "ab ac ad ae cb db eb").cut(0, 1, NONE), NONE);
        s.due("3 are enough", AheadSentences.held(five, "ab ac ad cb db eb").cut(0, 1, NONE), 3);
        s.due("the third of 3", AheadSentences.held(five, "ab ac ad cb db eb").cut(0, 1, 2), 3);
        s.due("a fourth of 3", AheadSentences.held(five, "ab ac ad cb db eb").cut(0, 1, 3), NONE);
    }

    private static void ring(Sentences s) {
        s.of(17, "A RING with a TOWN: how many TOWNS (k NONE), the k-th (0: itself). NONE when there is none.");
        ReplyStamps x = Check.of(THREE);
        s.due("two", x.ring(1, NONE), 2);
        s.due("itself", x.ring(1, 0), 1);
        s.due("the other one", x.ring(1, 1), 0);
        for (int k : new int[] {-2, 2, 5, 6, MIN, MAX}) {
            s.due("ring(1, " + k + ")", x.ring(1, k), NONE);
        }
        s.due("none with c", x.ring(2, NONE), NONE);
        s.due("none with c, nor it in it", x.ring(2, 0), NONE);
        for (int town : Sentences.NO_TOWNS) {
            s.due("ring(" + town + ", NONE)", x.ring(town, NONE), NONE);
            s.due("ring(" + town + ", 0)", x.ring(town, 0), NONE);
        }
    }

    private static void swap(Sentences s) {
        s.of(18, "A SWAP: the first TOWN, the other one, whose stamp the first one gives, whose the other one (0 .. 3), by how"
            + " much it is more (4).");
        ReplyStamps x = Check.of("town z;" + AB + "town c;town d;worth 9-held;holds a of d 3;holds c of b 3;");
        int[] want = {1, 3, 4, 2, 8};
        for (int what = 0; what < 5; what++) {
            s.due("swap(" + what + ")", x.swap(what), want[what]);
        }
        s.of(18, "NONE without, or for others.");
        for (int what : new int[] {-1, 5, MIN, MAX}) {
            s.due("swap(" + what + ")", x.swap(what), NONE);
        }
        for (int what = 0; what < 5; what++) {
            s.due("without: swap(" + what + ")", Check.of(THREE).swap(what), NONE);
            s.due("a new object: swap(" + what + ")", new ReplyStamps().swap(what), NONE);
        }
    }

    private static int bagOf(ReplyStamps x, int... octets) {
        Check.put(x, Check.bytes(octets));
        return x.bag();
    }

    private static void bag(Sentences s) {
        s.of(19, "The tape (it goes) tells a BAG, 1 to 16 rows of two bytes (any number of stamps): how many rows;");
        ReplyStamps x = Check.of(THREE);
        s.due("1 row", bagOf(x, 2, 0), 1);
        s.due("has(8)", x.has(8), 1);
        s.due("nothing is left", x.end(1), false);
        s.due("16 rows", bagOf(x, new int[32]), 16);
        s.due("has(8)", x.has(8), 16);
        int[] last = new int[32];
        last[30] = 1;
        last[31] = 3;
        x.image();
        bagOf(x, last);
        s.due("the 16th row tells, too", x.whose(0), 1);
        for (int stamps : new int[] {0, 1, 99, 100, 128, 255}) {
            s.due(stamps + " stamps", bagOf(x, 0, stamps), 1);
        }
        s.due("any number: none holds 255", x.whose(0), 0);
    }

    private static void noBag(Sentences s) {
        s.of(19, "NONE, refused (5), when it is none such.");
        int[][] none = {{}, {0}, {0, 1, 0}, new int[31], new int[33], new int[34], {3, 0}, {0, 1, 3, 0}, {128, 0}, {255, 0}};
        for (int[] octets : none) {
            s.refused(5, CallSentences::busy, "bag() of " + Arrays.toString(octets), y -> bagOf(y, octets), NONE);
        }
        s.refused(5, ReplyStamps::new, "bag() without towns", y -> bagOf(y, 0, 0), NONE);
        ReplyStamps x = Check.of(THREE);
        bagOf(x, 3, 0);
        s.due("the tape goes", x.feed(0, 0, 0, 0, 0), 20);
    }

    private static void whose(Sentences s) {
        s.of(20, "By a BAG (of the latest bag() of this UNION that was not refused; all, if there was none): TOWNS, as bits"
            + " (what 0),");
        ReplyStamps x = Check.of(THREE);
        s.due("there was none", x.whose(0), 7);
        bagOf(x, 0, 1);
        s.due("of the first", x.whose(0), 2);
        bagOf(x, 0, 0);
        s.due("of the latest", x.whose(0), 5);
        bagOf(x, 0, 1, 3, 1);
        s.due("a refused one is none", x.whose(0), 5);
        x.find(2, 0);
        bagOf(x, 0, 1);
        x.undo();
        s.due("what is held now, the latest bag", x.whose(0), 2);
        Check.union(x, "$");
        s.due("of this union still", x.whose(0), 2);
        Check.union(x, THREE);
        s.due("of another union", x.whose(0), 7);
        s.due("no towns", new ReplyStamps().whose(0), 0);
    }

    private static void whoseTelling(Sentences s) {
        s.of(20, "TELLING (1; NONE without),");
        s.due("of three", Check.of(THREE).whose(1), 0);
        s.due("no towns", new ReplyStamps().whose(1), NONE);
        ReplyStamps x = Check.of(THREE);
        bagOf(x, 0, 200);
        s.due("none is left", x.whose(1), NONE);
        s.of(20, "how many are left by it at the most (2; NONE without).");
        s.due("none is left", x.whose(2), NONE);
        s.due("of three", Check.of(THREE).whose(2), 2);
        s.due("no towns", new ReplyStamps().whose(2), NONE);
        bagOf(x, 0, 1);
        s.due("b alone", x.whose(2), 1);
        bagOf(x, 1, 3);
        s.due("a alone", x.whose(2), 1);
        s.of(20, "NONE for others.");
        for (int what : new int[] {-1, 3, MIN, MAX}) {
            s.due("whose(" + what + ")", x.whose(what), NONE);
        }
    }
}
