/** Terms II: a day, letters, chance, acts. */
final class DaySentences {
    private static final int NONE = Check.NONE;
    private static final String AB = "town a;town b;";
    private static final String CART = AB + "cart a to b days 1;";
    private static final String SIX = AB + "town c;town d;town e;town f;";
    /** On day 0 alone a writes to b; the letter comes on day 1. */
    private static final String ONE = CART + "holds a of b 1;writes day<1;";
    /** One letter is under way on each day, and comes on the next one. */
    private static final String REPLIES = CART + "holds a of b 1;";

    private DaySentences() {
    }

    static void all(Sentences s) {
        ways(s);
        atFirst(s);
        comes(s);
        brings(s);
        townByTown(s);
        can(s);
        likes(s);
        sixty(s);
        sixtyAtOnce(s);
        sixtyLost(s);
        tenOfSixty(s);
        written(s);
        lastDay(s);
        lost(s);
        kept(s);
        daysAreActs(s);
        stampsAreActs(s);
        twenty(s);
        draws(s);
    }

    private static void ways(Sentences s) {
        s.of(8, "The way from a TOWN to another one is as many DAYS as by the quickest CARTS.");
        ReplyStamps x = Check.of(SIX + "cart a to c days 9;cart b to a days 2;cart b to c days 6;cart c to d days 1;"
            + "cart a to d days 9;cart e to f days 3;");
        s.due("two carts", x.pair(0, 2, 3), 8);
        s.due("two carts back", x.pair(2, 0, 3), 8);
        s.due("as quick by one or three", x.pair(0, 3, 3), 9);
        s.due("by one", x.pair(1, 0, 3), 2);
        s.due("no way", x.pair(0, 4, 3), NONE);
        x = Check.of(SIX + "cart f to a days 9;cart a to e days 9;cart e to b days 9;cart b to d days 9;cart d to c days 9;");
        s.due("the longest way of all", x.pair(5, 2, 3), 45);
        s.due("and back", x.pair(2, 5, 3), 45);
    }

    private static void atFirst(Sentences s) {
        s.of(4, "It is DAY 0 at first, no LETTER is under way.");
        ReplyStamps x = Check.of(REPLIES);
        s.due("has(2)", x.has(2), 0);
        s.due("has(4)", x.has(4), 0);
        s.due("a new object: has(2)", new ReplyStamps().has(2), 0);
        s.due("a new object: has(4)", new ReplyStamps().has(4), 0);
    }

    private static void comes(Sentences s) {
        s.of(21, "A DAY: FIRST each LETTER under way has a DAY less;");
        String nine = AB + "cart a to b days 9;writes not all;";
        ReplyStamps x = Check.at(nine, 0, 0, 0, 0, 0, 0, 0, 0, 2, 0, 1, 9, 1, 0, 2);
        s.due("days(1)", x.days(1), 0);
        s.due("9 less one", x.mail(0, 2), 8);
        s.due("2 less one", x.mail(1, 2), 1);
        s.of(21, "those with none left come, in the order in which they were written:");
        x = Check.at(nine, 0, 0, 0, 0, 0, 0, 0, 0, 5, 1, 0, 2, 0, 1, 1, 1, 0, 1, 1, 0, 3, 0, 1, 4);
        s.due("two come", x.days(1), 2);
        s.due("the first of them", x.kept(0, 1), 0);
        s.due("the second of them", x.kept(1, 1), 1);
        int[] staying = {1, 1, 0};
        s.due("those that stay", x.has(4), staying.length);
        for (int k = 0; k < staying.length; k++) {
            s.due("one that stays is from", x.mail(k, 0), staying[k]);
            s.due("its days", x.mail(k, 2), k + 1);
        }
        s.due("one comes on the next day", x.days(1), 1);
    }

    /** How many stamps of b, or letters from it, a has with so many, when a letter with three stamps came. */
    private static int brought(int held, int got, int what) {
        ReplyStamps x = Check.at(CART + "encl 3;writes not all;", 0, 0, held, 0, got, 0, 0, 0, 1, 1, 0, 1);
        x.days(1);
        return x.pair(0, 1, what);
    }

    private static void brings(Sentences s) {
        s.of(21, "the TOWN to which it is holds as many stamps more as are enclosed (encl), of the TOWN from which it is"
            + " (99 at most),");
        int[] held = {0, 95, 96, 97, 98, 99};
        int[] then = {3, 98, 99, 99, 99, 99};
        for (int i = 0; i < held.length; i++) {
            s.due(held[i] + " and 3", brought(held[i], 0, 0), then[i]);
        }
        s.of(21, "and has got one more from it (99 at most).");
        s.due("0 and 1", brought(0, 0, 2), 1);
        s.due("97 and 1", brought(0, 97, 2), 98);
        s.due("98 and 1", brought(0, 98, 2), 99);
        s.due("99 and 1", brought(0, 99, 2), 99);
    }

    private static void townByTown(Sentences s) {
        s.of(21, "THEN TOWN by TOWN, by numbers, by what is so then:");
        StringBuilder text = new StringBuilder(SIX);
        for (char c = 'b'; c <= 'f'; c++) {
            text.append("cart a to ").append(c).append(" days 1;holds ").append(c).append(" of a 1;");
        }
        ReplyStamps x = Check.of(text + "holds a of f 1;");
        x.days(1);
        for (int town = 0; town < 6; town++) {
            s.due("letter " + town + " is from", x.mail(town, 0), town);
        }
        x = Check.of(REPLIES + "writes day<1 or got>0;");
        x.days(2);
        s.due("b replies on the day on which it came", x.mail(0, 0), 1);
    }

    private static void can(Sentences s) {
        s.of(10, "it WRITES one LETTER, to the TOWN to which it CAN (there is a way, it holds a stamp of it,"
            + " the TEST of writes holds, without it always)");
        s.due("it can", Check.of(REPLIES).writes(0), 1);
        s.due("no way", Check.of(AB + "holds a of b 1;").writes(0), NONE);
        s.due("no stamp of it", Check.of(CART + "holds b of a 1;").writes(0), NONE);
        s.due("the test holds", Check.of(REPLIES + "writes held=1;").writes(0), 1);
        s.due("the test does not", Check.of(REPLIES + "writes held>1;").writes(0), NONE);
        ReplyStamps x = Check.of(AB + "town c;cart a to b days 1;cart a to c days 1;holds a of b 9;holds a of c 9;");
        x.days(1);
        s.due("one letter alone", x.has(4), 1);
    }

    private static void likes(Sentences s) {
        s.of(10, "of which the SUM of likes is greatest (0 without), of like ones the first;");
        String three = AB + "town c;town d;cart a to b days 1;cart a to c days 2;cart a to d days 3;"
            + "holds a of b 1;holds a of c 2;holds a of d 1;";
        s.due("without likes the first", Check.of(three).writes(0), 1);
        s.due("the greatest", Check.of(three + "likes held;").writes(0), 2);
        s.due("the last one is greatest", Check.of(three + "likes far;").writes(0), 3);
        s.due("the greatest of those below 0", Check.of(three + "likes 0-far-5;").writes(0), 1);
        s.due("of two like ones the first", Check.of(three + "likes 0-held;").writes(0), 1);
        s.due("of two like ones the first, ahead of them a lesser one", Check.of(three + "likes min(far,2);").writes(0), 2);
        s.due("all as little as can be", Check.of(three + "likes 0-9999*9999;").writes(0), 1);
    }

    /** Of two towns, which hold five stamps each, with so many letters under way, none of which comes. */
    private static ReplyStamps underWay(int letters, int firstLeft) {
        int[] octets = new int[9 + 3 * letters];
        octets[2] = 5;
        octets[5] = 5;
        octets[8] = letters;
        for (int i = 0; i < letters; i++) {
            octets[10 + 3 * i] = 1;
            octets[11 + 3 * i] = i == 0 ? firstLeft : 9;
        }
        return Check.at(AB + "cart a to b days 9;encl 0;", octets);
    }

    private static void sixty(Sentences s) {
        s.of(21, "to none, if it CAN to none, or 60 LETTERS are under way.");
        s.due("it can to none", Check.of(CART).writes(0), NONE);
        int[] ahead = {57, 58, 59, 60};
        int[] behind = {59, 60, 60, 60};
        for (int i = 0; i < ahead.length; i++) {
            ReplyStamps x = underWay(ahead[i], 9);
            s.due(ahead[i] + ": writes(0)", x.writes(0), ahead[i] < 60 ? 1 : NONE);
            s.due(ahead[i] + ": writes(1)", x.writes(1), ahead[i] < 60 ? 0 : NONE);
            x.days(1);
            s.due(ahead[i] + ": under way", x.has(4), behind[i]);
            s.due(ahead[i] + ": a wrote", x.pair(0, 1, 1), ahead[i] < 60 ? 1 : 0);
            s.due(ahead[i] + ": b wrote", x.pair(1, 0, 1), ahead[i] < 59 ? 1 : 0);
            s.due(ahead[i] + ": stamps", x.has(3), 10 - (behind[i] - ahead[i]));
        }
        ReplyStamps x = underWay(60, 1);
        s.due("one of 60 comes", x.days(1), 1);
        s.due("so a writes", x.pair(0, 1, 1), 1);
        s.due("and b does not", x.pair(1, 0, 1), 0);
    }

    /** On day 500 a and b hold five stamps of each other; of 60 letters, from a and b in turn, so many come now. */
    private static ReplyStamps comingNow(int now, String more) {
        int[] octets = new int[9 + 3 * 60];
        octets[0] = 1;
        octets[1] = 244;
        octets[2] = 5;
        octets[5] = 5;
        octets[8] = 60;
        for (int i = 0; i < 60; i++) {
            octets[9 + 3 * i] = i % 2;
            octets[10 + 3 * i] = 1 - i % 2;
            octets[11 + 3 * i] = i < now ? 1 : 9;
        }
        return Check.at(AB + "cart a to b days 9;" + more, octets);
    }

    private static void acts(Sentences s, ReplyStamps x, int held) {
        s.due("held", x.pair(0, 1, 0), held);
        s.due("find", x.find(0, 1), true);
        s.due("give", x.give(0, 1, 1), true);
        s.due("burn", x.burn(0, 1), held);
        s.due("none held", x.pair(0, 1, 0), 0);
    }

    private static void sixtyAtOnce(Sentences s) {
        s.of(21, "those with none left come, in the order in which they were written:");
        ReplyStamps x = comingNow(60, "");
        s.due("60 at once", x.days(1), 60);
        s.due("day 501", x.has(2), 501);
        s.due("got by all", x.has(6), 60);
        s.due("got by a", x.pair(0, 1, 2), 30);
        s.due("held by b", x.pair(1, 0, 0), 5 + 30 - 1);
        s.due("both write", x.has(4), 2);
        s.due("the second is from", x.mail(1, 0), 1);
        for (int k = 0; k < 50; k++) {
            s.due("kept at " + k + ": day", x.kept(k, 0), 500);
            s.due("kept at " + k + ": from", x.kept(k, 1), k % 2);
            s.due("kept at " + k + ": lost", x.kept(k, 3), 0);
        }
        s.due("later", x.later(0, 1, 9, 2), 31);
        acts(s, x, 34);
    }

    private static void sixtyLost(Sentences s) {
        s.of(22, "BY THE SEED a LETTER that comes is LOST by a DRAW of 100 below lost (for each one that comes):");
        ReplyStamps x = comingNow(60, "lost 100;");
        s.due("60 lost at once", x.chance(1), 60);
        s.due("none got", x.has(6), 0);
        s.due("both write", x.has(4), 2);
        s.due("the first kept is lost", x.kept(0, 3), 1);
        s.due("the last kept is lost", x.kept(49, 3), 1);
        s.due("the last kept is from", x.kept(49, 1), 1);
        acts(s, x, 4);
        for (int lost = 10; lost < 100; lost += 10) {
            x = comingNow(60, "lost " + lost + ";");
            int many = x.chance(1);
            int drawn = 0;
            int seed = 1;
            for (int i = 0; i < 60; i++) {
                drawn += Draw.of(seed) < lost ? 1 : 0;
                seed = Draw.nextSeed(seed);
            }
            s.due("lost " + lost, many, drawn);
            s.due("got with lost " + lost, x.has(6), 60 - drawn);
            s.due("held with lost " + lost, x.has(3), 10 + 60 - drawn - 2);
        }
    }

    private static void tenOfSixty(Sentences s) {
        s.of(21, "A DAY: FIRST each LETTER under way has a DAY less; those with none left come,");
        ReplyStamps x = comingNow(10, "writes not all;");
        s.due("ten come", x.days(1), 10);
        s.due("50 are left", x.has(4), 50);
        s.due("the last of them", x.mail(49, 2), 8);
        s.due("the first kept", x.kept(0, 0), 500);
        s.due("the tenth kept", x.kept(9, 1), 1);
        acts(s, x, 10);
    }

    private static void written(Sentences s) {
        s.of(21, "It holds a stamp of it less, has sent one more to it (99 at most);");
        int[] sent = {0, 97, 98, 99};
        for (int n : sent) {
            ReplyStamps x = Check.at(CART, 0, 0, 99, n, 0, 0, 0, 0, 0);
            x.days(1);
            s.due("99 held less one", x.pair(0, 1, 0), 98);
            s.due(n + " sent and one", x.pair(0, 1, 1), Math.min(99, n + 1));
        }
        ReplyStamps x = Check.of(REPLIES);
        x.days(1);
        s.due("the last one held", x.pair(0, 1, 0), 0);
        s.of(21, "the LETTER is under way for the DAYS of the way.");
        s.due("1 day", x.mail(0, 2), 1);
        s.due("it comes in the next one", x.days(1), 1);
        x = Check.of(SIX + "cart a to b days 9;cart b to c days 9;cart c to d days 9;cart d to e days 9;cart e to f days 9;"
            + "holds a of f 1;encl 0;");
        x.days(1);
        s.due("45 days", x.mail(0, 2), 45);
        s.due("44 days on", x.days(44), 0);
        s.due("one more", x.days(1), 1);
    }

    private static void lastDay(Sentences s) {
        s.of(21, "The DAY is one more (999 at most).");
        ReplyStamps x = Check.at(AB, 3, 229, 0, 0, 0, 0, 0, 0, 0);
        s.due("day 997", x.has(2), 997);
        x.days(1);
        s.due("day 998", x.has(2), 998);
        x.chance(1);
        s.due("day 999", x.has(2), 999);
        s.due("no day more", x.days(1), NONE);
        s.due("no day more by the seed", x.chance(1), NONE);
        s.due("day 999 still", x.has(2), 999);
    }

    /** With this seed, and a letter that comes on the next day. */
    private static ReplyStamps oneBySeed(int seed, int lost) {
        ReplyStamps x = Check.of(ONE + "lost " + lost + ";");
        x.days(1);
        x.seed(seed);
        return x;
    }

    private static void lost(Sentences s) {
        s.of(22, "BY THE SEED a LETTER that comes is LOST by a DRAW of 100 below lost (for each one that comes):");
        for (int draw : new int[] {0, 1, 50, 98, 99}) {
            int seed = Draw.seedFor(draw);
            s.due(draw + " below " + (draw + 1), oneBySeed(seed, draw + 1).chance(1), 1);
            s.due(draw + " not below itself", oneBySeed(seed, draw).chance(1), 0);
            s.due(draw + " not below 0", oneBySeed(seed, 0).chance(1), 0);
            s.due(draw + " below 100", oneBySeed(seed, 100).chance(1), 1);
        }
        ReplyStamps x = Check.at(CART + "lost 50;writes not all;", 0, 0, 0, 0, 0, 0, 0, 0, 3, 0, 1, 1, 0, 1, 1, 1, 0, 1);
        x.seed(5);
        int seed = 5;
        int lost = 0;
        for (int i = 0; i < 3; i++) {
            lost += Draw.of(seed) < 50 ? 1 : 0;
            seed = Draw.nextSeed(seed);
        }
        s.due("three draws", x.chance(1), lost);
        s.due("the seed behind them", x.has(10), seed);
        s.due("none comes", x.chance(9), 0);
        s.due("no draw", x.has(10), seed);
        for (int below : new int[] {0, 100}) {
            x = oneBySeed(5, below);
            x.chance(1);
            s.due("drawn with lost " + below + ", too", x.has(10), Draw.nextSeed(5));
        }
        s.of(22, "it brings nothing.");
        x = oneBySeed(1, 100);
        s.due("lost", x.chance(1), 1);
        s.due("no stamp", x.pair(1, 0, 0), 0);
        s.due("not got", x.pair(1, 0, 2), 0);
        s.due("not under way", x.has(4), 0);
    }

    private static void kept(Sentences s) {
        s.of(28, "KEPT is each LETTER that came or was LOST: DAY (ahead of its end), from, to, 1 LOST, 0 not");
        ReplyStamps x = oneBySeed(1, 100);
        x.chance(1);
        int[] lost = {1, 0, 1, 1};
        for (int what = 0; what < 4; what++) {
            s.due("lost: kept(0, " + what + ")", x.kept(0, what), lost[what]);
        }
        x = Check.at(CART + "writes not all;", 3, 230, 0, 0, 0, 0, 0, 0, 1, 1, 0, 1);
        x.days(1);
        int[] came = {998, 1, 0, 0};
        for (int what = 0; what < 4; what++) {
            s.due("came: kept(0, " + what + ")", x.kept(0, what), came[what]);
        }
        s.of(28, "(the last 50 are told).");
        for (int days = 50; days <= 53; days++) {
            x = Check.of(REPLIES);
            x.days(days);
            int told = Math.min(50, days - 1);
            s.due("told of " + (days - 1), x.has(7), told);
            for (int k = 0; k < told; k++) {
                s.due("of " + (days - 1) + " the one told at " + k, x.kept(k, 0), days - told + k);
            }
            s.due("none behind", x.kept(told, 0), NONE);
        }
    }

    private static void daysAreActs(Sentences s) {
        s.of(26, "ACTS: DAYS go by, by the seed;");
        ReplyStamps x = Check.of(REPLIES);
        x.days(100);
        s.due("days", x.has(9), 1);
        x.chance(100);
        s.due("chance", x.has(9), 2);
        s.due("undo the second", x.undo(), true);
        s.due("day 100", x.has(2), 100);
        s.due("undo the first", x.undo(), true);
        s.due("day 0", x.has(2), 0);
        x.seed(7);
        x.image();
        Check.put(x, Check.bytes(0, 0));
        x.bag();
        x.later(0, 1, 60, 0);
        s.due("nothing else is one", x.has(9), 0);
    }

    private static void stampsAreActs(Sentences s) {
        s.of(23, "a TOWN gives a stamp of another TOWN to a third one, or to that TOWN itself (there it is gone: nobody holds"
            + " its own);");
        ReplyStamps x = Check.of(AB + "town c;holds a of b 3;");
        x.give(0, 1, 2);
        s.due("a has one less", x.pair(0, 1, 0), 2);
        s.due("c has one more", x.pair(2, 1, 0), 1);
        s.due("an act", x.has(9), 1);
        x.give(0, 1, 1);
        s.due("a has one less", x.pair(0, 1, 0), 1);
        s.due("it is gone", x.has(3), 2);
        s.due("an act", x.has(9), 2);
        s.of(24, "one finds a stamp of another TOWN (it holds one more);");
        x.find(2, 1);
        s.due("c has one more", x.pair(2, 1, 0), 2);
        s.due("an act", x.has(9), 3);
        s.of(25, "a TOWN burns all stamps of another TOWN that it holds.");
        x.find(2, 0);
        s.due("burn", x.burn(2, 1), 2);
        s.due("c has none of b", x.pair(2, 1, 0), 0);
        s.due("c has that of a", x.pair(2, 0, 0), 1);
        s.due("a has that of b", x.pair(0, 1, 0), 1);
        s.due("an act", x.has(9), 5);
    }

    private static void twenty(Sentences s) {
        s.of(26, "The last 20 can be undone.");
        for (int acts = 19; acts <= 22; acts++) {
            ReplyStamps x = Check.of(AB);
            for (int n = 0; n < acts; n++) {
                x.find(0, 1);
            }
            int most = Math.min(20, acts);
            s.due(acts + " acts: has(9)", x.has(9), most);
            for (int n = 1; n <= most; n++) {
                s.due(acts + " acts: undo " + n, x.undo(), true);
                s.due(acts + " acts: held behind undo " + n, x.pair(0, 1, 0), acts - n);
            }
            s.due(acts + " acts: no more", x.undo(), false);
            s.due(acts + " acts: held", x.pair(0, 1, 0), acts - most);
        }
    }

    private static void draws(Sentences s) {
        s.of(22, "A DRAW of m: x (the seed) becomes (1103515245 x + 12345) mod 2 to the 31; floor(x / 64) mod m.");
        int[] seeds = {0, 1, 2, 63, 64, 12345, 1 << 30, Integer.MAX_VALUE - 1, Integer.MAX_VALUE};
        for (int seed : seeds) {
            int draw = Draw.of(seed);
            ReplyStamps x = oneBySeed(seed, draw);
            s.due("by " + seed + " not below", x.chance(1), 0);
            s.due("by " + seed + " becomes", x.has(10), Draw.nextSeed(seed));
            s.due("by " + seed + " below", oneBySeed(seed, draw + 1).chance(1), 1);
        }
        // by hand: 0 becomes 12345, which is 192 times 64 and more
        s.due("of 0", Draw.of(0), 92);
        ReplyStamps x = oneBySeed(0, 93);
        s.due("92 below 93", x.chance(1), 1);
        s.due("12345", x.has(10), 12345);
    }
}
