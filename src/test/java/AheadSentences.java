import java.util.Arrays;
import java.util.function.IntUnaryOperator;

/** Terms III: days ahead, word, swaps, bags, images. */
final class AheadSentences {
    private static final int NONE = Check.NONE;
    private static final String AB = "town a;town b;";
    private static final String SIX = AB + "town c;town d;town e;town f;";
    private static final String ALL_WAYS = SIX + "cart a to b days 1;cart b to c days 1;cart c to d days 1;"
        + "cart d to e days 1;cart e to f days 1;";

    private AheadSentences() {
    }

    static void all(Sentences s) {
        ahead(s);
        word(s);
        wide(s);
        wideRows(s);
        cut(s);
        ring(s);
        swap(s);
        swapMost(s);
        swapRows(s);
        bags(s);
        telling(s);
        images(s);
    }

    private static void ahead(Sentences s) {
        s.of(11, "AHEAD are DAYS as they come from now on without DRAWS");
        String replies = AB + "cart a to b days 1;holds a of b 1;lost 100;";
        ReplyStamps x = Check.of(replies);
        s.due("no letter is lost", x.later(1, 0, 2, 2), 1);
        s.due("comes", x.comes(0, 1), 2);
        s.due("the seed", x.has(10), 1);
        s.due("from now on", Check.at(replies, 0, 9, 1, 7, 0, 0, 0, 0, 0).later(0, 1, 1, 1), 8);
        s.of(11, "(60 at most, not beyond DAY 999).");
        s.due("60", x.later(0, 1, 60, 1), 30);
        s.due("61", x.later(0, 1, 61, 1), NONE);
        for (int day = 938; day <= 999; day++) {
            int most = Math.min(60, 999 - day);
            x = Check.at(replies, day / 256, day % 256, 1, 0, 0, 0, 0, 0, 0);
            s.due(most + " from day " + day, x.later(0, 1, most, 1), (most + 1) / 2);
            s.due(most + 1 + " from day " + day, x.later(0, 1, most + 1, 1), NONE);
        }
    }

    /** One stamp for each two letters: of the second one, held by the first one. */
    static ReplyStamps held(String start, String pairs) {
        StringBuilder text = new StringBuilder(start);
        for (String pair : pairs.split(" ")) {
            text.append("holds ").append(pair.charAt(0)).append(" of ").append(pair.charAt(1)).append(" 1;");
        }
        return Check.of(text.toString());
    }

    private static void word(Sentences s) {
        s.of(14, "WORD goes from a TOWN to another one, if it holds a stamp of it and there is a way, and on from there"
            + " likewise.");
        s.due("a stamp and a way", held(ALL_WAYS, "ab").word(0), 3);
        s.due("not back", held(ALL_WAYS, "ab").word(1), 2);
        s.due("a stamp, no way", held(SIX, "ab").word(0), 1);
        s.due("a way, no stamp", Check.of(ALL_WAYS).word(0), 1);
        s.due("five on, from the last to the first", held(ALL_WAYS, "fe ed dc cb ba").word(5), 63);
        s.due("five on, from the first to the last", held(ALL_WAYS, "ab bc cd de ef").word(0), 63);
        s.due("four on", held(ALL_WAYS, "ab bc ce ed").word(0), 31);
        s.due("a way ends on the way", held(SIX + "cart a to b days 1;cart c to d days 1;", "ab bc cd").word(0), 3);
    }

    /** How many, then each of the row; none behind it, and none ahead of NONE. */
    private static void row(Sentences s, String name, IntUnaryOperator asked, int... want) {
        s.due(name + ": how many", asked.applyAsInt(NONE), want.length);
        for (int k = 0; k < want.length; k++) {
            s.due(name + ": " + k, asked.applyAsInt(k), want[k]);
        }
        s.due(name + ": none behind", asked.applyAsInt(want.length), NONE);
        s.due(name + ": none ahead", asked.applyAsInt(-2), NONE);
    }

    private static void wide(Sentences s) {
        s.of(15, "WIDE are the fewest stamps (pairs of a TOWN and another one with a way, of which it holds none, 3 at most)"
            + " that, given, let WORD go from each TOWN to each other one;");
        row(s, "none", held(ALL_WAYS, "ab bc cd de ef fa")::wide);
        row(s, "one", held(ALL_WAYS, "ab bc cd de ef")::wide, 30);
        row(s, "two", held(ALL_WAYS, "ab bc de ef")::wide, 15, 30);
        row(s, "three", held(ALL_WAYS, "ab cd ef")::wide, 8, 22, 30);
        s.due("four", held(ALL_WAYS, "ab cd").wide(NONE), NONE);
        s.due("four: no first", held(ALL_WAYS, "ab cd").wide(0), NONE);
        s.due("no way", held(AB, "ab ba").wide(NONE), NONE);
        s.due("a way to some alone", held(AB + "town c;cart a to b days 1;", "ab ba").wide(NONE), NONE);
        ReplyStamps x = Check.of(AB + "cart a to b days 1;holds a of b 20;");
        row(s, "not of which it holds some", x::wide, 6);
    }

    private static void wideRows(Sentences s) {
        s.of(15, "of like ones the first row (pairs by numbers of the first, then of the second).");
        String three = AB + "town c;cart a to b days 1;cart b to c days 1;";
        row(s, "of three towns without stamps", Check.of(three)::wide, 1, 8, 12);
        row(s, "not by way of b", held(three, "ac")::wide, 6, 13);
        row(s, "a to b ahead of c to b", held(three, "ac ca ba bc")::wide, 1);
        row(s, "of two towns", Check.of(AB + "cart a to b days 1;")::wide, 1, 6);
    }

    private static void cut(Sentences s) {
        s.of(16, "CUT are the fewest pairs of a TOWN and another one, stamps of which it holds, with a way (3 at most),"
            + " without which no WORD goes from one told to another one;");
        row(s, "none", k -> held(ALL_WAYS, "ba").cut(0, 1, k));
        row(s, "one", k -> held(ALL_WAYS, "ab").cut(0, 1, k), 1);
        row(s, "two", k -> held(ALL_WAYS, "ab ac cb").cut(0, 1, k), 1, 2);
        row(s, "three", k -> held(ALL_WAYS, "ab ac cb ad db").cut(0, 1, k), 1, 2, 3);
        ReplyStamps four = held(ALL_WAYS, "ab ac cb ad db ae eb");
        s.due("four", four.cut(0, 1, NONE), NONE);
        s.due("four: no first", four.cut(0, 1, 0), NONE);
        row(s, "not what has no way", k -> held(SIX + "cart a to b days 1;", "ab ac cb").cut(0, 1, k), 1);
        row(s, "a pair with all its stamps", k -> Check.of(AB + "cart a to b days 1;holds a of b 20;").cut(0, 1, k), 1);
        s.of(16, "of like ones the first row.");
        row(s, "the first of a chain", k -> held(ALL_WAYS, "ab bc cd").cut(0, 3, k), 1);
        row(s, "by numbers, not from it on", k -> held(ALL_WAYS, "cb ba ad").cut(2, 3, k), 3);
        row(s, "two chains", k -> held(ALL_WAYS, "ab bf ae ef").cut(0, 5, k), 1, 4);
        row(s, "two chains from d", k -> held(ALL_WAYS, "db bf da af").cut(3, 5, k), 5, 11);
    }

    private static void ring(Sentences s) {
        s.of(17, "A RING are TOWNS of which each, asked in turn, holds a stamp of the next one, the last one of the first,"
            + " all with ways:");
        row(s, "of three", k -> held(ALL_WAYS, "ac cb ba").ring(0, k), 0, 2, 1);
        row(s, "not by one that holds a stamp of it alone", k -> held(ALL_WAYS, "ac ca ba").ring(0, k), 0, 2);
        s.due("the last one holds none", held(ALL_WAYS, "ac cb ab").ring(0, NONE), NONE);
        s.due("no ways", held(SIX, "ac cb ba").ring(0, NONE), NONE);
        s.of(17, "the shortest one (2 at least) in which a told one is;");
        row(s, "of two", k -> held(ALL_WAYS, "ab bc ca ba").ring(0, k), 0, 1);
        row(s, "of six", k -> held(ALL_WAYS, "ab bc cd de ef fa").ring(0, k), 0, 1, 2, 3, 4, 5);
        row(s, "of three, as c is in no other", k -> held(ALL_WAYS, "ab bc ca ba").ring(2, k), 2, 0, 1);
        s.due("one that leads to a ring is in none", held(ALL_WAYS, "ab bc cb").ring(0, NONE), NONE);
        s.due("none of one town", held(ALL_WAYS, "ab").ring(0, NONE), NONE);
        s.of(17, "of like ones the first row from it on.");
        row(s, "two of two", k -> held(ALL_WAYS, "ac ca ab ba").ring(0, k), 0, 1);
        row(s, "two of three", k -> held(ALL_WAYS, "ac cd ab bd da").ring(0, k), 0, 1, 3);
        row(s, "from d on", k -> held(ALL_WAYS, "ac cd ab bd da").ring(3, k), 3, 0, 1);
        row(s, "the third one tells", k -> held(ALL_WAYS, "ab bf be fa ea").ring(0, k), 0, 1, 4);
        row(s, "the second one is not the least of all", k -> held(ALL_WAYS, "da ae ed dc ca cd").ring(3, k), 3, 2);
    }

    private static void swapIs(Sentences s, String name, ReplyStamps x, int... want) {
        for (int what = 0; what < 5; what++) {
            s.due(name + ": swap(" + what + ")", x.swap(what), want.length == 0 ? NONE : want[what]);
        }
    }

    /** Four towns; a holds so many of c and of d, b likewise. */
    private static ReplyStamps swapping(String worth, int ac, int ad, int bc, int bd) {
        int[] octets = new int[39];
        octets[2 + 3] = ac;
        octets[2 + 6] = ad;
        octets[2 + 12] = bc;
        octets[2 + 15] = bd;
        return Check.at(AB + "town c;town d;" + worth, octets);
    }

    private static void swap(Sentences s) {
        s.of(18, "A SWAP is of two TOWNS that give each other one stamp of a third TOWN each");
        // the fewer of a kind a town holds, the more each is worth
        String rare = "worth 100-held;";
        swapIs(s, "c for d", swapping(rare, 2, 0, 0, 2), 0, 1, 2, 3, 4);
        swapIs(s, "d for c", swapping(rare, 0, 2, 2, 0), 0, 1, 3, 2, 4);
        String third = AB + "town c;town d;" + rare;
        swapIs(s, "the other one gives a's", Check.of(third + "holds c of b 2;holds d of a 2;"), 2, 3, 1, 0, 4);
        swapIs(s, "the first one gives a's", Check.of(third + "holds c of a 2;holds d of b 2;"), 2, 3, 0, 1, 4);
        swapIs(s, "b has none to give", swapping(rare, 2, 0, 0, 0));
        swapIs(s, "of six towns b alone has some", Check.of(SIX + rare + "holds b of a 9;holds b of d 9;"));
        swapIs(s, "of six towns e and f", Check.of(SIX + rare + "holds e of a 2;holds f of d 2;"), 4, 5, 0, 3, 4);
        swapIs(s, "a has none to give", swapping(rare, 0, 0, 0, 2));
        swapIs(s, "the last ones", swapping("worth if(held>1,9,1);", 1, 1, 1, 1), 0, 1, 2, 3, 2 * (18 - 1 - 1));
        ReplyStamps own = Check.of(AB + "town c;" + rare + "holds a of b 9;holds b of a 9;holds a of c 9;holds b of c 9;");
        swapIs(s, "stamps of the two themselves are none", own);
        s.of(18, "(unlike ones;");
        swapIs(s, "c for c", swapping("worth if(held=6,9,1);", 5, 0, 5, 0));
        s.of(18, "neither holds 99 of what it gets):");
        String many = "worth held;";
        swapIs(s, "a holds 98", swapping(many, 1, 98, 0, 1), 0, 1, 2, 3, 196);
        swapIs(s, "a holds 99", swapping(many, 1, 99, 0, 1));
        swapIs(s, "b holds 98", swapping(many, 1, 0, 98, 1), 0, 1, 2, 3, 196);
        swapIs(s, "b holds 99", swapping(many, 1, 0, 99, 1));
        swapIs(s, "99 of what they give", swapping(rare, 99, 0, 0, 99), 0, 1, 2, 3, 4 * 98);
    }

    private static void swapMost(Sentences s) {
        s.of(18, "by which what both together are worth is most more than before");
        ReplyStamps x = swapping("worth 100-held;", 9, 0, 0, 3);
        swapIs(s, "9 and 3", x, 0, 1, 2, 3, 2 * 8 + 2 * 2);
        swapIs(s, "b loses less than a gains", swapping("worth 100-held;", 9, 0, 0, 1), 0, 1, 2, 3, 16);
        x = Check.of(SIX + "worth 100-held;holds a of c 3;holds b of d 3;holds e of c 9;holds f of d 9;");
        swapIs(s, "not the first, but the most", x, 4, 5, 2, 3, 32);
        s.of(18, "(a TOWN's worth is the SUM of worth of each other TOWN, 1 without, times stamps of it that it holds);");
        swapIs(s, "1 without", swapping("", 9, 0, 0, 9));
        swapIs(s, "worth times stamps", swapping("worth if(held=3,7,0);", 4, 0, 0, 4), 0, 1, 2, 3, 2 * 3 * 7);
        swapIs(s, "what is lost, too", swapping("worth if(held=1,50,if(held=4,3,0));", 4, 0, 0, 4), 0, 1, 2, 3, 2 * (50 - 12));
        swapIs(s, "the product has no bound", swapping("worth if(held=99,9999*9999,0-9999*9999);", 1, 98, 98, 1),
            0, 1, 2, 3, 2 * (99 + 98 + 1) * 1000000);
    }

    private static void swapRows(Sentences s) {
        s.of(18, "of like ones the first (TOWN, other TOWN of greater number, whose stamp the first one gives, whose the other"
            + " one);");
        ReplyStamps x = Check.of(SIX + "worth 100-held;holds a of c 2;holds a of d 2;holds b of e 2;holds b of f 2;"
            + "holds d of e 2;holds d of f 2;holds c of e 2;");
        swapIs(s, "of all", x, 0, 1, 2, 4, 4);
        x.burn(1, 4);
        swapIs(s, "without b's e", x, 0, 1, 2, 5, 4);
        x.burn(0, 2);
        swapIs(s, "without a's c", x, 0, 1, 3, 5, 4);
        x.burn(1, 5);
        swapIs(s, "without b's f", x, 0, 2, 3, 4, 4);
        x.burn(2, 4);
        swapIs(s, "a has nothing that d may get", x);
        s.of(18, "none, if none makes more.");
        swapIs(s, "none more, none less", swapping("worth 7;", 2, 0, 0, 2));
        swapIs(s, "less", swapping("worth held;", 2, 0, 0, 2));
        swapIs(s, "one more", swapping("worth if(held=1,1,0);", 3, 0, 0, 1), 0, 1, 2, 3, 1);
        swapIs(s, "no towns", new ReplyStamps());
    }

    private static int whose(ReplyStamps x, int what, int... octets) {
        Check.put(x, Check.bytes(octets));
        x.bag();
        return x.whose(what);
    }

    private static void bags(Sentences s) {
        s.of(20, "BAG are rows of a TOWN, how many stamps of it are in it: TOWNS that hold just so many of each of these"
            + " (0 of its own).");
        String text = AB + "town c;holds a of b 1;holds b of a 1;holds c of a 1;holds c of b 2;";
        s.due("just so many", whose(Check.of(text), 0, 0, 1), 6);
        s.due("each of these", whose(Check.of(text), 0, 0, 1, 1, 2), 4);
        s.due("not more", whose(Check.of(text), 0, 1, 1), 1);
        s.due("not so many", whose(Check.of(text), 0, 1, 3), 0);
        s.due("0 of its own", whose(Check.of(text), 0, 0, 0), 1);
        s.due("0 of its own, and others", whose(Check.of(text), 0, 2, 0), 7);
        s.due("99", whose(Check.at(AB, 0, 0, 99, 0, 0, 0, 0, 0, 0), 0, 1, 99), 1);
        s.due("100", whose(Check.at(AB, 0, 0, 99, 0, 0, 0, 0, 0, 0), 0, 1, 100), 0);
        s.due("two numbers of one", whose(Check.of(text), 0, 0, 1, 0, 0), 0);
    }

    private static void telling(Sentences s) {
        s.of(20, "TELLING is the TOWN by whose stamps, however many are held, the most of these left are fewest;");
        // of a are held 0 1 1 1, of b 0 0 0 0, of c 0 1 0 2, of d 0 0 0 0
        ReplyStamps x = Check.of(AB + "town c;town d;holds b of a 1;holds c of a 1;holds d of a 1;holds b of c 1;holds d of c 2;");
        s.due("c", x.whose(1), 2);
        s.due("two are left", x.whose(2), 2);
        s.due("of b, c and d", whose(x, 1, 0, 1), 2);
        s.due("one is left", x.whose(2), 1);
        s.due("all alike", Check.of(SIX).whose(2), 6);
        x = Check.of(SIX + "holds d of a 1;");
        s.due("all but d are alike", whose(x, 2, 0, 0), 5);
        s.due("by the first, then", x.whose(1), 0);
        s.of(20, "of like ones the first.");
        s.due("all alike", Check.of(SIX).whose(1), 0);
        s.due("a and b", Check.of(AB + "holds a of b 1;holds b of a 1;").whose(1), 0);
        x = Check.of(AB + "town c;town d;holds a of c 1;holds b of c 1;holds a of d 1;holds b of d 1;");
        s.due("c and d", x.whose(1), 2);
    }

    private static void image(Sentences s, String name, ReplyStamps x, int... octets) {
        s.due(name, Arrays.equals(Check.image(x), Check.checked(octets)), true);
    }

    private static void images(Sentences s) {
        s.of(29, "AN IMAGE: DAY (two bytes, the higher first);");
        for (int day : new int[] {0, 1, 255, 256, 999}) {
            ReplyStamps x = new ReplyStamps();
            for (int gone = 0; gone < day; gone += Math.min(100, day - gone)) {
                x.days(Math.min(100, day - gone));
            }
            image(s, "day " + day, x, day / 256, day % 256, 0);
        }
        s.of(29, "for each TOWN, each other one by numbers: stamps held, sent, got;");
        ReplyStamps x = Check.of(AB + "town c;holds a of b 1;holds a of c 2;holds b of a 3;holds b of c 4;holds c of a 5;"
            + "holds c of b 6;");
        image(s, "held", x, 0, 0, 1, 0, 0, 2, 0, 0, 3, 0, 0, 4, 0, 0, 5, 0, 0, 6, 0, 0, 0);
        int[] all = {0, 0, 99, 98, 97, 96, 95, 94, 0};
        image(s, "held, sent, got", Check.at(AB, all), all);
        image(s, "one town", Check.of("town a;"), 0, 0, 0);
        s.of(29, "how many LETTERS are under way, then for each, as they were written, from, to, DAYS left;");
        x = Check.of(AB + "cart a to b days 9;holds a of b 2;holds b of a 1;");
        x.days(2);
        image(s, "three letters", x, 0, 2, 0, 2, 0, 0, 1, 0, 3, 0, 1, 8, 1, 0, 8, 0, 1, 9);
        int[] most = new int[9 + 3 * 60];
        most[8] = 60;
        for (int i = 0; i < 60; i++) {
            most[9 + 3 * i] = i % 2;
            most[10 + 3 * i] = 1 - i % 2;
            most[11 + 3 * i] = 1 + i % 9;
        }
        image(s, "60 letters", Check.at(AB + "cart a to b days 9;", most), most);
        s.of(29, "last a byte: all ahead from 191 on, c = (5 c + it) mod 251.");
        // by hand: 191 becomes 202 (955 less 3 times 251), then 6 (1010 less 4 times 251), then 30
        s.due("image()", new ReplyStamps().image(), 4);
        x = new ReplyStamps();
        x.image();
        s.due("octet(3)", x.octet(3), 30);
        x.days(1);
        x.image();
        s.due("of day 1", x.octet(3), 35);
    }
}
