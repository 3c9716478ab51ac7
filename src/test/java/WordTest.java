/** Promises 14 to 18: word, wide, cut, ring, swap. */
public final class WordTest {
    private static final int NONE = Check.NONE;
    private static final String SIX = "town a;town b;town c;town d;town e;town f;";
    private static final String ALL_WAYS = SIX + "cart a to b days 1;cart b to c days 1;cart c to d days 1;"
        + "cart d to e days 1;cart e to f days 1;";

    public static void main(String[] args) {
        Check check = new Check();
        word(check);
        wide(check);
        cut(check);
        ring(check);
        swap(check);
        swapEdges(check);
        check.finish();
    }

    /** The union with one stamp for each two letters: of the second by the first. */
    private static ReplyStamps held(String start, String pairs) {
        StringBuilder text = new StringBuilder(start);
        for (int i = 0; i + 1 < pairs.length(); i += 3) {
            text.append("holds ").append(pairs.charAt(i)).append(" of ").append(pairs.charAt(i + 1)).append(" 1;");
        }
        return Check.of(text.toString());
    }

    private static void row(Check check, String name, int[] got, int... want) {
        check.due(name + ": how many", got[1], want.length);
        for (int k = 0; k < want.length; k++) {
            check.due(name + ": " + k, got[k + 2], want[k]);
        }
        check.due(name + ": none behind", got[want.length + 2], NONE);
        check.due(name + ": none ahead", got[0], NONE);
    }

    private static int[] wideOf(ReplyStamps x) {
        int[] row = new int[7];
        for (int k = -2; k < 5; k++) {
            row[k + 2] = x.wide(k);
        }
        return row;
    }

    private static int[] cutOf(ReplyStamps x, int from, int to) {
        int[] row = new int[7];
        for (int k = -2; k < 5; k++) {
            row[k + 2] = x.cut(from, to, k);
        }
        return row;
    }

    private static int[] ringOf(ReplyStamps x, int town) {
        int[] row = new int[10];
        for (int k = -2; k < 8; k++) {
            row[k + 2] = x.ring(town, k);
        }
        return row;
    }

    private static void none(Check check, String name, int[] got) {
        for (int k = 0; k < got.length; k++) {
            check.due(name + ": none at all", got[k], NONE);
        }
    }

    private static void word(Check check) {
        ReplyStamps x = held(ALL_WAYS, "ab bc cd da fe");
        int[] want = {15, 15, 15, 15, 16, 48};
        for (int town = 0; town < 6; town++) {
            check.due("word(" + town + ")", x.word(town), want[town]);
        }
        check.due("word(6)", x.word(6), NONE);
        check.due("word(-1)", x.word(-1), NONE);
        x = held(SIX + "cart a to b days 1;cart c to d days 1;", "ab bc cd ba");
        check.due("no way from b to c", x.word(0), 3);
        check.due("from c", x.word(2), 12);
        x = held(ALL_WAYS, "fe ed dc cb ba");
        check.due("five on", x.word(5), 63);
        x.burn(3, 2);
        check.due("burnt", x.word(5), 56);
    }

    private static void wide(Check check) {
        row(check, "a ring of six", wideOf(held(ALL_WAYS, "ab bc cd de ef fa")));
        row(check, "one is needed", wideOf(held(ALL_WAYS, "ab bc cd de ef")), 30);
        row(check, "two are needed", wideOf(held(ALL_WAYS, "ab bc de ef")), 6 * 2 + 3, 6 * 5);
        row(check, "three are needed", wideOf(held(ALL_WAYS, "ab cd ef")), 6 + 2, 6 * 3 + 4, 6 * 5);
        none(check, "four are needed", wideOf(held(ALL_WAYS, "ab cd")));
        row(check, "the first row", wideOf(held("town a;town b;town c;cart a to b days 1;cart b to c days 1;", "ab")), 8, 12);
        none(check, "no way", wideOf(held("town a;town b;", "ab ba")));
        row(check, "one town", wideOf(Check.of("town a;")));
        row(check, "no town", wideOf(new ReplyStamps()));
        row(check, "two towns", wideOf(Check.of("town a;town b;cart a to b days 1;")), 1, 6);
    }

    private static void cut(Check check) {
        ReplyStamps x = held(ALL_WAYS, "ab ac ad bd cd ef");
        row(check, "three", cutOf(x, 0, 3), 1, 2, 3);
        row(check, "one", cutOf(x, 0, 1), 1);
        row(check, "no word anyway", cutOf(x, 3, 0));
        row(check, "no word anyway, apart", cutOf(x, 0, 5));
        x = held(ALL_WAYS, "ab ac ad ae bf cf df ef");
        none(check, "four", cutOf(x, 0, 5));
        x.burn(3, 5);
        row(check, "three of the first row", cutOf(x, 0, 5), 1, 2, 4);
        row(check, "the narrow place", cutOf(held(ALL_WAYS, "ab ac bd cd de ef"), 0, 5), 6 * 3 + 4);
        row(check, "not what has no way", cutOf(held(SIX + "cart a to b days 1;cart b to c days 1;", "ab bc ad dc"), 0, 2), 1);
        none(check, "one town", cutOf(x, 2, 2));
        none(check, "no town 6", cutOf(x, 0, 6));
        none(check, "no town -1", cutOf(x, -1, 0));
        x = held(ALL_WAYS, "ab bc");
        x.find(0, 1);
        row(check, "a pair goes with all its stamps", cutOf(x, 0, 1), 1);
    }

    private static void ring(Check check) {
        ReplyStamps x = held(ALL_WAYS, "ab bc cd de ef fa");
        row(check, "all six", ringOf(x, 0), 0, 1, 2, 3, 4, 5);
        row(check, "from d on", ringOf(x, 3), 3, 4, 5, 0, 1, 2);
        x.find(3, 0);
        row(check, "shorter", ringOf(x, 0), 0, 1, 2, 3);
        row(check, "not for e", ringOf(x, 4), 4, 5, 0, 1, 2, 3);
        x.find(3, 2);
        row(check, "two", ringOf(x, 3), 3, 2);
        row(check, "not with b", ringOf(x, 1), 1, 2, 3, 0);
        x = held(ALL_WAYS, "ac ab bd cd da");
        row(check, "of like ones the first row", ringOf(x, 0), 0, 1, 3);
        row(check, "of like ones the first row from d", ringOf(x, 3), 3, 0, 1);
        row(check, "c's own", ringOf(x, 2), 2, 3, 0);
        none(check, "none with e", ringOf(x, 4));
        none(check, "no town 6", ringOf(x, 6));
        none(check, "no town -1", ringOf(x, -1));
        none(check, "no ways", ringOf(held(SIX, "ab ba"), 0));
        none(check, "no way back", ringOf(held("town a;town b;", "ab ba"), 0));
    }

    private static void swapIs(Check check, String name, ReplyStamps x, int... want) {
        for (int what = 0; what < 5; what++) {
            check.due(name + ": swap(" + what + ")", x.swap(what), want.length == 0 ? NONE : want[what]);
        }
        check.due(name + ": swap(5)", x.swap(5), NONE);
        check.due(name + ": swap(-1)", x.swap(-1), NONE);
    }

    private static void swap(Check check) {
        String four = "town a;town b;town c;town d;";
        swapIs(check, "worth 1 each", held(four, "ac bd"));
        swapIs(check, "no towns", new ReplyStamps());
        // the first stamp of a town is worth 10, each other one 1 (all of them 10 less held)
        String rare = four + "worth if(held=1,10,1);holds a of c 2;holds b of d 2;";
        swapIs(check, "what is left is worth more, too", Check.of(rare), 0, 1, 2, 3, 36);
        ReplyStamps x = Check.of(rare + "holds a of d 1;");
        swapIs(check, "a second one is worth less", x, 0, 1, 2, 3, 18);
        swapIs(check, "only what both make together", Check.of(four + "worth 0-held;holds a of c 3;holds b of d 1;"),
            0, 1, 2, 3, 4);
        swapIs(check, "none makes more", Check.of(four + "worth held;holds a of c 1;holds b of d 1;"));
        String far = "town a;town b;town c;town d;cart a to b days 1;cart b to c days 1;cart c to d days 1;worth far;";
        swapIs(check, "of like ones the first", Check.of(far + "holds a of b 1;holds c of d 1;holds b of a 1;holds d of c 1;"),
            0, 2, 1, 3, 2);
        swapIs(check, "the second row is better", Check.of(four + "town e;worth if(far<9,9,1);cart b to c days 1;"
            + "holds a of c 1;holds b of e 1;holds d of c 1;"), 0, 1, 2, 4, 8);
    }

    private static void swapEdges(Check check) {
        ReplyStamps x = Check.of("town a;town b;town c;town d;worth held;holds a of c 20;holds b of d 20;");
        swapIs(check, "many together are worth more", x);
        int[] state = new int[39];
        state[2 + 3] = 20;
        state[2 + 3 * 5] = 20;
        state[2 + 3 * 2] = 98;
        Check.put(x, Check.checked(state));
        check.due("on()", x.on(), true);
        check.due("98 held", x.pair(0, 3, 0), 98);
        swapIs(check, "98 is room", x, 0, 1, 2, 3, 99 * 99 - 98 * 98 + 1 - 2 * (20 * 20 - 19 * 19));
        x.find(0, 3);
        check.due("99 held", x.pair(0, 3, 0), 99);
        swapIs(check, "99 is none", x);
        x = Check.of("town a;town b;town c;town d;worth if(held=0,0,1000*1000);holds a of c 1;holds b of d 1;holds a of d 3;");
        swapIs(check, "no bound", x);
        x = Check.of("town a;town b;town c;town d;worth if(held=20,0-1000*1000,1000*1000);holds a of c 20;holds b of d 20;");
        swapIs(check, "far above the bound of a sum", x, 0, 1, 2, 3, 2 * (39000000 + 1000000));
    }
}
