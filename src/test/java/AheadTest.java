/** Promises 11 to 13: later, comes, silent. */
public final class AheadTest {
    private static final int NONE = Check.NONE;
    private static final String THREE = "town a;town b;town c;town d;cart a to b days 2;cart b to c days 3;"
        + "holds a of b 2;holds b of c 1;encl 2;lost 100;";

    public static void main(String[] args) {
        Check check = new Check();
        later(check);
        laterAsDays(check);
        comes(check);
        silent(check);
        nearTheLastDay(check);
        check.finish();
    }

    private static void later(Check check) {
        ReplyStamps x = Check.of(THREE);
        check.due("later(0, 1, 0, 0)", x.later(0, 1, 0, 0), 2);
        check.due("later(0, 1, 1, 0)", x.later(0, 1, 1, 0), 1);
        check.due("later(0, 1, 2, 0)", x.later(0, 1, 2, 0), 0);
        check.due("later(0, 1, 2, 1)", x.later(0, 1, 2, 1), 2);
        check.due("later(1, 0, 2, 2)", x.later(1, 0, 2, 2), 0);
        check.due("two come with it, one goes at once", x.later(1, 0, 3, 0), 1);
        check.due("later(1, 0, 3, 2)", x.later(1, 0, 3, 2), 1);
        check.due("later(0, 3, 60, 0)", x.later(0, 3, 60, 0), 0);
        int[][] none = {{0, 0, 1, 0}, {0, 4, 1, 0}, {4, 0, 1, 0}, {-1, 0, 1, 0}, {0, -1, 1, 0}, {0, 1, -1, 0},
            {0, 1, 61, 0}, {0, 1, 1, 3}, {0, 1, 1, -1}, {0, 1, Integer.MAX_VALUE, 0}, {0, 1, Integer.MIN_VALUE, 0}};
        for (int[] a : none) {
            check.due("later none", x.later(a[0], a[1], a[2], a[3]), NONE);
        }
        check.due("nothing is so yet: day", x.has(2), 0);
        check.due("nothing is so yet: kept", x.has(7), 0);
        check.due("no draws", x.has(10), 1);
    }

    /** What is told ahead is so when the days went by. */
    private static void laterAsDays(Check check) {
        ReplyStamps x = Check.of(THREE);
        ReplyStamps y = Check.of(THREE);
        for (int n = 1; n <= 60; n++) {
            y.days(1);
            for (int what = 0; what < 3; what++) {
                for (int pair = 0; pair < 16; pair++) {
                    int town = pair / 4;
                    int other = pair % 4;
                    if (n % 7 == 0 && town != other) {
                        check.due("later as days", x.later(town, other, n, what), y.pair(town, other, what));
                    }
                }
            }
        }
    }

    private static void comes(Check check) {
        ReplyStamps x = Check.of(THREE);
        check.due("comes(0, 1)", x.comes(0, 1), 3);
        check.due("comes(1, 2)", x.comes(1, 2), 4);
        check.due("comes(1, 0)", x.comes(1, 0), 5);
        check.due("comes(2, 1)", x.comes(2, 1), 7);
        check.due("comes(0, 2)", x.comes(0, 2), NONE);
        check.due("comes(0, 3)", x.comes(0, 3), NONE);
        check.due("comes(0, 0)", x.comes(0, 0), NONE);
        check.due("comes(0, 4)", x.comes(0, 4), NONE);
        check.due("comes(-1, 0)", x.comes(-1, 0), NONE);
        x.days(2);
        check.due("comes(0, 1) two days on", x.comes(0, 1), 1);
        x.days(1);
        check.due("the second one", x.comes(0, 1), 1);
        String late = "town a;town b;cart a to b days 1;holds a of b 1;encl 0;writes day=";
        check.due("in day 60", Check.of(late + "58;").comes(0, 1), 60);
        check.due("not in day 61", Check.of(late + "59;").comes(0, 1), NONE);
    }

    private static void silent(Check check) {
        String one = "town a;town b;cart a to b days 4;holds a of b 1;";
        check.due("replies for ever", Check.of(one).silent(), NONE);
        check.due("no more stamps", Check.of(one + "encl 0;").silent(), 5);
        check.due("nobody would", Check.of(one + "writes not all;").silent(), 0);
        check.due("no towns", new ReplyStamps().silent(), 0);
        check.due("no way", Check.of("town a;town b;holds a of b 1;").silent(), 0);
        ReplyStamps x = Check.of(one + "encl 0;writes day>2;");
        check.due("the test does not hold now", x.silent(), 0);
        x.days(3);
        check.due("it does on day 3", x.silent(), 5);
        x.days(1);
        check.due("under way", x.silent(), 4);
        String far = "town a;town b;town c;town d;town e;town f;cart a to b days 9;cart b to c days 9;cart c to d days 9;"
            + "cart d to e days 9;cart e to f days 9;holds a of f 20;encl 0;writes day<";
        check.due("behind the 60th day", Check.of(far + "15;").silent(), 60);
        check.due("too late", Check.of(far + "16;").silent(), NONE);
    }

    private static void nearTheLastDay(Check check) {
        ReplyStamps x = Check.of("town a;town b;cart a to b days 5;holds a of b 1;encl 0;");
        byte[] image = Check.checked(3, 226, 1, 0, 0, 0, 0, 0, 0);
        Check.put(x, image);
        check.due("on day 994", x.on(), true);
        check.due("5 days are left", x.later(0, 1, 5, 1), 1);
        check.due("6 are not", x.later(0, 1, 6, 1), NONE);
        check.due("in the sixth it would come", x.comes(0, 1), NONE);
        check.due("and be silent", x.silent(), NONE);
        Check.put(x, Check.checked(3, 225, 1, 0, 0, 0, 0, 0, 0));
        check.due("on day 993", x.on(), true);
        check.due("it comes on day 998", x.comes(0, 1), 6);
        check.due("and all are silent", x.silent(), 6);
        x.days(6);
        check.due("day 999", x.has(2), 999);
        check.due("later now", x.later(1, 0, 0, 2), 1);
        check.due("no day is left", x.later(1, 0, 1, 2), NONE);
        check.due("silent now", x.silent(), 0);
    }
}
