/** Promises 6 to 10: has, letter, pair, mail, writes; and what the rules of a union make of a town and another one. */
public final class NowTest {
    private static final int NONE = Check.NONE;
    private static final String SHIPS =
        "town ash;town bayham;town z;town lone;"
        + "cart ash to bayham days 4;cart bayham to z days 5;cart z to ash days 2;"
        + "holds ash of bayham 3;holds ash of z 2;holds ash of lone 9;holds z of ash 1;";

    public static void main(String[] args) {
        Check check = new Check();
        has(check);
        letter(check);
        pair(check);
        mail(check);
        writes(check);
        sixtyUnderWay(check);
        sums(check);
        tests(check);
        facts(check);
        check.finish();
    }

    private static void has(Check check) {
        ReplyStamps x = Check.of(SHIPS);
        x.seed(5);
        x.days(1);
        x.days(3);
        Check.put(x, Check.bytes(0, 0, 1, 0, 2, 0));
        x.bag();
        // ash wrote to bayham on days 0, 1 and 2, to z on day 3; z wrote to ash on day 0, which came on day 2
        int[] want = {4, 3, 4, 11, 4, 5, 1, 1, 3, 2, 5};
        for (int what = 0; what < want.length; what++) {
            check.due("has(" + what + ")", x.has(what), want[what]);
        }
        check.due("has(11)", x.has(11), NONE);
        check.due("has(-1)", x.has(-1), NONE);
        check.due("has(MAX)", x.has(Integer.MAX_VALUE), NONE);
    }

    private static void letter(Check check) {
        ReplyStamps x = Check.of(SHIPS);
        int[][] want = {{1, 19, 8, 0, 0, 0}, {2, 1, 25, 8, 1, 13}, {26, 0, 0, 0, 0, 0}, {12, 15, 14, 5, 0, 0}};
        for (int town = 0; town < want.length; town++) {
            for (int k = 0; k < 6; k++) {
                check.due("letter(" + town + ", " + k + ")", x.letter(town, k), want[town][k]);
            }
            check.due("letter(" + town + ", 6)", x.letter(town, 6), NONE);
            check.due("letter(" + town + ", -1)", x.letter(town, -1), NONE);
        }
        check.due("letter(4, 0)", x.letter(4, 0), NONE);
        check.due("letter(-1, 0)", x.letter(-1, 0), NONE);
    }

    private static void pair(Check check) {
        ReplyStamps x = Check.of(SHIPS);
        check.due("held of bayham", x.pair(0, 1, 0), 3);
        check.due("held of ash", x.pair(1, 0, 0), 0);
        check.due("held without a way", x.pair(0, 3, 0), 9);
        check.due("the cart's days", x.pair(0, 1, 3), 4);
        check.due("the same back", x.pair(1, 0, 3), 4);
        check.due("5 by the cart", x.pair(1, 2, 3), 5);
        check.due("no way", x.pair(0, 3, 3), NONE);
        check.due("no way back", x.pair(3, 0, 3), NONE);
        check.due("what 4", x.pair(0, 1, 4), NONE);
        check.due("what -1", x.pair(0, 1, -1), NONE);
        check.due("one town", x.pair(2, 2, 0), NONE);
        check.due("one town's way", x.pair(2, 2, 3), NONE);
        check.due("no town 4", x.pair(4, 0, 0), NONE);
        check.due("no town 4 either", x.pair(0, 4, 0), NONE);
        check.due("no town -1", x.pair(-1, 0, 0), NONE);
        x.days(3);
        check.due("sent", x.pair(0, 1, 1), 3);
        check.due("held less", x.pair(0, 1, 0), 0);
        check.due("got", x.pair(0, 2, 2), 1);
        check.due("not got", x.pair(2, 0, 2), 0);
        check.due("held more", x.pair(0, 2, 0), 3);
        x = Check.of("town a;town b;town c;cart a to c days 9;cart a to b days 2;cart c to b days 3;");
        check.due("the quickest carts", x.pair(0, 2, 3), 5);
        x = Check.of("town a;town b;town c;town d;town e;town f;cart f to e days 9;cart e to d days 9;cart d to c days 9;"
            + "cart c to b days 9;cart b to a days 9;");
        check.due("five carts", x.pair(0, 5, 3), 45);
        check.due("five carts back", x.pair(5, 0, 3), 45);
    }

    private static void mail(Check check) {
        ReplyStamps x = Check.of(SHIPS);
        check.due("none yet", x.mail(0, 0), NONE);
        x.days(2);
        int[][] want = {{0, 1, 3}, {2, 0, 1}, {0, 1, 4}};
        for (int k = 0; k < want.length; k++) {
            for (int what = 0; what < 3; what++) {
                check.due("mail(" + k + ", " + what + ")", x.mail(k, what), want[k][what]);
            }
            check.due("mail(" + k + ", 3)", x.mail(k, 3), NONE);
            check.due("mail(" + k + ", -1)", x.mail(k, -1), NONE);
        }
        check.due("mail(3, 0)", x.mail(3, 0), NONE);
        check.due("mail(-1, 0)", x.mail(-1, 0), NONE);
        x.days(1);
        check.due("z's letter came, the next one moves up", x.mail(1, 0), 0);
        check.due("its days", x.mail(1, 2), 3);
    }

    private static void writes(Check check) {
        ReplyStamps x = Check.of(SHIPS);
        check.due("of like ones the first", x.writes(0), 1);
        check.due("holds none", x.writes(1), NONE);
        check.due("holds one", x.writes(2), 0);
        check.due("holds none, has no way", x.writes(3), NONE);
        check.due("no town 4", x.writes(4), NONE);
        check.due("no town -1", x.writes(-1), NONE);
        check.due("likes most", Check.of(SHIPS + "likes 9-far;").writes(0), 2);
        check.due("likes all below nought", Check.of(SHIPS + "likes 0-far;").writes(0), 2);
        check.due("not where there is no way", Check.of(SHIPS + "likes far;").writes(0), 1);
        check.due("the test", Check.of(SHIPS + "writes held<3;").writes(0), 2);
        check.due("the test holds nowhere", Check.of(SHIPS + "writes held<2;").writes(0), NONE);
        check.due("the test and likes", Check.of(SHIPS + "writes held<9;likes held;").writes(0), 1);
    }

    private static void sixtyUnderWay(Check check) {
        StringBuilder text = new StringBuilder();
        for (char c = 'a'; c <= 'f'; c++) {
            text.append("town ").append(c).append(';');
        }
        text.append("cart a to b days 9;cart b to c days 9;cart c to d days 9;cart d to e days 9;cart e to f days 9;");
        text.append("likes far;encl 0;");
        for (char c = 'a'; c <= 'e'; c++) {
            text.append("holds ").append(c).append(" of f 20;holds f of ").append(c).append(" 20;");
        }
        ReplyStamps x = Check.of(text.toString());
        // six letters a day, the first of them (e and f) nine days under way
        check.due("came in 9 days", x.days(9), 0);
        check.due("under way", x.has(4), 54);
        check.due("writes", x.writes(5), 0);
        check.due("came on day 9", x.days(1), 1);
        check.due("under way", x.has(4), 59);
        check.due("came on day 10", x.days(1), 1);
        check.due("60 at most", x.has(4), 60);
        check.due("the rest wrote none: c", x.pair(2, 5, 1), 10);
        check.due("the first ones wrote: a", x.pair(0, 5, 1), 11);
        check.due("the first ones wrote: b", x.pair(1, 5, 1), 11);
        for (int town = 0; town < 6; town++) {
            check.due("with 60 under way writes(" + town + ")", x.writes(town), NONE);
        }
        check.due("not silent all the same", x.silent() == 0, false);
    }

    /** Whether a test of writes holds for a town with 2 stamps of another one 3 days away. */
    private static void holds(Check check, String test, boolean want) {
        ReplyStamps x = Check.of("town a;town b;cart a to b days 3;holds a of b 2;writes " + test + ";");
        check.due(test, x.writes(0) == 1, want);
    }

    private static void sums(Check check) {
        holds(check, "2+3*4=14", true);
        holds(check, "(2+3)*4=20", true);
        holds(check, "2-3-4=0-5", true);
        holds(check, "24/4/2=3", true);
        holds(check, "7-2*3%4=5", true);
        holds(check, "7/2=3", true);
        holds(check, "(0-7)/2=0-4", true);
        holds(check, "7/(0-2)=0-4", true);
        holds(check, "(0-7)/(0-2)=3", true);
        holds(check, "7%3=1", true);
        holds(check, "(0-7)%3=2", true);
        holds(check, "7%(0-3)=0-2", true);
        holds(check, "(0-7)%(0-3)=0-1", true);
        holds(check, "5/0=0", true);
        holds(check, "5%0=0", true);
        holds(check, "1000*1000=999*1000+1000", true);
        holds(check, "9999*9999=1000*1000", true);
        holds(check, "9999*9999-1=999*1000+999", true);
        holds(check, "1000*1000+1=1000*1000", true);
        holds(check, "0-9999*9999=0-1000*1000", true);
        holds(check, "(0-9999)*9999-1=0-1000*1000", true);
        holds(check, "(0-9999)*9999+1=0-999*1000-999", true);
        holds(check, "9999*9999*9999*9999=1000*1000", true);
        holds(check, "min(2,3)=2 and min(3,2)=2 and min(0-1,1)=0-1", true);
        holds(check, "max(2,3)=3 and max(3,2)=3 and max(0-1,1)=1", true);
        holds(check, "if(1<2,5,6)=5", true);
        holds(check, "if(2<1,5,6)=6", true);
        holds(check, "if(1<2 and 2<1 or 3=3,if(all,7,8),6)=7", true);
    }

    private static void tests(Check check) {
        holds(check, "all", true);
        holds(check, "not all", false);
        holds(check, "not not all", true);
        holds(check, "1<2", true);
        holds(check, "2<2", false);
        holds(check, "3>2", true);
        holds(check, "2>2", false);
        holds(check, "2=2", true);
        holds(check, "2=3", false);
        holds(check, "all or all and not all", true);
        holds(check, "[all or all]and not all", false);
        holds(check, "not all and not all or all", true);
        holds(check, "not 2>1 or 1>2", false);
        holds(check, "not[2>1 and 1>2]", true);
        holds(check, "not all or not all or all", true);
        holds(check, "all and all and not all", false);
    }

    private static void facts(Check check) {
        holds(check, "held=2", true);
        holds(check, "far=3", true);
        holds(check, "day=0", true);
        holds(check, "sent=0 and got=0", true);
        ReplyStamps x = Check.of(SHIPS + "writes day<1 or sent=1 and got=0 or got=1 and sent=0;");
        x.days(1);
        check.due("sent once", x.writes(0), 1);
        x.days(1);
        check.due("sent twice", x.writes(0), NONE);
        x.days(1);
        check.due("wrote to z on the day when z's came", x.pair(0, 2, 1), 1);
        x = Check.of(SHIPS + "writes day=2;");
        check.due("day 0", x.writes(0), NONE);
        x.days(2);
        check.due("day 2", x.writes(0), 1);
    }
}
