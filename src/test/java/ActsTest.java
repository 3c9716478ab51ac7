import java.util.ArrayList;
import java.util.List;

/** Promises 21 to 28: days, chance, give, find, burn, undo, seed, kept. */
public final class ActsTest {
    private static final int NONE = Check.NONE;
    private static final String THREE = "town a;town b;town c;cart a to b days 2;cart b to c days 1;"
        + "holds a of b 4;holds a of c 1;holds b of c 2;holds c of a 1;encl 2;";

    public static void main(String[] args) {
        Check check = new Check();
        days(check);
        order(check);
        most(check);
        chance(check);
        give(check);
        findAndBurn(check);
        undo(check);
        undoKept(check);
        seed(check);
        kept(check);
        check.finish();
    }

    private static void days(Check check) {
        ReplyStamps x = Check.of(THREE);
        check.due("days(0)", x.days(0), NONE);
        check.due("days(-1)", x.days(-1), NONE);
        check.due("days(101)", x.days(101), NONE);
        check.due("days(MIN)", x.days(Integer.MIN_VALUE), NONE);
        check.due("status(2)", x.status(2), 4);
        check.due("no act", x.has(9), 0);
        check.due("a, b and c write", x.days(1), 0);
        check.due("under way", x.has(4), 3);
        check.due("b's came", x.days(1), 1);
        check.due("c holds two of b more, and wrote one", x.pair(2, 1, 0), 1);
        check.due("c got one of b", x.pair(2, 1, 2), 1);
        check.due("acts", x.has(9), 2);
        check.due("no draws", x.has(10), 1);
        check.due("not lost", Check.of(THREE + "lost 100;").days(2), 1);
        x = new ReplyStamps();
        for (int n = 0; n < 9; n++) {
            check.due("days(100)", x.days(100), 0);
        }
        check.due("days(100) beyond 999", x.days(100), NONE);
        check.due("days(99) to 999", x.days(99), 0);
        check.due("day 999", x.has(2), 999);
        check.due("days(1) beyond", x.days(1), NONE);
        check.due("chance(1) beyond", x.chance(1), NONE);
        check.due("status(2)", x.status(2), 3);
    }

    /** A letter is written by what the letters of this day brought, and is not a day nearer on the day it is written. */
    private static void order(Check check) {
        ReplyStamps x = Check.of("town a;town b;town c;cart a to b days 1;cart b to c days 1;holds a of b 1;");
        x.days(1);
        check.due("written for one day", x.mail(0, 2), 1);
        x.days(1);
        check.due("b replied on the day when it came", x.mail(0, 0), 1);
        check.due("to a", x.mail(0, 1), 0);
        check.due("one alone is under way", x.has(4), 1);
        // two for b on one day: in the order in which they were written
        x = Check.of("town a;town b;town c;cart a to b days 2;cart b to c days 1;holds a of b 1;holds c of b 1;"
            + "writes far=2 or day=1;encl 0;");
        check.due("both come", x.days(3), 2);
        check.due("a's, written first", x.kept(0, 1), 0);
        check.due("then c's", x.kept(1, 1), 2);
    }

    private static void most(Check check) {
        ReplyStamps x = Check.of("town a;town b;cart a to b days 1;encl 3;writes held<0;");
        Check.put(x, Check.checked(0, 0, 98, 99, 99, 98, 99, 98, 2, 0, 1, 1, 1, 0, 1));
        check.due("on()", x.on(), true);
        check.due("both come", x.days(1), 2);
        check.due("99 stamps at most", x.pair(0, 1, 0), 99);
        check.due("99 got at most", x.pair(0, 1, 2), 99);
        check.due("99 got", x.pair(1, 0, 2), 99);
        x = Check.of("town a;town b;cart a to b days 1;encl 0;");
        Check.put(x, Check.checked(0, 0, 2, 98, 0, 0, 0, 0, 0));
        x.on();
        x.days(1);
        check.due("99 sent", x.pair(0, 1, 1), 99);
        x.days(1);
        check.due("99 sent at most", x.pair(0, 1, 1), 99);
        check.due("none is held", x.pair(0, 1, 0), 0);
    }

    private static int drawn(int[] seed, int m) {
        seed[0] = (int) ((1103515245L * seed[0] + 12345) % (1L << 31));
        return seed[0] / 64 % m;
    }

    private static void chance(Check check) {
        String two = "town a;town b;cart a to b days 1;holds a of b 20;encl 0;lost 40;";
        ReplyStamps x = Check.of(two);
        x.seed(12345);
        int[] seed = {12345};
        int lost = 0;
        check.due("chance(1): none comes, none is drawn", x.chance(1), 0);
        check.due("the seed", x.has(10), 12345);
        for (int n = 0; n < 20; n++) {
            boolean is = drawn(seed, 100) < 40;
            lost += is ? 1 : 0;
            check.due("lost on day " + (n + 1), x.chance(1), is ? 1 : 0);
            check.due("the seed", x.has(10), seed[0]);
            check.due("kept as lost", x.kept(n, 3), is ? 1 : 0);
            check.due("got", x.pair(1, 0, 2), n + 1 - lost);
        }
        check.due("some were lost, some not", lost > 0 && lost < 20, true);
        x = Check.of(two);
        x.seed(12345);
        check.due("all at once", x.chance(21), lost);
        check.due("one act", x.has(9), 1);
        x = Check.of(two + "lost 0;");
        check.due("lost 0: none", x.chance(3), 0);
        seed[0] = 1;
        drawn(seed, 100);
        drawn(seed, 100);
        check.due("drawn all the same", x.has(10), seed[0]);
        x = Check.of(two + "lost 100;encl 3;");
        check.due("lost 100: all", x.chance(100), 20);
        check.due("nothing was brought", x.pair(1, 0, 0), 0);
        check.due("chance(0)", x.chance(0), NONE);
        check.due("chance(101)", x.chance(101), NONE);
        check.due("chance(-5)", x.chance(-5), NONE);
        check.due("status(2)", x.status(2), 3);
    }

    private static void give(Check check) {
        ReplyStamps x = Check.of(THREE);
        check.due("to a third one", x.give(0, 1, 2), true);
        check.due("less", x.pair(0, 1, 0), 3);
        check.due("more", x.pair(2, 1, 0), 1);
        check.due("to that town itself", x.give(0, 1, 1), true);
        check.due("less", x.pair(0, 1, 0), 2);
        check.due("gone", x.has(3), 7);
        check.due("acts", x.has(9), 2);
        int[][] wrong = {{0, 1, 0}, {1, 0, 2}, {0, 0, 1}, {0, 1, 3}, {0, 3, 1}, {3, 0, 1}, {-1, 0, 1}, {0, -1, 1}, {0, 1, -1}};
        for (int[] a : wrong) {
            check.due("give(" + a[0] + ", " + a[1] + ", " + a[2] + ")", x.give(a[0], a[1], a[2]), false);
        }
        check.due("status(3)", x.status(3), wrong.length);
        Check.put(x, Check.checked(0, 0, 5, 0, 0, 1, 0, 0, 0, 0, 0, 2, 0, 0, 1, 0, 0, 98, 0, 0, 0));
        check.due("on()", x.on(), true);
        check.due("to 99", x.give(0, 1, 2), true);
        check.due("99 held", x.pair(2, 1, 0), 99);
        check.due("beyond 99", x.give(0, 1, 2), false);
        check.due("itself has no bound", x.give(0, 1, 1), true);
    }

    private static void findAndBurn(Check check) {
        ReplyStamps x = Check.of("town a;town b;town c;holds a of b 20;");
        for (int n = 21; n <= 99; n++) {
            check.due("find to " + n, x.find(0, 1), true);
        }
        check.due("99 held", x.pair(0, 1, 0), 99);
        check.due("find beyond 99", x.find(0, 1), false);
        check.due("one town", x.find(1, 1), false);
        check.due("no town", x.find(0, 3), false);
        check.due("no town", x.find(3, 0), false);
        check.due("no town", x.find(-1, 0), false);
        check.due("status(3)", x.status(3), 5);
        check.due("burn(0, 1)", x.burn(0, 1), 99);
        check.due("all are burnt", x.pair(0, 1, 0), 0);
        check.due("burn none", x.burn(0, 1), NONE);
        check.due("burn one town's own", x.burn(0, 0), NONE);
        check.due("burn no town's", x.burn(0, 3), NONE);
        check.due("no town burns", x.burn(3, 0), NONE);
        check.due("no town burns", x.burn(0, -1), NONE);
        check.due("status(3)", x.status(3), 10);
        check.due("undo the burning", x.undo(), true);
        check.due("99 again", x.pair(0, 1, 0), 99);
        check.due("undo a finding", x.undo(), true);
        check.due("98", x.pair(0, 1, 0), 98);
    }

    private static void undo(Check check) {
        ReplyStamps x = Check.of(THREE + "lost 50;");
        check.due("none yet", x.undo(), false);
        check.due("status(4)", x.status(4), 1);
        List<List<Integer>> ahead = new ArrayList<>();
        for (int n = 0; n < 24; n++) {
            ahead.add(signOf(x));
            switch (n % 5) {
                case 0: x.days(3); break;
                case 1: x.chance(2); break;
                case 2: x.find(n % 3, (n + 1) % 3); break;
                case 3: x.find(0, 1); break;
                default: x.burn(0, 1); break;
            }
            check.due("acts", x.has(9), Math.min(20, n + 1));
            x.days(0);
            x.give(0, 0, 0);
        }
        int seed = x.has(10);
        for (int n = 23; n >= 4; n--) {
            check.due("undo " + n, x.undo(), true);
            check.due("as ahead of act " + n, signOf(x).equals(ahead.get(n)), true);
            check.due("acts", x.has(9), n - 4);
        }
        check.due("the last 20 alone", x.undo(), false);
        check.due("status(4)", x.status(4), 2);
        check.due("but the seed", x.has(10), seed);
        x.find(0, 1);
        x.days(2);
        x.undo();
        x.find(1, 0);
        check.due("acts", x.has(9), 2);
        x.undo();
        x.undo();
        check.due("again as ahead of act 4", signOf(x).equals(ahead.get(4)), true);
    }

    /** What is so, in few calls, as an object is good for 512: an image's length and check byte, and some counts. */
    private static List<Integer> signOf(ReplyStamps x) {
        int length = x.image();
        return List.of(length, x.octet(length - 1), x.has(2), x.has(3), x.has(7));
    }

    private static void undoKept(Check check) {
        ReplyStamps x = Check.of("town a;town b;cart a to b days 1;holds a of b 1;holds b of a 1;");
        x.days(20);
        int first = x.kept(0, 0);
        check.due("38 kept", x.has(7), 38);
        x.days(20);
        check.due("50 told", x.has(7), 50);
        check.due("the oldest one told", x.kept(0, 0), 15);
        x.undo();
        check.due("38 again", x.has(7), 38);
        check.due("with the first", x.kept(0, 0), first);
        check.due("and the last", x.kept(37, 0), 19);
        check.due("no more", x.kept(38, 0), NONE);
    }

    private static void seed(Check check) {
        ReplyStamps x = new ReplyStamps();
        check.due("seed(0)", x.seed(0), true);
        check.due("it is 0", x.has(10), 0);
        check.due("seed(MAX)", x.seed(Integer.MAX_VALUE), true);
        check.due("it is MAX", x.has(10), Integer.MAX_VALUE);
        check.due("seed(-1)", x.seed(-1), false);
        check.due("seed(MIN)", x.seed(Integer.MIN_VALUE), false);
        check.due("it stays", x.has(10), Integer.MAX_VALUE);
        check.due("status(5)", x.status(5), 2);
        check.due("no act", x.has(9), 0);
    }

    private static void kept(Check check) {
        ReplyStamps x = Check.of(THREE);
        check.due("none yet", x.kept(0, 0), NONE);
        x.days(3);
        // b to c came on day 1; then on day 2 a to b, and what b and c wrote to each other on day 1
        int[][] want = {{1, 1, 2, 0}, {2, 0, 1, 0}, {2, 1, 2, 0}, {2, 2, 1, 0}};
        check.due("has(7)", x.has(7), want.length);
        for (int k = 0; k < want.length; k++) {
            for (int what = 0; what < 4; what++) {
                check.due("kept(" + k + ", " + what + ")", x.kept(k, what), want[k][what]);
            }
            check.due("kept(" + k + ", 4)", x.kept(k, 4), NONE);
            check.due("kept(" + k + ", -1)", x.kept(k, -1), NONE);
        }
        check.due("kept(4, 0)", x.kept(4, 0), NONE);
        check.due("kept(-1, 0)", x.kept(-1, 0), NONE);
        x = Check.of("town a;town b;cart a to b days 1;holds a of b 1;");
        x.days(60);
        check.due("the last 50", x.has(7), 50);
        for (int k = 0; k < 50; k++) {
            check.due("kept(" + k + ", 0)", x.kept(k, 0), k + 10);
            check.due("kept(" + k + ", 1)", x.kept(k, 1), (k + 1) % 2);
        }
        check.due("kept(50, 0)", x.kept(50, 0), NONE);
    }
}
