/** Promises 1 to 5: a new object, feed, end, union, fault. */
public final class TapeTest {
    private static final int NONE = Check.NONE;
    private static final String TWO = "town a;town b;cart a to b days 2;holds a of b 3;";

    public static void main(String[] args) {
        Check check = new Check();
        newObject(check);
        feed(check);
        end(check);
        union(check);
        unionAnew(check);
        fault(check);
        check.finish();
    }

    private static void newObject(Check check) {
        ReplyStamps x = new ReplyStamps();
        for (int what = 0; what < 10; what++) {
            check.due("new: has(" + what + ")", x.has(what), 0);
        }
        check.due("new: has(10)", x.has(10), 1);
        for (int what = 0; what < 6; what++) {
            check.due("new: status(" + what + ")", x.status(what), 0);
        }
        check.due("new: octet(0)", x.octet(0), NONE);
        check.due("new: union()", x.union(), 0);
    }

    private static void feed(Check check) {
        ReplyStamps x = new ReplyStamps();
        for (int n = 1; n <= 80; n++) {
            check.due("feed " + n, x.feed(0, 0, 0, 0, 0), 20 * n);
        }
        check.due("feed 81", x.feed(0, 0, 0, 0, 0), NONE);
        check.due("status(0)", x.status(0), 1);
        check.due("end(1580)", x.end(1580), true);
        check.due("feed behind 1580", x.feed(0, 0, 0, 0, 0), 1600);
        x.end(1581);
        check.due("feed behind 1581", x.feed(0, 0, 0, 0, 0), NONE);
        check.due("status(0)", x.status(0), 2);
        check.due("union() of noughts", x.union(), NONE);
        check.due("its place", x.fault(1), 0);
        // the highest byte of each number comes first, the first number's first
        check.due("feed", x.feed(0x656e636c, 0x20313b6c, 0x6f737420, 0x36303b20, 0x20203b20), 20);
        check.due("union()", x.union(), NONE);
        check.due("place of the lone ;", x.fault(1), 18);
        x.feed(0x656e636c, 0x20313b6c, 0x6f737420, 0x36303b20, 0x20202020);
        check.due("union()", x.union(), 2);
    }

    private static void end(Check check) {
        ReplyStamps x = new ReplyStamps();
        check.due("end(0)", x.end(0), true);
        check.due("end(1)", x.end(1), false);
        check.due("end(-1)", x.end(-1), false);
        check.due("end(MIN)", x.end(Integer.MIN_VALUE), false);
        check.due("status(0)", x.status(0), 3);
        x.feed(0x656e636c, 0x20313bff, 0, 0, 0);
        check.due("end(21)", x.end(21), false);
        check.due("end(20)", x.end(20), true);
        check.due("end(7)", x.end(7), true);
        check.due("end(8)", x.end(8), false);
        check.due("union()", x.union(), 1);
        check.due("end(1) when the tape went", x.end(1), false);
    }

    private static void union(Check check) {
        check.fine("", 0);
        check.fine(" \n ", 0);
        check.fine(TWO, 4);
        check.fine("encl 1;encl 2;lost 3;lost 0;", 4);
        check.fine("\ntown\nheldx ; town  b;", 2);
        check.fine("town abcdef;town f;", 2);
        check.fine("encl 0003;", 1);
        StringBuilder most = new StringBuilder();
        for (int i = 0; i < 80; i++) {
            most.append("lost 1;");
        }
        check.fine(most.toString(), 80);
        ReplyStamps x = Check.of("encl 0;encl 2;town a;town b;cart a to b days 1;holds a of b 9;holds a of b 1;");
        check.due("the last holds counts", x.pair(0, 1, 0), 1);
        check.due("the other order has none", x.pair(1, 0, 0), 0);
        check.due("the last encl counts", x.later(1, 0, 2, 0), 1);
        x = Check.of(TWO);
        check.due("one enclosed without encl", x.later(1, 0, 3, 0) + x.later(1, 0, 3, 1), 1);
    }

    private static void unionAnew(Check check) {
        ReplyStamps x = Check.of(TWO);
        Check.put(x, Check.bytes(0, 0));
        check.due("bag()", x.bag(), 1);
        x.seed(77);
        x.days(3);
        x.find(0, 1);
        check.due("a fault: union()", Check.union(x, "town a"), NONE);
        check.due("the tape went", x.feed(0, 0, 0, 0, 0), 20);
        int[] stays = {2, 1, 3, 1, 3, 4, 1, 1, 1, 2, 77};
        for (int what = 0; what < stays.length; what++) {
            check.due("all stays: has(" + what + ")", x.has(what), stays[what]);
        }
        check.due("status(1)", x.status(1), 1);
        check.due("anew: union()", Check.union(x, TWO), 4);
        int[] first = {2, 1, 0, 3, 0, 0, 0, 0, 0, 0, 77};
        for (int what = 0; what < first.length; what++) {
            check.due("as at first: has(" + what + ")", x.has(what), first[what]);
        }
        check.due("nothing in a bag: whose(0)", x.whose(0), 3);
        check.due("no act: undo()", x.undo(), false);
        check.due("status(1) stays", x.status(1), 1);
        x.days(1);
        check.due("none: union()", x.union(), 0);
        check.due("none: has(0)", x.has(0), 0);
        check.due("none: has(2)", x.has(2), 0);
        check.due("none: has(3)", x.has(3), 0);
        check.due("none: has(4)", x.has(4), 0);
    }

    private static void fault(Check check) {
        ReplyStamps x = new ReplyStamps();
        check.due("ahead of any: fault(0)", x.fault(0), 0);
        check.due("ahead of any: fault(1)", x.fault(1), NONE);
        Check.union(x, "town a;;");
        check.due("fault(0)", x.fault(0), 1);
        check.due("fault(1)", x.fault(1), 7);
        check.due("fault(2)", x.fault(2), NONE);
        check.due("fault(-1)", x.fault(-1), NONE);
        Check.union(x, "town a;");
        check.due("fault(0) behind a fine one", x.fault(0), 0);
        check.due("fault(1) behind a fine one", x.fault(1), NONE);
    }
}
