/** Promises 19 and 20: bag, whose. */
public final class BagTest {
    private static final int NONE = Check.NONE;
    private static final String FIVE = "town a;town b;town c;town d;town e;"
        + "holds a of b 1;holds b of a 1;holds c of a 1;holds d of a 2;holds c of b 3;holds e of b 3;holds d of e 1;";

    public static void main(String[] args) {
        Check check = new Check();
        bag(check);
        whose(check);
        telling(check);
        check.finish();
    }

    private static int bag(ReplyStamps x, int... octets) {
        Check.put(x, Check.bytes(octets));
        return x.bag();
    }

    private static void bag(Check check) {
        ReplyStamps x = Check.of(FIVE);
        check.due("no byte", bag(x), NONE);
        check.due("one byte", bag(x, 1), NONE);
        check.due("three bytes", bag(x, 1, 1, 1), NONE);
        check.due("no town 5", bag(x, 0, 1, 5, 1), NONE);
        check.due("no town 255", bag(x, 255, 1), NONE);
        check.due("refused", x.status(5), 5);
        check.due("no row", x.has(8), 0);
        check.due("one row", bag(x, 4, 255), 1);
        int[] sixteen = new int[32];
        check.due("16 rows", bag(x, sixteen), 16);
        check.due("16 rows", x.has(8), 16);
        int[] seventeen = new int[34];
        check.due("17 rows", bag(x, seventeen), NONE);
        check.due("those before stay", x.has(8), 16);
        check.due("the tape went", x.feed(0, 0, 0, 0, 0), 20);
        check.due("refused", x.status(5), 6);
        check.due("no act", x.has(9), 0);
        check.due("no union, no bag", bag(new ReplyStamps(), 0, 0), NONE);
    }

    private static void whose(Check check) {
        ReplyStamps x = Check.of(FIVE);
        check.due("without a bag all", x.whose(0), 31);
        bag(x, 0, 1);
        check.due("one stamp of a", x.whose(0), 6);
        bag(x, 0, 1, 1, 3);
        check.due("and three of b", x.whose(0), 4);
        bag(x, 0, 0);
        check.due("none of a, a itself too", x.whose(0), 17);
        bag(x, 1, 3);
        check.due("three of b", x.whose(0), 20);
        bag(x, 1, 255);
        check.due("255 of b", x.whose(0), 0);
        bag(x, 0, 1, 0, 2);
        check.due("two numbers of one", x.whose(0), 0);
        bag(x, 0, 1, 0, 1);
        check.due("a row twice", x.whose(0), 6);
        bag(x, 9, 1);
        check.due("a refused one changes none", x.whose(0), 6);
        x.find(1, 0);
        check.due("what is held now", x.whose(0), 4);
        x.undo();
        check.due("undone", x.whose(0), 6);
        x.find(1, 0);
        bag(x, 1, 3);
        x.undo();
        check.due("a bag is no act", x.whose(0), 20);
        check.due("whose(3)", x.whose(3), NONE);
        check.due("whose(-1)", x.whose(-1), NONE);
        check.due("no towns", new ReplyStamps().whose(0), 0);
    }

    private static void telling(Check check) {
        ReplyStamps x = Check.of(FIVE);
        // of a are held 0 1 1 2 0, of b 1 0 3 0 3: two at the most are alike by either, by the others more
        check.due("of like ones the first", x.whose(1), 0);
        check.due("two are left", x.whose(2), 2);
        x.find(2, 0);
        x.find(2, 0);
        x.find(2, 1);
        // of a 0 1 3 2 0, of b 1 0 4 0 3
        check.due("still the first", x.whose(1), 0);
        x.find(3, 1);
        x.find(3, 1);
        // of b 1 0 4 2 3
        check.due("now b", x.whose(1), 1);
        check.due("one is left", x.whose(2), 1);
        bag(x, 0, 0);
        check.due("a and e are told by b", x.whose(1), 1);
        check.due("one is left", x.whose(2), 1);
        bag(x, 0, 1);
        check.due("one alone", x.whose(0), 2);
        check.due("the first tells it", x.whose(1), 0);
        check.due("it is left", x.whose(2), 1);
        bag(x, 1, 255);
        check.due("none fits: none tells", x.whose(1), NONE);
        check.due("none fits: none is left", x.whose(2), NONE);
        check.due("no towns: none tells", new ReplyStamps().whose(1), NONE);
        check.due("no towns: none is left", new ReplyStamps().whose(2), NONE);
        check.due("one town", Check.of("town a;").whose(1), 0);
        check.due("one town is left", Check.of("town a;").whose(2), 1);
    }
}
