/** Promises 4 and 5: the language of unions, and every fault of it. */
public final class FaultTest {
    private static final String AB = "town a;town b;";

    public static void main(String[] args) {
        Check check = new Check();
        texts(check);
        longAndGlued(check);
        names(check);
        numbers(check);
        open(check);
        tooMany(check);
        rules(check);
        check.finish();
    }

    private static void texts(Check check) {
        check.fault("town", 1, 4);
        check.fault("town  ", 1, 6);
        check.fault("town a", 1, 6);
        check.fault("town a ", 1, 7);
        check.fault("tow a;", 1, 0);
        check.fault(" \nxyz", 1, 2);
        check.fault("5;", 1, 0);
        check.fault("to a;", 1, 0);
        check.fault("held;", 1, 0);
        check.fault(";", 1, 0);
        check.fault("Town a;", 1, 0);
        check.fault("town A;", 1, 5);
        check.fault("town\ta;", 1, 4);
        check.fault("town a\r;", 1, 6);
        check.fault("town a;" + (char) 255, 1, 7);
        check.fault("town a;" + (char) 225, 1, 7);
        check.fault("town a b;", 1, 7);
        check.fault("town 1;", 1, 5);
        check.fault("town of;", 1, 5);
        check.fault("town max;", 1, 5);
        check.fault(AB + "cart a b", 1, 21);
        check.fault(AB + "cart to to", 1, 19);
        check.fault(AB + "cart a to days", 1, 24);
        check.fault(AB + "cart a to b 4", 1, 26);
        check.fault(AB + "cart a to b days b", 1, 31);
        check.fault(AB + "cart a to b days 4 5", 1, 33);
        check.fault(AB + "holds a b", 1, 22);
        check.fault(AB + "holds a of b;", 1, 26);
        check.fault("encl x;", 1, 5);
        check.fault("encl;", 1, 4);
        check.fault("lost 5", 1, 6);
        check.fault("lost -1;", 1, 5);
    }

    private static void longAndGlued(Check check) {
        check.fault("town abcdefg;", 1, 11);
        check.fault("town abcdefghi;", 1, 11);
        check.fault("abcdefg", 1, 6);
        check.fault("writess 1;", 1, 6);
        check.fault("town a abcdefgh", 1, 13);
        check.fault("encl 00001;", 1, 9);
        check.fault("encl 99999;", 1, 9);
        check.fault("12345", 1, 4);
        check.fault("town 123456", 1, 9);
        check.fault("likes 12345;", 1, 10);
        check.fault("encl1;", 1, 4);
        check.fault("town a1;", 1, 6);
        check.fault(AB + "holds a of b1;", 1, 26);
        check.fault("likes 1held;", 1, 7);
        check.fault("writes 1<2and all;", 1, 10);
        check.fine("writes 1<2 and all;", 1);
        check.fine("likes(1)+held*2;", 1);
        gluedAndLong(check);
    }

    /** The missing blank is ahead of the 7th letter or the 5th digit; what is too long first is so at itself. */
    private static void gluedAndLong(Check check) {
        check.fault("encl12345; ", 1, 4);
        check.fault("encl1234567890;", 1, 4);
        check.fault("encl1234;", 1, 4);
        check.fault("encl 12345;", 1, 9);
        check.fault("encl\n12345;", 1, 9);
        check.fault("town abc12345;", 1, 8);
        check.fault("town a;town b;holds a of b12345;", 1, 26);
        check.fault("likes 1abcdefg;", 1, 7);
        check.fault("likes 1234abcdefghijk;", 1, 10);
        check.fault("writes 1<2writesall;", 1, 10);
        check.fault("likes 12345abcdefg;", 1, 10);
        check.fault("town abcdefg12345;", 1, 11);
        check.fault("likes 1held12345;", 1, 7);
        check.fault("encl1a2345678;", 1, 4);
        // the one ahead of the missing blank is looked at first
        check.fault("xyz12345", 1, 0);
        check.fault("1abcdefg", 1, 0);
        check.fault("encl 9abcdefg", 4, 5);
        check.fault("town a;town a12345", 2, 12);
        check.fault("cart x12345", 3, 5);
    }

    private static void names(Check check) {
        check.fault("town a;town a", 2, 12);
        check.fault("town a;town a$", 2, 12);
        check.fault("town abcdef;town abcdef;", 2, 17);
        check.fine("town a;town aa;town ab;town ba;", 4);
        check.fault("cart x", 3, 5);
        check.fault(AB + "cart x to a", 3, 19);
        check.fault(AB + "cart a to x", 3, 24);
        check.fault(AB + "cart a to a days 0", 3, 24);
        check.fault(AB + "cart a to b days 1;cart a to b", 3, 43);
        check.fault(AB + "cart a to b days 1;cart b to a", 3, 43);
        check.fault(AB + "holds c of a", 3, 20);
        check.fault(AB + "holds a of c", 3, 25);
        check.fault(AB + "holds b of b", 3, 25);
        check.fault("holds a of b 1;town a;town b;", 3, 6);
        check.fine(AB + "town c;cart a to b days 1;cart a to c days 1;cart b to c days 1;", 6);
        check.fine(AB + "holds a of b 1;holds a of b 2;holds b of a 0;", 5);
    }

    private static void numbers(Check check) {
        check.fault(AB + "cart a to b days 0", 4, 31);
        check.fault(AB + "cart a to b days 10;", 4, 31);
        check.fine(AB + "cart a to b days 9;", 3);
        check.fine(AB + "cart a to b days 0001;", 3);
        check.fault(AB + "holds a of b 21;", 4, 27);
        check.fine(AB + "holds a of b 20;holds a of b 0;", 4);
        check.fault("encl 4$", 4, 5);
        check.fine("encl 3;encl 0;", 2);
        check.fault("lost 101", 4, 5);
        check.fine("lost 100;lost 0;", 2);
        check.fine("likes 9999;worth 0;", 2);
    }

    private static void open(Check check) {
        check.fine("likes (((((((1)))))));", 1);
        check.fault("likes ((((((((1))))))));", 5, 13);
        check.fine("writes not not not not not not not all;", 1);
        check.fault("writes not not not not not not not not all;", 5, 35);
        check.fine("writes [[[[[[[all]]]]]]];", 1);
        check.fault("writes [[[[[[[[all]]]]]]]];", 5, 14);
        check.fault("writes [[[[[[[not all", 5, 14);
        check.fault("writes not [(1)+((((((1", 5, 21);
        check.fault("writes not [(1)+(((((((1", 5, 21);
        check.fine("writes not [(1)+(((((1)))))>0];", 1);
        check.fault("likes min(min(min(min(min(min(min(min(1", 5, 37);
        check.fault("likes if([[[[[[[all", 5, 15);
        check.fault("likes if(1>if(1>if(1>if(1>if(1>if(1>if(1>if(1", 5, 43);
        // a not is open until its fact ends, no longer
        check.fine("writes not all and not all and not all and not all or not all or not all or not all or not all;", 1);
        check.fine("writes not 1>(((((1)))))+((((((1)))))) and (((((((1)))))))>0;", 1);
        check.fault("writes not 1>(((((1)))))+(((((((1))))))) and 1>0;", 5, 31);
        check.fine("likes (1)+(1)+(1)+(1)+(1)+(1)+(1)+(1)+(1);", 1);
        check.fine("likes (((((((1)))))));worth (((((((1)))))));writes [[[[[[[all]]]]]]];", 3);
        // where it can't stand, it is no more than a wrong byte
        check.fault("likes (((((((1(", 1, 14);
    }

    private static void tooMany(Check check) {
        check.fault("writes all;writes all;", 6, 11);
        check.fault("likes 1;likes", 6, 8);
        check.fault("worth 1;\nworth $", 6, 9);
        check.fault("town a;town b;town c;town d;town e;town f;town f", 6, 42);
        StringBuilder carts = new StringBuilder("town a;town b;town c;town d;town e;town f;");
        String names = "abcdef";
        int told = 0;
        for (int i = 0; i < 6; i++) {
            for (int j = 0; j < i; j++) {
                if (told < 12) {
                    carts.append("cart ").append(names.charAt(i)).append(" to ").append(names.charAt(j));
                    carts.append(" days 1;");
                    told++;
                }
            }
        }
        check.fine(carts.toString(), 18);
        check.fault(carts + "cart f to e days 1;", 6, carts.length());
        StringBuilder eighty = new StringBuilder();
        for (int i = 0; i < 80; i++) {
            eighty.append("encl 1;");
        }
        check.fine(eighty + " \n", 80);
        check.fault(eighty + " encl 1;", 6, 561);
        check.fault(eighty + "town a;", 6, 560);
        check.fault(eighty + "lost 999", 6, 560);
        check.fault(eighty + "$", 6, 560);
        check.fault(eighty + "abcdefgh", 6, 560);
    }

    /** What a rule may be made of. */
    private static void rules(Check check) {
        check.fault("writes;", 1, 6);
        check.fault("writes held;", 1, 11);
        check.fault("writes 1", 1, 8);
        check.fault("writes 1>2>3;", 1, 10);
        check.fault("writes (1>2);", 1, 9);
        check.fault("writes [1];", 1, 9);
        check.fault("writes all all;", 1, 11);
        check.fault("writes not;", 1, 10);
        check.fault("writes all and;", 1, 14);
        check.fault("writes all or or", 1, 14);
        check.fault("likes all;", 1, 6);
        check.fault("likes not all;", 1, 6);
        check.fault("likes -1;", 1, 6);
        check.fault("likes 1+;", 1, 8);
        check.fault("likes 1 2;", 1, 8);
        check.fault("likes ();", 1, 7);
        check.fault("likes (1;", 1, 8);
        check.fault("likes 1);", 1, 7);
        check.fault("likes min 1;", 1, 10);
        check.fault("likes min(1);", 1, 11);
        check.fault("likes max(1,2,3);", 1, 13);
        check.fault("likes if(1,2,3);", 1, 10);
        check.fault("likes if(all,2);", 1, 14);
        check.fault("likes xyz;", 1, 6);
        check.fault("likes town;", 1, 6);
        check.fault("likes 1>2;", 1, 7);
        check.fault("town a;likes a;", 1, 13);
        check.fault("worth sent;", 1, 6);
        check.fault("worth 1+got;", 1, 8);
        check.fault("worth if(sent>0,1,2);", 1, 9);
        check.fine("worth held+far*day;likes sent+got;writes sent<got;", 3);
        check.fine("worth if([not all]or 1<2,min(1,2),max(held,far%2));", 1);
    }
}
