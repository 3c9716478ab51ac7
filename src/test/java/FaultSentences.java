/** Terms I, promise 5: which fault of a text it is, and where. */
final class FaultSentences {
    private static final String AB = "town a;town b;";
    private static final String CART = AB + "cart a to b days 1;";

    private FaultSentences() {
    }

    static void all(Sentences s) {
        first(s);
        noUnion(s);
        noSign(s);
        tooLong(s);
        names(s);
        numbers(s);
        open(s);
        openMixed(s);
        tooMany(s);
        eightyFirst(s);
    }

    private static void first(Sentences s) {
        s.of(5, "FAULTS, the first along the text:");
        s.faultAt(1, "encl 1;^$;encl 4;town a;town a;");
        s.faultAt(2, "town a;town ^a;encl 4;cart x to y");
        s.faultAt(3, "cart ^x to y days 0;town a;town a;");
        s.faultAt(4, "encl ^4;town a;town a;$");
        s.faultAt(5, "likes (((((((^(1;encl 4;$");
        s.faultAt(6, "likes 1;^likes $;encl 4;");
        // two faults of one statement
        s.faultAt(3, AB + "cart a to ^a days 0;");
        s.faultAt(4, AB + "holds a of b ^21$");
        s.faultAt(1, "encl 3^$4;");
    }

    private static void noUnion(Sentences s) {
        s.of(5, "1 the first byte with which no UNION goes on (words and numbers whole, at their first byte;");
        s.faultAt(1, "^$");
        s.faultAt(1, "^;");
        s.faultAt(1, "^tow a;");
        s.faultAt(1, "^Town a;");
        s.faultAt(1, "^1234;");
        s.faultAt(1, "town ^1234;");
        s.faultAt(1, "town a ^abcdef;");
        s.faultAt(1, "likes ^xyz;");
        s.faultAt(1, AB + "cart a ^tob b days 1;");
        s.faultAt(1, "town a;^" + (char) 255);
        s.faultAt(1, "town a;^" + (char) 0);
        for (String more : new String[] {"likes 1+1", "likes 1-1", "likes 1*1", "likes 1/1", "likes 1%1", "likes 1+1*1-1",
            "writes all or all", "writes all and all", "writes not all", "writes 1<1", "writes all or all and 1=1+1*1"}) {
            s.faultAt(1, more + "^$");
            s.faultAt(1, more + "  ^$");
            s.faultAt(1, more + "^");
        }
        s.of(5, "at the text's length, if it ends too soon;");
        s.faultAt(1, "town^");
        s.faultAt(1, "town \n^");
        s.faultAt(1, "town a^");
        s.faultAt(1, AB + "cart a to b days^");
        s.faultAt(1, "likes (1+^");
        s.faultAt(1, "writes not^");
        s.faultAt(1, "encl" + " ".repeat(1596) + "^");
        // a word is whole: one that ends too soon is another word
        s.faultAt(1, "encl 1;^enc");
    }

    /** Where one of these signs must be, or a word, no other byte is, and no number. */
    private static void noSign(Sentences s) {
        s.of(5, "1 the first byte with which no UNION goes on");
        String[] ahead = {"town a", AB + "cart a", AB + "holds a", "encl 1", "likes min", "likes min(1", "likes (1", "writes all",
            "writes 1", "writes [all", "likes if", "likes if(all", "likes if(all,1", "likes if(all,1,1"};
        String[] signs = {";", "", "", ";", "(", "+-*/%,", "+-*/%)", ";", "+-*/%<>=", "]", "(", ",", "+-*/%,", "+-*/%)"};
        for (int i = 0; i < ahead.length; i++) {
            for (char octet = 0; octet < 256; octet++) {
                boolean ofWord = octet >= 'a' && octet <= 'z' || octet >= '0' && octet <= '9';
                boolean blank = octet == 10 || octet == 32;
                if (!ofWord && !blank && signs[i].indexOf(octet) < 0) {
                    s.faultAt(1, ahead[i] + "^" + octet + "1;");
                }
            }
            for (int number = 0; number <= 999; number++) {
                s.faultAt(1, ahead[i] + " ^" + number + " 1;");
            }
        }
    }

    private static void tooLong(Sentences s) {
        s.of(5, "a 7th letter, a 5th digit at itself, whatever may stand there;");
        s.faultAt(1, "town abcdef^g;");
        s.faultAt(1, "town abcdef^ghijklmnop");
        s.faultAt(1, "writes^s all;");
        s.faultAt(1, "abcdef^g");
        s.faultAt(1, "town a abcdef^g;");
        s.faultAt(1, "encl abcdef^g;");
        s.faultAt(1, AB + "cart unknow^n to a days 1;");
        s.faultAt(1, "encl 9999^9;");
        s.faultAt(1, "encl 0000^0000;");
        s.faultAt(1, "1234^5");
        s.faultAt(1, "town 1234^5;");
        s.faultAt(1, "likes 1 1234^5;");
        // one letter or digit less is no such fault
        s.faultAt(3, "cart ^unknow to a days 1;");
        s.faultAt(4, "encl ^9999;");
        s.of(5, "an OWN WORD where a NAME must be);");
        s.faultAt(1, "town ^town;");
        s.faultAt(1, "town a;town ^to;");
        s.faultAt(1, AB + "cart ^days to a days 1;");
        s.faultAt(1, AB + "cart a to ^to days 1;");
        s.faultAt(1, AB + "holds ^of of a 1;");
        s.faultAt(1, AB + "holds a of ^max 1;");
    }

    private static void names(Sentences s) {
        s.of(5, "2 a NAME to be given that is there already, at its first byte;");
        s.faultAt(2, "town a;town ^a;");
        s.faultAt(2, "town abcdef;town \n ^abcdef");
        s.faultAt(2, "town a;town b;town c;town d;town e;town ^a$");
        s.of(5, "3 a NAME that is none of a TOWN (the same TOWN, a CART told already: at the second), at its first byte;");
        s.faultAt(3, "cart ^a");
        s.faultAt(3, AB + "cart a to ^ab days 1;");
        s.faultAt(3, AB + "holds ^ba of a 1;");
        s.faultAt(3, AB + "holds b of ^c");
        s.faultAt(3, AB + "cart b to ^b");
        s.faultAt(3, AB + "holds b of  ^b 21;");
        s.faultAt(3, CART + "cart a to ^b");
        s.faultAt(3, CART + "cart b to ^a days 0;");
    }

    private static void numbers(Sentences s) {
        s.of(5, "4 a NUMBER that can't be, at its first byte;");
        s.faultAt(4, AB + "cart a to b days ^0");
        s.faultAt(4, AB + "cart a to b days ^0000;");
        s.faultAt(4, AB + "cart a to b days  ^10$");
        s.faultAt(4, AB + "holds a of b ^21;");
        s.faultAt(4, AB + "holds a of b ^9999;");
        s.faultAt(4, "encl ^4;");
        s.faultAt(4, "lost ^101;");
        s.faultAt(4, "encl 1;encl ^0004");
        s.fine(AB + "cart a to b days 0009;holds a of b 0020;encl 0003;lost 0100;likes 9999;worth 0000;", 8);
    }

    private static void open(Sentences s) {
        s.of(5, "5 the 8th ( [ not that is open at once");
        s.fine("likes (((((((1)))))));", 1);
        s.faultAt(5, "likes (((((((^(1))))))));");
        s.fine("writes [[[[[[[all]]]]]]];", 1);
        s.faultAt(5, "writes [[[[[[[^[all]]]]]]]];");
        s.fine("writes not not not not not not not all;", 1);
        s.faultAt(5, "writes not not not not not not not ^not all;");
        s.fine("likes min(1,max(1,if(all,min(1,max(1,if(all,(1),1))),1)));", 1);
        s.faultAt(5, "likes min(1,max(1,if(all,min(1,max(1,if(all,(^(1");
        s.faultAt(5, "likes (((((((min^(1");
        s.faultAt(5, "likes (((((((max^(1");
        s.faultAt(5, "likes (((((((if^(1");
        s.faultAt(5, "worth (((((((^(1");
        // where none can stand it is no more than a wrong byte
        s.faultAt(1, "likes (((((((1^(");
        s.faultAt(1, "likes (((((((^[");
        s.faultAt(1, "likes (((((((^not");
        // what is closed is open no more
        for (String sign : new String[] {"+", "-", "*", "/", "%"}) {
            s.fine("likes " + ("(1)" + sign).repeat(20) + "(((((((1)))))));", 1);
        }
        s.fine("writes " + "[all]or ".repeat(20) + "[[[[[[[all]]]]]]];", 1);
        s.fine("writes " + "[all]and ".repeat(20) + "[[[[[[[all]]]]]]];", 1);
        s.fine("likes " + "min(1,1)+max(1,1)+if(all,1,1)+".repeat(9) + "(((((((1)))))));", 1);
        s.fine("likes (((((((1)))))));worth (((((((1)))))));writes [[[[[[[all]]]]]]];", 3);
    }

    private static void openMixed(Sentences s) {
        s.of(5, "(not until its FACT ends), at it;");
        s.faultAt(5, "writes not [not [not [not ^[all");
        s.faultAt(5, "writes not 1<((((((^(1");
        s.faultAt(5, "writes not ((((((1))))))<((((((^(1");
        s.faultAt(5, "writes not [all or 1<(((((^(1");
        s.faultAt(5, "likes if(not not not not not not ^not all,1,2);");
        s.fine("writes " + "not all and ".repeat(9) + "all;", 1);
        s.fine("writes " + "not all or ".repeat(9) + "all;", 1);
        s.fine("writes not not not not not not not all and [[[[[[[all]]]]]]];", 1);
        s.fine("writes not 1<((((((1)))))) and (((((((1)))))))>0;", 1);
        s.fine("writes not[all]or[[[[[[not 1<2 or all]]]]]];", 1);
        s.faultAt(5, "likes if(not all,((((((^(1");
        s.faultAt(5, "writes [not all]and(((((((^(1");
    }

    private static void tooMany(Sentences s) {
        s.of(5, "6 one too many of a kind of STATEMENT (a second writes, likes, worth, too),");
        s.faultAt(6, AB + "town c;town d;town e;town f;\n^town $");
        s.faultAt(6, AB + "town c;town d;town e;town f;^town a;");
        s.faultAt(6, "writes all;^writes");
        s.faultAt(6, "likes 1; ^likes 1;");
        s.faultAt(6, "worth 1;encl 1;^worth $");
        s.fine(AB + "town c;town d;town e;town f;holds a of b 1;writes all;likes 1;worth 1;encl 1;encl 2;lost 1;lost 2;", 14);
    }

    private static void eightyFirst(Sentences s) {
        s.of(5, "or the 81st STATEMENT (whatever it is), at its first byte.");
        String eighty = "lost 7;".repeat(66) + AB + "town c;town d;town e;town f;writes all;likes 1;worth 1;"
            + "lost 7;".repeat(5);
        s.fine(eighty, 80);
        s.fine(eighty + " \n", 80);
        for (String more : new String[] {"encl 1;", "lost 1;", "holds a of b 1;", "cart a to b days 1;", "town g;",
            "writes all;", "likes 1;", "worth 1;", "encl 4;", "$", ";", "x", "abcdefgh", "12345"}) {
            s.faultAt(6, eighty + "^" + more);
            s.faultAt(6, eighty + "\n ^" + more);
        }
    }
}
