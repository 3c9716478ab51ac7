/** Terms I, promises 4 and 5: what a union may tell, and how much of it. */
final class TextSentences {
    private static final int NONE = Check.NONE;
    private static final String AB = "town a;town b;";
    private static final String CART = AB + "cart a to b days 1;";
    private static final String SIX = AB + "town c;town d;town e;town f;";
    /** On day 0 alone a writes to b; the letter comes on day 1. */
    private static final String ONE = CART + "holds a of b 1;writes day<1;";

    private TextSentences() {
    }

    static void all(Sentences s) {
        statements(s);
        carts(s);
        holds(s);
        rules(s);
        lastOnes(s);
        sums(s);
        parts(s);
        tests(s);
        facts(s);
        counted(s);
        reckoned(s);
        bounded(s);
        names(s);
        blanks(s);
        ownWords(s);
    }

    private static void statements(Sentences s) {
        s.of(4, "A UNION is a text: { STATEMENT ; } (80 at most):");
        s.fine("", 0);
        s.fine("encl 1;", 1);
        s.fine("encl 1;".repeat(80), 80);
        s.faultAt(6, "encl 1;".repeat(80) + "^encl 1;");
        s.faultAt(1, "encl 1^");
        s.faultAt(1, "encl 1;^;");
        s.of(4, "town NAME (6 TOWNS);");
        s.due("has(0) of six", Check.of(SIX).has(0), 6);
        s.faultAt(6, SIX + "^town g;");
    }

    /** Six towns and so many carts. */
    private static String withCarts(int many) {
        StringBuilder text = new StringBuilder(SIX);
        int told = 0;
        for (char first = 'a'; first <= 'f'; first++) {
            for (char second = 'a'; second < first && told < many; second++) {
                text.append("cart ").append(first).append(" to ").append(second).append(" days 1;");
                told++;
            }
        }
        return text.toString();
    }

    private static void carts(Sentences s) {
        s.of(4, "cart NAME to NAME days N (two unlike TOWNS,");
        s.fine(AB + "cart b to a days 1;", 3);
        s.faultAt(3, AB + "cart a to ^a days 1;");
        s.faultAt(3, AB + "cart b to ^b days 1;");
        s.of(4, "not told in either order already;");
        s.faultAt(3, CART + "cart a to ^b days 1;");
        s.faultAt(3, CART + "cart b to ^a days 1;");
        s.fine(CART + "town c;cart a to c days 1;cart c to b days 1;", 6);
        s.of(4, "1 .. 9;");
        s.faultAt(4, AB + "cart a to b days ^0;");
        s.due("days 1", Check.of(AB + "cart a to b days 1;").pair(0, 1, 3), 1);
        s.due("days 9", Check.of(AB + "cart a to b days 9;").pair(0, 1, 3), 9);
        s.faultAt(4, AB + "cart a to b days ^10;");
        s.of(4, "12 CARTS);");
        s.due("has(1) of 12", Check.of(withCarts(12)).has(1), 12);
        s.faultAt(6, withCarts(12) + "^" + withCarts(13).substring(withCarts(12).length()));
    }

    private static void holds(Sentences s) {
        s.of(4, "holds NAME of NAME N (a TOWN, another one;");
        s.fine(AB + "holds a of b 1;", 3);
        s.faultAt(3, AB + "holds ^c of a 1;");
        s.faultAt(3, AB + "holds a of ^c 1;");
        s.faultAt(3, AB + "holds a of ^a 1;");
        s.of(4, "0 .. 20 stamps;");
        s.due("0 stamps", Check.of(AB + "holds a of b 0;").pair(0, 1, 0), 0);
        s.due("20 stamps", Check.of(AB + "holds a of b 20;").pair(0, 1, 0), 20);
        s.faultAt(4, AB + "holds a of b ^21;");
        s.of(4, "the last one of these two counts, 0 without);");
        ReplyStamps x = Check.of(AB + "town c;holds a of b 7;holds a of b 20;holds b of a 3;holds a of b 2;holds b of c 9;");
        s.due("the last one", x.pair(0, 1, 0), 2);
        s.due("the other two", x.pair(1, 0, 0), 3);
        s.due("without one", x.pair(2, 0, 0), 0);
        s.due("0 told last", Check.of(AB + "holds a of b 7;holds a of b 0;").pair(0, 1, 0), 0);
    }

    private static void rules(Sentences s) {
        s.of(4, "writes TEST, likes SUM, worth SUM (one each);");
        s.fine("writes all;likes 1;worth 1;", 3);
        s.faultAt(6, "writes all;^writes all;");
        s.faultAt(6, "likes 1;worth 1;^likes 1;");
        s.faultAt(6, "worth 1;likes 1;^worth 1;");
        s.faultAt(1, "writes 1^;");
        s.faultAt(1, "likes ^all;");
        s.faultAt(1, "worth ^all;");
        // wherever they stand
        for (int n = 0; n < 40; n++) {
            s.fine(" ".repeat(n) + "worth 1;likes got;writes sent=0;", 3);
            s.fine("encl 1;".repeat(n) + "writes all;likes sent;worth 1;", n + 3);
            s.fine("worth 1" + "+1".repeat(n) + ";likes got;", 2);
            s.fine("worth if(all,1,1)" + "+1".repeat(n) + ";likes got;", 2);
        }
        // as long as the tape lets them be, with more behind them
        s.fine("encl 1;likes 1" + "+1".repeat(780) + ";encl 2;lost 3;", 4);
        s.faultAt(4, "encl 1;likes 1" + "*1".repeat(780) + ";encl 2;lost ^101;");
        s.fine("writes all" + " or all".repeat(220) + ";encl 2;", 2);
        s.faultAt(4, "writes all" + " and all".repeat(190) + ";encl ^4;");
    }

    private static void lastOnes(Sentences s) {
        s.of(4, "encl N (0 .. 3),");
        for (int n = 0; n <= 3; n++) {
            s.due("brought with encl " + n, Check.of(ONE + "encl " + n + ";").later(1, 0, 2, 0), n);
        }
        s.faultAt(4, "encl ^4;");
        s.of(4, "lost N (0 .. 100):");
        s.due("lost 0", lostOf("lost 0;"), 0);
        s.due("lost 100", lostOf("lost 100;"), 1);
        s.faultAt(4, "lost ^101;");
        s.of(4, "the last one of each counts (1, 0 without).");
        s.due("encl 3, 0", Check.of(ONE + "encl 3;encl 0;").later(1, 0, 2, 0), 0);
        s.due("encl 0, 2", Check.of("encl 0;" + ONE + "encl 2;").later(1, 0, 2, 0), 2);
        s.due("without encl", Check.of(ONE).later(1, 0, 2, 0), 1);
        s.due("lost 100, 0", lostOf("lost 100;lost 0;"), 0);
        s.due("lost 0, 100", lostOf("lost 0;lost 100;"), 1);
        s.due("without lost", lostOf(""), 0);
    }

    /** How many of one letter are lost by a draw of 0, the least one. */
    private static int lostOf(String lost) {
        ReplyStamps x = Check.of(ONE + lost);
        x.days(1);
        x.seed(Draw.seedFor(0));
        return x.chance(1);
    }

    /** The test holds of a, which holds 2 stamps of b, 3 days away; b holds 5 of a. */
    private static void is(Sentences s, String test) {
        s.due(test, Check.of(AB + "cart a to b days 3;holds a of b 2;holds b of a 5;writes " + test + ";").writes(0), 1);
        s.due("not " + test, Check.of(AB + "cart a to b days 3;holds a of b 2;writes not[" + test + "];").writes(0), NONE);
    }

    private static void sums(Sentences s) {
        s.of(4, "SUM: PRODUCT { + or - PRODUCT }.");
        is(s, "1+2*3-4+5=8");
        is(s, "1" + "+1".repeat(700) + "=701");
        is(s, "7*2" + "-1*2".repeat(300) + "+600=14");
        s.faultAt(1, "likes ^;");
        s.faultAt(1, "likes ^-1;");
        s.faultAt(1, "likes 1+^;");
        s.faultAt(1, "likes 1-^-1;");
        s.of(4, "PRODUCT: PART { * or / or % PART }.");
        is(s, "7*6/4%4=2");
        s.faultAt(1, "likes ^*1;");
        s.faultAt(1, "likes 1/^;");
        s.faultAt(1, "likes 1%^*1;");
    }

    private static void parts(Sentences s) {
        s.of(4, "PART: N; held; far; day;");
        is(s, "9=9 and held=2 and far=3 and day=0");
        s.fine("likes 0+held+far+day;worth 9999+held+far+day;writes 0<held+far+day;", 3);
        s.faultAt(1, AB + "likes ^a;");
        s.faultAt(1, "likes ^days;");
        s.of(4, "in writes, likes: sent; got;");
        s.fine("writes sent<got;likes sent+got;", 2);
        s.faultAt(1, "worth ^sent;");
        s.faultAt(1, "worth 1+^got;");
        s.faultAt(1, "writes sent<got;likes got;worth if(held>0 or ^sent>0,1,2);");
        s.fine("worth held;likes got;writes sent=0;", 3);
        s.of(4, "( SUM ) ;");
        is(s, "(1+2)*3=9");
        s.faultAt(1, "likes (^);");
        s.faultAt(1, "likes (1^;");
        s.faultAt(1, "likes 1^);");
        s.of(4, "min ( SUM , SUM ) ; max ( SUM , SUM ) ;");
        is(s, "min(1+1,3)=2 and min(3,2)=2 and max(2,1+2)=3 and max(3,2)=3 and min(4,4)=max(4,4)");
        s.faultAt(1, "likes min ^1;");
        s.faultAt(1, "likes min^;");
        s.faultAt(1, "likes max^+1;");
        s.faultAt(1, "likes min(1^);");
        s.faultAt(1, "likes max(1,2^,3);");
        s.of(4, "if ( TEST , SUM , SUM ) (the first SUM where the TEST holds, else the second one).");
        is(s, "if(1<2,5,6)=5 and if(2<1,5,6)=6 and if(not all,5,6)=6 and if(all,0,6)=0");
        s.faultAt(1, "likes if^;");
        s.faultAt(1, "likes if(1^,2,3);");
        s.faultAt(1, "likes if(all,2^);");
        s.faultAt(1, "likes if(all,2,3^,4);");
    }

    private static void tests(Sentences s) {
        s.of(4, "TEST: BOTH { or BOTH }.");
        is(s, "all or all and not all");
        is(s, "not all or not all or all");
        s.faultAt(1, "writes all or^;");
        s.faultAt(1, "writes ^or all;");
        s.of(4, "BOTH: FACT { and FACT }.");
        is(s, "not[all and all and not all]");
        is(s, "not[not all and all]");
        is(s, "all and all");
        is(s, "not[[all or all]and not all]");
        s.faultAt(1, "writes all and^;");
        s.faultAt(1, "writes all ^all;");
        s.of(4, "FACT: not FACT; [ TEST ] ; all; SUM SIGN SUM, SIGN < or > or = .");
        is(s, "not not all");
        is(s, "not 1>2 and[not[2>2]]");
        is(s, "1<2 and 2>1 and 2=2");
        is(s, "not 2<2 and not 2>2 and not 1=2 and not 2=1 and not 2<1 and not 1>2");
        s.faultAt(1, "writes not^;");
        s.faultAt(1, "writes [all^;");
        s.faultAt(1, "writes [^];");
        s.faultAt(1, "writes 1<2^<3;");
        s.faultAt(1, "writes all^<3;");
        s.faultAt(1, "writes 1<^=2;");
        s.faultAt(1, "writes (1^<2);");
    }

    private static void facts(Sentences s) {
        s.of(10, "(Of a TOWN and another one how many stamps of the other one it holds;");
        is(s, "held=2");
        String most = CART + "encl 0;writes ";
        s.due("99 held", Check.at(most + "held=99;", 0, 0, 99, 0, 0, 1, 0, 0, 0).writes(0), 1);
        s.of(18, "the DAYS of the way there, 99 without one;");
        // a and b swap d for c, which is 98 more for a: no cart goes there from it, and one does from b
        ReplyStamps x = Check.of(AB + "town c;town d;cart b to c days 1;holds a of d 1;holds b of c 1;worth far;");
        s.due("swap(2)", x.swap(2), 3);
        s.due("swap(3)", x.swap(3), 2);
        s.due("swap(4)", x.swap(4), 98);
        is(s, "far=3");
        s.of(10, "the DAY;");
        x = Check.of(CART + "holds a of b 1;writes day=2;");
        s.due("on day 0", x.writes(0), NONE);
        x.days(1);
        s.due("on day 1", x.writes(0), NONE);
        x.days(1);
        s.due("on day 2", x.writes(0), 1);
        s.due("on day 999", Check.at(CART + "writes day=999;", 3, 231, 1, 0, 0, 0, 0, 0, 0).writes(0), 1);
    }

    private static void counted(Sentences s) {
        s.of(10, "how many LETTERS it wrote to it;");
        int[] octets = {0, 0, 1, 7, 0, 1, 8, 9, 0};
        s.due("7 written", Check.at(CART + "writes sent=7;", octets).writes(0), 1);
        s.due("7 written, not 8", Check.at(CART + "writes sent=8;", octets).writes(0), NONE);
        s.due("99 written", Check.at(CART + "writes sent=99;", 0, 0, 1, 99, 0, 0, 0, 0, 0).writes(0), 1);
        s.of(10, "how many came from it.)");
        s.due("none came", Check.at(CART + "writes got=0;", octets).writes(0), 1);
        s.due("9 came", Check.at(CART + "writes got=9;", octets).writes(1), 0);
        s.due("99 came", Check.at(CART + "writes got=99;", 0, 0, 1, 0, 99, 0, 0, 0, 0).writes(0), 1);
    }

    private static void reckoned(Sentences s) {
        s.of(10, "All from the left on;");
        is(s, "9-3-2=4");
        is(s, "9-3+2=8");
        is(s, "100/10/5=2");
        is(s, "100/10*5=50");
        is(s, "17%10%4=3");
        is(s, "7*5%4/2=1");
        s.of(10, "/ gives the greatest whole number not above,");
        is(s, "6/3=2 and 7/3=2 and 8/3=2 and 0/3=0");
        is(s, "(0-6)/3=0-2 and (0-7)/3=0-3 and (0-1)/3=0-1");
        is(s, "7/(0-3)=0-3 and (0-7)/(0-3)=2 and 1/(0-9999)=0-1");
        is(s, "(0-1000*1000)/(0-1)=1000*1000");
        s.of(10, "% what is left (a less b times that);");
        is(s, "6%3=0 and 7%3=1 and 2%3=2");
        is(s, "(0-7)%3=2 and (0-6)%3=0 and 7%(0-3)=0-2 and (0-7)%(0-3)=0-1");
        is(s, "(0-1000*1000)%(1000*1000-1)=999*1000+998");
        s.of(10, "by 0 both give 0;");
        is(s, "5/0=0 and 5%0=0 and (0-5)/0=0 and (0-5)%0=0 and 0/0=0 and 0%0=0");
        is(s, "5/(3-3)+1=1 and 5%(3-3)+1=1");
    }

    private static void bounded(Sentences s) {
        s.of(10, "each result above 10 to the 6 is that, below -10 to the 6 likewise.");
        is(s, "1000*1000-1=999*1000+999");
        is(s, "1000*1000+1-1=999*1000+999");
        is(s, "9999*9999-1=999*1000+999");
        is(s, "1000*1000-(0-1)-1=999*1000+999");
        is(s, "0-1000*1000+1=0-999*1000-999");
        is(s, "0-1000*1000-1+1=0-999*1000-999");
        is(s, "(0-9999)*9999+1=0-999*1000-999");
        is(s, "(0-1000*1000)+(0-1)+1=0-999*1000-999");
        // far beyond what 32 bits hold, too
        is(s, "9999*9999*9999=1000*1000 and (0-9999)*9999*9999=0-1000*1000");
    }

    private static void names(Sentences s) {
        s.of(4, "NAMES: 1 to 6 letters, unlike ones, told ahead of where they are asked.");
        s.faultAt(1, "town ^;");
        s.fine("town a;town z;", 2);
        s.fine("town abcdef;town abcdeg;town abcde;town bbcdef;", 4);
        s.faultAt(1, "town abcdef^g;");
        s.faultAt(1, "town ^`;");
        s.faultAt(1, "town ^{;");
        s.faultAt(2, "town abcdef;town ^abcdef;");
        s.faultAt(3, "holds ^a of b 1;town a;town b;");
        s.faultAt(3, "town a;cart a to ^b days 1;town b;");
        s.of(4, "NUMBERS: 1 to 4 digits.");
        s.faultAt(1, "encl ^;");
        s.fine("encl 0;encl 03;encl 003;encl 0003;", 4);
        s.faultAt(1, "encl 0000^3;");
        s.faultAt(1, "encl ^/;");
        s.faultAt(1, "encl ^:;");
        is(s, "9999-9998=1 and 0009=9");
        for (int n = 0; n <= 9999; n++) {
            is(s, n + "=" + n / 100 + "*100+" + n % 100);
        }
        s.faultAt(1, "likes 9999^9;");
    }

    private static void blanks(Sentences s) {
        s.of(4, "Blanks (10, 32) are where one likes");
        s.fine("\n  town \n\n a\n; \n", 1);
        s.fine(" writes[ 1 <( 2 ) ] or\nnot[all]; ", 1);
        for (int octet = 0; octet < 256; octet++) {
            boolean letter = octet >= 'a' && octet <= 'z';
            String text = "town" + (char) octet + "a;";
            if (octet == 10 || octet == 32) {
                s.fine(text, 1);
            } else {
                s.fault(text, 1, letter ? 0 : 4);
            }
        }
        s.of(4, "(words and numbers side by side need one).");
        s.faultAt(1, "^towna;");
        s.faultAt(1, "encl^1;");
        s.faultAt(1, "encl^12345;");
        s.faultAt(1, AB + "holds a of b^1;");
        s.faultAt(1, "likes 1^held;");
        s.faultAt(1, "writes 1<2^and all;");
        s.faultAt(1, "writes 1<2 ^andall;");
        s.faultAt(1, "writes all and^1<2;");
        s.fine("writes(1)<2 and[all]or(1)>2;", 1);
    }

    private static void ownWords(Sentences s) {
        String words = "town, cart, to, days, holds, of, writes, likes, worth, encl, lost, held, far, day, sent, got, "
            + "if, or, and, not, all, min, max";
        s.of(4, "OWN WORDS, which no NAME is: " + words + ".");
        for (String word : words.split(", ")) {
            s.faultAt(1, "town ^" + word + ";");
            s.faultAt(1, AB + "cart ^" + word + " to a days 1;");
            s.faultAt(1, AB + "holds a of ^" + word + " 1;");
            s.fine("town x" + word.substring(1) + ";", 1);
        }
        s.fine("town t;town tow;town towns;town dayss;town no;town ma;", 6);
        ownWordsElsewhere(s, words.split(", "));
    }

    /** Where one of them must be, no other one is. */
    private static void ownWordsElsewhere(Sentences s, String[] words) {
        String[] ahead = {"", "likes ", "worth ", "writes ", "writes not ", AB + "cart a ", AB + "cart a to b ", AB + "holds a ",
            "encl ", "encl 1 ", "likes 1 ", "likes min ", "writes all "};
        String parts = " held far day if min max ";
        String[] may = {" town cart holds writes likes worth encl lost ", parts + "sent got ", parts, parts + "sent got not all ",
            parts + "sent got not all ", " to ", " days ", " of ", " ", " ", " ", " ", " or and "};
        for (int i = 0; i < ahead.length; i++) {
            for (String word : words) {
                boolean fits = may[i].contains(" " + word + " ");
                s.faultAt(1, ahead[i] + (fits ? word + "^" : "^" + word));
            }
        }
    }
}
