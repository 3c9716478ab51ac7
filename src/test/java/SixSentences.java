import java.util.Arrays;
import java.util.function.IntBinaryOperator;

/** With six towns, each one and each two of them: what holds of the first ones holds of the last ones. */
final class SixSentences {
    private static final int NONE = Check.NONE;
    private static final int TOWNS = 6;
    private static final String SIX = "town a;town b;town c;town d;town e;town f;";
    /** From a town to another one it is as many days as their numbers are apart. */
    private static final String CHAIN = SIX + "cart a to b days 1;cart b to c days 1;cart c to d days 1;cart d to e days 1;"
        + "cart e to f days 1;";

    private SixSentences() {
    }

    static void all(Sentences s) {
        ways(s);
        letters(s);
        brought(s);
        images(s);
        written(s);
        liked(s);
        gifts(s);
        found(s);
        word(s);
        bags(s);
    }

    /** Bytes of an image of six towns on day 0, without letters, its counts being these. */
    private static int[] counts(IntBinaryOperator held, IntBinaryOperator sent, IntBinaryOperator got) {
        int[] octets = new int[93];
        int at = 2;
        for (int town = 0; town < TOWNS; town++) {
            for (int other = 0; other < TOWNS; other++) {
                if (town != other) {
                    octets[at] = held.applyAsInt(town, other);
                    octets[at + 1] = sent.applyAsInt(town, other);
                    octets[at + 2] = got.applyAsInt(town, other);
                    at += 3;
                }
            }
        }
        return octets;
    }

    private static int[] held(IntBinaryOperator held) {
        return counts(held, (town, other) -> 0, (town, other) -> 0);
    }

    /** Of these two alone one stamp is held. */
    private static int[] heldOne(int town, int other) {
        return held((t, o) -> t == town && o == other ? 1 : 0);
    }

    /** No stamps, and one letter. */
    private static int[] letter(int from, int to, int left) {
        int[] octets = Arrays.copyOf(new int[93], 96);
        octets[92] = 1;
        octets[93] = from;
        octets[94] = to;
        octets[95] = left;
        return octets;
    }

    private static String two(int town, int other) {
        return " of " + town + " and " + other;
    }

    private static char name(int town) {
        return (char) ('a' + town);
    }

    private static void ways(Sentences s) {
        s.of(8, "The way from a TOWN to another one is as many DAYS as by the quickest CARTS.");
        for (int middle = 0; middle < TOWNS; middle++) {
            StringBuilder text = new StringBuilder(SIX);
            int[] days = new int[TOWNS];
            for (int town = 0; town < TOWNS; town++) {
                if (town != middle) {
                    days[town] = town + 1;
                    text.append("cart " + name(middle) + " to " + name(town) + " days " + days[town] + ";");
                }
            }
            ReplyStamps x = Check.of(text.toString());
            for (int town = 0; town < TOWNS; town++) {
                for (int other = 0; other < TOWNS; other++) {
                    int want = town == other ? NONE : days[town] + days[other];
                    s.due("by way of " + middle + two(town, other), x.pair(town, other, 3), want);
                }
            }
        }
    }

    private static void letters(Sentences s) {
        s.of(9, "Of the k-th LETTER under way (as they were written): 0 from, 1 to, 2 DAYS left.");
        for (int from = 0; from < TOWNS; from++) {
            for (int to = 0; to < TOWNS; to++) {
                for (int left = 1; from != to && left <= Math.abs(from - to); left++) {
                    ReplyStamps x = Check.at(CHAIN, letter(from, to, left));
                    s.due("from" + two(from, to), x.mail(0, 0), from);
                    s.due("to" + two(from, to), x.mail(0, 1), to);
                    s.due("days left" + two(from, to), x.mail(0, 2), left);
                    s.due("comes" + two(from, to), x.comes(from, to), left);
                }
            }
        }
    }

    private static void brought(Sentences s) {
        s.of(21, "the TOWN to which it is holds as many stamps more as are enclosed (encl), of the TOWN from which it is"
            + " (99 at most), and has got one more from it (99 at most).");
        for (int from = 0; from < TOWNS; from++) {
            for (int to = 0; to < TOWNS; to++) {
                if (from != to) {
                    ReplyStamps x = Check.at(CHAIN + "encl 2;writes not all;", letter(from, to, 1));
                    s.due("one comes" + two(from, to), x.days(1), 1);
                    s.due("held" + two(from, to), x.pair(to, from, 0), 2);
                    s.due("held by all" + two(from, to), x.has(3), 2);
                    s.due("got" + two(from, to), x.pair(to, from, 2), 1);
                    s.due("got by all" + two(from, to), x.has(6), 1);
                    s.due("kept, from" + two(from, to), x.kept(0, 1), from);
                    s.due("kept, to" + two(from, to), x.kept(0, 2), to);
                }
            }
        }
    }

    private static void images(Sentences s) {
        s.of(31, "all is as it tells,");
        int[] octets = counts((t, o) -> 10 * t + o, (t, o) -> 10 * o + t, (t, o) -> 99 - 10 * t - o);
        octets = Arrays.copyOf(octets, 93 + 3 * 60);
        octets[92] = 60;
        for (int i = 0; i < 60; i++) {
            int from = i % TOWNS;
            int to = (from + 1 + i / 12) % TOWNS;
            octets[93 + 3 * i] = from;
            octets[94 + 3 * i] = to;
            octets[95 + 3 * i] = Math.abs(from - to);
        }
        ReplyStamps x = Check.at(CHAIN, octets);
        s.due("the image is the same again", Arrays.equals(Check.image(x), Check.checked(octets)), true);
        for (int i = 0; i < 60; i++) {
            s.due("letter " + i + ": from", x.mail(i, 0), octets[93 + 3 * i]);
            s.due("letter " + i + ": to", x.mail(i, 1), octets[94 + 3 * i]);
        }
    }

    private static void written(Sentences s) {
        s.of(21, "It holds a stamp of it less, has sent one more to it (99 at most); the LETTER is under way for the DAYS of the"
            + " way.");
        for (int town = 0; town < TOWNS; town++) {
            for (int other = 0; other < TOWNS; other++) {
                if (town != other) {
                    ReplyStamps x = Check.at(CHAIN, heldOne(town, other));
                    for (int t = 0; t < TOWNS; t++) {
                        s.due("writes(" + t + ")" + two(town, other), x.writes(t), t == town ? other : NONE);
                    }
                    x.days(1);
                    s.due("held" + two(town, other), x.has(3), 0);
                    s.due("sent" + two(town, other), x.pair(town, other, 1), 1);
                    s.due("sent by all" + two(town, other), x.has(5), 1);
                    s.due("from" + two(town, other), x.mail(0, 0), town);
                    s.due("to" + two(town, other), x.mail(0, 1), other);
                    s.due("days left" + two(town, other), x.mail(0, 2), Math.abs(town - other));
                }
            }
        }
    }

    private static void liked(Sentences s) {
        s.of(10, "of which the SUM of likes is greatest (0 without), of like ones the first;");
        IntBinaryOperator held = (t, o) -> 1 + (17 * t + 29 * o) % 90;
        IntBinaryOperator sent = (t, o) -> (23 * t + 31 * o) % 97;
        IntBinaryOperator got = (t, o) -> (41 * t + 13 * o) % 97;
        IntBinaryOperator far = (t, o) -> Math.abs(t - o);
        String[] facts = {"held", "sent", "got", "far"};
        IntBinaryOperator[] values = {held, sent, got, far};
        for (int i = 0; i < facts.length; i++) {
            ReplyStamps most = Check.at(CHAIN + "likes " + facts[i] + ";", counts(held, sent, got));
            ReplyStamps least = Check.at(CHAIN + "likes 0-" + facts[i] + ";", counts(held, sent, got));
            ReplyStamps above = Check.at(CHAIN + "writes " + facts[i] + ">2;", counts(held, sent, got));
            for (int town = 0; town < TOWNS; town++) {
                s.due("most " + facts[i] + " of " + town, most.writes(town), greatest(town, values[i], 1));
                s.due("least " + facts[i] + " of " + town, least.writes(town), greatest(town, values[i], -1));
                s.due(facts[i] + " above 2 of " + town, above.writes(town), firstAbove(town, values[i], 2));
            }
        }
    }

    private static int greatest(int town, IntBinaryOperator value, int times) {
        int best = NONE;
        for (int other = TOWNS - 1; other >= 0; other--) {
            int liked = times * value.applyAsInt(town, other);
            if (other != town && (best == NONE || liked >= times * value.applyAsInt(town, best))) {
                best = other;
            }
        }
        return best;
    }

    private static int firstAbove(int town, IntBinaryOperator value, int bound) {
        for (int other = 0; other < TOWNS; other++) {
            if (other != town && value.applyAsInt(town, other) > bound) {
                return other;
            }
        }
        return NONE;
    }

    private static void gifts(Sentences s) {
        s.of(23, "A TOWN gives a stamp of another TOWN: true;");
        for (int row = 0; row < TOWNS * TOWNS * TOWNS; row++) {
            int town = row / 36;
            int other = row / 6 % 6;
            int to = row % 6;
            boolean can = town != other && town != to;
            ReplyStamps x = Check.at(SIX, held((t, o) -> 1));
            s.due("give(" + town + ", " + other + ", " + to + ")", x.give(town, other, to), can);
            int[] want = held((t, o) -> o != other || !can ? 1 : t == town ? 0 : t == to ? 2 : 1);
            s.due("held behind give(" + town + ", " + other + ", " + to + ")", isImage(x, want), true);
        }
    }

    private static boolean isImage(ReplyStamps x, int[] octets) {
        return Arrays.equals(Check.image(x), Check.checked(octets));
    }

    private static void found(Sentences s) {
        s.of(24, "A TOWN finds a stamp of another TOWN: true;");
        for (int pair = 0; pair < TOWNS * TOWNS; pair++) {
            int town = pair / TOWNS;
            int other = pair % TOWNS;
            ReplyStamps x = Check.at(SIX, held((t, o) -> 3));
            s.due("find" + two(town, other), x.find(town, other), town != other);
            s.due("held" + two(town, other), isImage(x, held((t, o) -> t == town && o == other ? 4 : 3)), true);
        }
        s.of(25, "A TOWN burns all stamps of another TOWN: how many;");
        for (int pair = 0; pair < TOWNS * TOWNS; pair++) {
            int town = pair / TOWNS;
            int other = pair % TOWNS;
            ReplyStamps x = Check.at(SIX, held((t, o) -> 3));
            s.due("burn" + two(town, other), x.burn(town, other), town != other ? 3 : NONE);
            s.due("held" + two(town, other), isImage(x, held((t, o) -> t == town && o == other ? 0 : 3)), true);
        }
    }

    private static void word(Sentences s) {
        s.of(14, "WORD goes from a TOWN to another one, if it holds a stamp of it and there is a way, and on from there"
            + " likewise.");
        for (int pair = 0; pair < TOWNS * TOWNS; pair++) {
            int town = pair / TOWNS;
            int other = pair % TOWNS;
            if (town != other) {
                ReplyStamps x = Check.at(CHAIN, heldOne(town, other));
                for (int t = 0; t < TOWNS; t++) {
                    s.due("word(" + t + ")" + two(town, other), x.word(t), 1 << t | (t == town ? 1 << other : 0));
                }
                s.due("cut: how many" + two(town, other), x.cut(town, other, NONE), 1);
                s.due("cut: the first" + two(town, other), x.cut(town, other, 0), pair);
                x.find(other, town);
                s.due("ring: how many" + two(town, other), x.ring(town, NONE), 2);
                s.due("ring: the second" + two(town, other), x.ring(town, 1), other);
            }
        }
        for (int last = 0; last < TOWNS; last++) {
            int open = last;
            // a ring of all six but for one stamp
            ReplyStamps x = Check.at(CHAIN, held((t, o) -> t != open && o == (t + 1) % TOWNS ? 1 : 0));
            s.due("wide: how many, without that of " + last, x.wide(NONE), 1);
            s.due("wide: the first, without that of " + last, x.wide(0), 6 * last + (last + 1) % TOWNS);
        }
    }

    private static void bags(Sentences s) {
        s.of(20, "TELLING (1; NONE without), how many are left by it at the most (2; NONE without).");
        for (int town = 0; town < TOWNS; town++) {
            ReplyStamps x = Check.at(SIX, held((t, o) -> o == (t + 1) % TOWNS ? t + 1 : 0));
            Check.put(x, Check.bytes((town + 1) % TOWNS, town + 1));
            s.due("bag() of " + town, x.bag(), 1);
            s.due("whose(0) of " + town, x.whose(0), 1 << town);
            s.due("whose(1) of " + town, x.whose(1), 0);
            s.due("whose(2) of " + town, x.whose(2), 1);
        }
        for (int by = 0; by < TOWNS; by++) {
            int told = by;
            // each holds another number of one town's stamps, and the same of all others
            ReplyStamps x = Check.at(SIX, held((t, o) -> o == told ? t + 2 : 0));
            s.due("telling is " + by, x.whose(1), by);
            s.due("one is left by " + by, x.whose(2), 1);
        }
    }
}
