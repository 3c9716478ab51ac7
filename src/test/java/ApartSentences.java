import java.util.ArrayList;
import java.util.List;
import java.util.function.Consumer;

/** What is on the tape or in an image, which fault there was, how much can be undone: the other answers are the same. */
final class ApartSentences {
    private static final String TEXT = "town a;town b;cart a to b days 2;town c;";
    /** On day 4 a and b hold stamps of each other, c holds some of a, none holds any of c; three letters are under way. */
    private static final int[] OCTETS = {0, 4, 2, 1, 1, 0, 0, 0, 1, 1, 1, 0, 0, 0, 3, 0, 0, 0, 0, 0, 3, 0, 1, 1, 1, 0, 2, 0, 1, 2};

    private ApartSentences() {
    }

    static void all(Sentences s) {
        s.of(2, "Twenty bytes come behind those on the tape,");
        same(s, "with 20 bytes on the tape", x -> fill(x, 1));
        same(s, "with 60 bytes on the tape", x -> fill(x, 3));
        same(s, "with 1600 bytes on the tape", x -> fill(x, 80));
        s.of(4, "NONE, refused (1), with a FAULT (all stays).");
        same(s, "behind a fault at 0", x -> Check.union(x, "$"));
        same(s, "behind a fault at 1592", x -> Check.union(x, "likes 1;" + " ".repeat(1584) + "likes 1;"));
        s.of(29, "AN IMAGE is written: how many bytes.");
        same(s, "behind an image", ReplyStamps::image);
        s.of(19, "The tape (it goes) tells a BAG,");
        same(s, "with a row 16 times", x -> bag(x, 16, 1, 2));
        s.of(27, "The seed: true;");
        same(s, "with another seed", x -> x.seed(Integer.MAX_VALUE));
        s.of(26, "The last 20 can be undone.");
        same(s, "with 20 acts that can be undone", x -> {
            for (int n = 0; n < 10; n++) {
                x.find(2, 1);
                x.burn(2, 1);
            }
        });
    }

    private static void same(Sentences s, String name, Consumer<ReplyStamps> change) {
        ReplyStamps before = Check.at(TEXT, OCTETS);
        bag(before, 1, 1, 2);
        ReplyStamps behind = Check.at(TEXT, OCTETS);
        bag(behind, 1, 1, 2);
        change.accept(behind);
        List<String> want = answers(before);
        List<String> got = answers(behind);
        for (int i = 0; i < want.size(); i++) {
            s.due(name + ": " + got.get(i) + " is " + want.get(i), got.get(i).equals(want.get(i)), true);
        }
    }

    /** So many rows of this town and this number; 2 of b fit a alone, 2 of a do not. */
    private static void bag(ReplyStamps x, int rows, int town, int stamps) {
        int[] octets = new int[2 * rows];
        for (int i = 0; i < octets.length; i += 2) {
            octets[i] = town;
            octets[i + 1] = stamps;
        }
        Check.put(x, Check.bytes(octets));
        x.bag();
    }

    private static void fill(ReplyStamps x, int feeds) {
        for (int n = 0; n < feeds; n++) {
            x.feed(0x01010101, 0x02020202, 0x03030303, 0x04040404, 0x05050505);
        }
    }

    /** Of all that asks about three towns, then of some acts; nothing is asked of what the changes are about. */
    private static List<String> answers(ReplyStamps x) {
        List<String> all = new ArrayList<>();
        for (int what = 0; what < 8; what++) {
            all.add("has(" + what + ") " + x.has(what));
        }
        for (int town = 0; town < 3; town++) {
            for (int other = 0; other < 3; other++) {
                ofTwo(all, x, town, other);
            }
            all.add("letter " + x.letter(town, 0) + " " + x.letter(town, 1));
            all.add("writes " + x.writes(town) + ", word " + x.word(town));
            all.add("ring " + x.ring(town, -1) + " " + x.ring(town, 0) + " " + x.ring(town, 1) + " " + x.ring(town, 2));
        }
        for (int k = 0; k < 4; k++) {
            all.add("mail " + x.mail(k, 0) + " " + x.mail(k, 1) + " " + x.mail(k, 2));
        }
        all.add("silent " + x.silent() + ", wide " + x.wide(-1) + ", swap " + x.swap(0));
        all.add("whose " + x.whose(0) + " " + x.whose(1) + " " + x.whose(2));
        image(all, x);
        int refused = x.status(3);
        all.add("give " + x.give(0, 0, 0) + ", refused " + (x.status(3) - refused));
        acts(all, x);
        bag(x, 1, 0, 2);
        all.add("whose " + x.whose(0) + " " + x.whose(1) + " " + x.whose(2));
        return all;
    }

    private static void ofTwo(List<String> all, ReplyStamps x, int town, int other) {
        for (int what = 0; what < 4; what++) {
            all.add("pair " + x.pair(town, other, what));
        }
        all.add("later " + x.later(town, other, 9, 0) + ", comes " + x.comes(town, other));
        all.add("cut " + x.cut(town, other, -1) + " " + x.cut(town, other, 0));
    }

    private static void acts(List<String> all, ReplyStamps x) {
        all.add("find " + x.find(1, 2) + ", give " + x.give(1, 2, 0) + x.give(2, 0, 1) + ", burn " + x.burn(2, 0));
        image(all, x);
        all.add("days " + x.days(5));
        for (int k = 0; k < 9; k++) {
            all.add("kept " + x.kept(k, 0) + " " + x.kept(k, 1) + " " + x.kept(k, 2) + " " + x.kept(k, 3));
        }
        all.add("undo " + x.undo() + x.undo());
        image(all, x);
    }

    private static void image(List<String> all, ReplyStamps x) {
        for (byte octet : Check.image(x)) {
            all.add("octet " + octet);
        }
    }
}
