import java.util.ArrayList;
import java.util.Arrays;
import java.util.Collections;
import java.util.HashSet;
import java.util.List;
import java.util.Set;
import java.util.function.Predicate;

/**
 * The document once more, written for plainness and nothing else: rules are trees of functions, the past is copies of
 * all, what is fewest is sought among all rows. ModelTest lets it and the program answer the same random calls.
 */
final class Model {
    private static final int NONE = -1;

    private byte[] tape = new byte[0];
    private ModelText union = new ModelText(new byte[0]);
    private int[][] way = new int[0][0];
    private int fault = 0;
    private int place = NONE;
    private long seed = 1;
    private byte[] image = new byte[0];
    private List<int[]> bag = new ArrayList<>();
    private final int[] refused = new int[6];
    private List<Now> past = new ArrayList<>();
    private Now now = new Now(0);

    /** All that an act changes. */
    private static final class Now {
        private int day = 0;
        private final int[][] held;
        private final int[][] sent;
        private final int[][] got;
        private final List<int[]> mail = new ArrayList<>();
        private final List<int[]> kept = new ArrayList<>();

        private Now(int towns) {
            held = new int[towns][towns];
            sent = new int[towns][towns];
            got = new int[towns][towns];
        }

        private Now copy() {
            Now copy = new Now(held.length);
            copy.day = day;
            for (int t = 0; t < held.length; t++) {
                copy.held[t] = held[t].clone();
                copy.sent[t] = sent[t].clone();
                copy.got[t] = got[t].clone();
            }
            for (int[] letter : mail) {
                copy.mail.add(letter.clone());
            }
            copy.kept.addAll(kept);
            return copy;
        }
    }

    private int towns() {
        return union.names.size();
    }

    private boolean is(int town) {
        return town >= 0 && town < towns();
    }

    private boolean are(int town, int other) {
        return is(town) && is(other) && town != other;
    }

    private int no(int kind) {
        refused[kind]++;
        return NONE;
    }

    private boolean not(int kind) {
        refused[kind]++;
        return false;
    }

    int towned() {
        return towns();
    }

    int keptNow() {
        return now.kept.size();
    }

    int mailNow() {
        return now.mail.size();
    }

    int heldNow(int town, int other) {
        return are(town, other) ? now.held[town][other] : 0;
    }

    int wayNow(int town, int other) {
        return are(town, other) ? way[town][other] : 0;
    }

    byte[] imageNow() {
        return image.clone();
    }

    public int feed(int a, int b, int c, int d, int e) {
        if (tape.length + 20 > 1600) {
            return no(0);
        }
        int at = tape.length;
        tape = Arrays.copyOf(tape, at + 20);
        int[] numbers = {a, b, c, d, e};
        for (int i = 0; i < 20; i++) {
            tape[at + i] = (byte) (numbers[i / 4] >>> 8 * (3 - i % 4));
        }
        return tape.length;
    }

    public boolean end(int n) {
        if (n < 0 || n > tape.length) {
            return not(0);
        }
        tape = Arrays.copyOf(tape, n);
        return true;
    }

    private byte[] takeTape() {
        byte[] taken = tape;
        tape = new byte[0];
        return taken;
    }

    public int union() {
        ModelText text = new ModelText(takeTape());
        text.read();
        fault = text.fault;
        place = text.place;
        if (fault != 0) {
            return no(1);
        }
        union = text;
        past.clear();
        bag.clear();
        now = new Now(towns());
        way = new int[towns()][towns()];
        for (int a = 0; a < towns(); a++) {
            for (int b = 0; b < towns(); b++) {
                now.held[a][b] = text.holds[a][b];
                way[a][b] = quickest(a, b, new HashSet<>());
            }
        }
        return text.statements;
    }

    /** By trying every way on which no town is twice. */
    private int quickest(int from, int to, Set<Integer> been) {
        int best = 0;
        been.add(from);
        for (int by = 0; by < towns(); by++) {
            int days = union.carts[from][by];
            if (days > 0 && !been.contains(by)) {
                int on = by == to ? 0 : quickest(by, to, been);
                if ((by == to || on > 0) && (best == 0 || days + on < best)) {
                    best = days + on;
                }
            }
        }
        been.remove(from);
        return best;
    }

    public int fault(int what) {
        return what == 0 ? fault : what == 1 ? place : NONE;
    }

    private static int sum(int[][] rows) {
        int sum = 0;
        for (int[] row : rows) {
            sum += Arrays.stream(row).sum();
        }
        return sum;
    }

    public int has(int what) {
        long[] all = {towns(), union.cartsTold, now.day, sum(now.held), now.mail.size(),
            sum(now.sent), sum(now.got), Math.min(50, now.kept.size()), bag.size(), past.size(), seed};
        return what >= 0 && what < all.length ? (int) all[what] : NONE;
    }

    public int letter(int town, int k) {
        if (!is(town) || k < 0 || k > 5) {
            return NONE;
        }
        String name = union.names.get(town);
        return k < name.length() ? name.charAt(k) - 'a' + 1 : 0;
    }

    private static int told(Now at, int town, int other, int what) {
        return what == 0 ? at.held[town][other] : what == 1 ? at.sent[town][other] : what == 2 ? at.got[town][other] : NONE;
    }

    public int pair(int town, int other, int what) {
        if (!are(town, other)) {
            return NONE;
        }
        return what == 3 ? way[town][other] > 0 ? way[town][other] : NONE : told(now, town, other, what);
    }

    public int mail(int k, int what) {
        return k >= 0 && k < now.mail.size() && what >= 0 && what < 3 ? now.mail.get(k)[what] : NONE;
    }

    private long[] facts(Now at, int town, int other, int held) {
        int far = way[town][other] > 0 ? way[town][other] : 99;
        return new long[] {held, far, at.day, at.sent[town][other], at.got[town][other]};
    }

    private int target(Now at, int town) {
        int best = NONE;
        long most = Long.MIN_VALUE;
        for (int other = 0; other < towns() && at.mail.size() < 60; other++) {
            if (way[town][other] > 0 && at.held[town][other] > 0) {
                long[] facts = facts(at, town, other, at.held[town][other]);
                boolean can = union.writes == null || union.writes.of(facts) != 0;
                long liked = union.likes == null ? 0 : union.likes.of(facts);
                if (can && liked > most) {
                    best = other;
                    most = liked;
                }
            }
        }
        return best;
    }

    public int writes(int town) {
        return is(town) ? target(now, town) : NONE;
    }

    /** What came or was lost on this day. */
    private List<int[]> pass(Now at, boolean bySeed) {
        List<int[]> ended = new ArrayList<>();
        for (int[] letter : at.mail) {
            letter[2]--;
            if (letter[2] == 0) {
                boolean lost = false;
                if (bySeed) {
                    seed = (1103515245L * seed + 12345) % (1L << 31);
                    lost = seed / 64 % 100 < union.lost;
                }
                int from = letter[0];
                int to = letter[1];
                ended.add(new int[] {at.day, from, to, lost ? 1 : 0});
                if (!lost) {
                    at.held[to][from] = Math.min(99, at.held[to][from] + union.encl);
                    at.got[to][from] = Math.min(99, at.got[to][from] + 1);
                }
            }
        }
        at.kept.addAll(ended);
        at.mail.removeIf(letter -> letter[2] == 0);
        for (int town = 0; town < towns(); town++) {
            int to = target(at, town);
            if (to != NONE) {
                at.held[town][to]--;
                at.sent[town][to] = Math.min(99, at.sent[town][to] + 1);
                at.mail.add(new int[] {town, to, way[town][to]});
            }
        }
        at.day = Math.min(999, at.day + 1);
        return ended;
    }

    private int ahead() {
        return Math.min(60, 999 - now.day);
    }

    public int later(int town, int other, int n, int what) {
        if (!are(town, other) || n < 0 || n > ahead()) {
            return NONE;
        }
        Now then = now.copy();
        for (int i = 0; i < n; i++) {
            pass(then, false);
        }
        return told(then, town, other, what);
    }

    public int comes(int from, int to) {
        Now then = now.copy();
        for (int n = 1; are(from, to) && n <= ahead(); n++) {
            for (int[] ended : pass(then, false)) {
                if (ended[1] == from && ended[2] == to) {
                    return n;
                }
            }
        }
        return NONE;
    }

    public int silent() {
        Now then = now.copy();
        for (int n = 0; n <= ahead(); n++) {
            boolean quiet = then.mail.isEmpty();
            for (int town = 0; town < towns(); town++) {
                quiet &= target(then, town) == NONE;
            }
            if (quiet) {
                return n;
            }
            pass(then, false);
        }
        return NONE;
    }

    /** Pairs by which word goes: 6 times the town and the other one. */
    private Set<Integer> roads() {
        Set<Integer> roads = new HashSet<>();
        for (int a = 0; a < towns(); a++) {
            for (int b = 0; b < towns(); b++) {
                if (way[a][b] > 0 && now.held[a][b] > 0) {
                    roads.add(6 * a + b);
                }
            }
        }
        return roads;
    }

    private Set<Integer> reached(Set<Integer> roads, int town) {
        Set<Integer> reached = new HashSet<>(List.of(town));
        for (int round = 0; round < 6; round++) {
            for (int road : roads) {
                if (reached.contains(road / 6)) {
                    reached.add(road % 6);
                }
            }
        }
        return reached;
    }

    public int word(int town) {
        int bits = 0;
        for (int t = 0; is(town) && t < towns(); t++) {
            bits |= reached(roads(), town).contains(t) ? 1 << t : 0;
        }
        return is(town) ? bits : NONE;
    }

    /** The first row of so many of these that is as wanted, or null. */
    private static List<Integer> row(List<Integer> from, int many, List<Integer> so, Predicate<List<Integer>> wanted) {
        if (many == 0) {
            return wanted.test(so) ? new ArrayList<>(so) : null;
        }
        for (int i = 0; i < from.size(); i++) {
            List<Integer> more = new ArrayList<>(so);
            more.add(from.get(i));
            List<Integer> found = row(from.subList(i + 1, from.size()), many - 1, more, wanted);
            if (found != null) {
                return found;
            }
        }
        return null;
    }

    private static int fewest(Set<Integer> from, int k, Predicate<List<Integer>> wanted) {
        List<Integer> sorted = new ArrayList<>(from);
        Collections.sort(sorted);
        for (int many = 0; many <= 3; many++) {
            List<Integer> found = row(sorted, many, new ArrayList<>(), wanted);
            if (found != null) {
                return k == NONE ? many : k >= 0 && k < many ? found.get(k) : NONE;
            }
        }
        return NONE;
    }

    public int wide(int k) {
        Set<Integer> offered = new HashSet<>();
        for (int a = 0; a < towns(); a++) {
            for (int b = 0; b < towns(); b++) {
                if (way[a][b] > 0 && now.held[a][b] == 0) {
                    offered.add(6 * a + b);
                }
            }
        }
        return fewest(offered, k, given -> {
            Set<Integer> roads = roads();
            roads.addAll(given);
            for (int town = 0; town < towns(); town++) {
                if (reached(roads, town).size() < towns()) {
                    return false;
                }
            }
            return true;
        });
    }

    public int cut(int from, int to, int k) {
        if (!are(from, to)) {
            return NONE;
        }
        return fewest(roads(), k, taken -> {
            Set<Integer> roads = roads();
            roads.removeAll(taken);
            return !reached(roads, from).contains(to);
        });
    }

    /** The first row of so many towns that goes on from these and back to the first, or null. */
    private List<Integer> ringOn(List<Integer> so, int many) {
        Set<Integer> roads = roads();
        int last = so.get(so.size() - 1);
        if (so.size() == many) {
            return roads.contains(6 * last + so.get(0)) ? so : null;
        }
        for (int next = 0; next < towns(); next++) {
            if (!so.contains(next) && roads.contains(6 * last + next)) {
                List<Integer> more = new ArrayList<>(so);
                more.add(next);
                List<Integer> found = ringOn(more, many);
                if (found != null) {
                    return found;
                }
            }
        }
        return null;
    }

    public int ring(int town, int k) {
        for (int many = 2; is(town) && many <= towns(); many++) {
            List<Integer> found = ringOn(List.of(town), many);
            if (found != null) {
                return k == NONE ? many : k >= 0 && k < many ? found.get(k) : NONE;
            }
        }
        return NONE;
    }

    private long worth(Now at, int town) {
        long worth = 0;
        for (int other = 0; other < towns(); other++) {
            if (other != town) {
                int held = at.held[town][other];
                worth += held * (union.worth == null ? 1 : union.worth.of(facts(at, town, other, held)));
            }
        }
        return worth;
    }

    public int swap(int what) {
        int[] best = {NONE, NONE, NONE, NONE, 0};
        for (int row = 0; row < 6 * 6 * 6 * 6; row++) {
            int a = row / 216;
            int b = row / 36 % 6;
            int c = row / 6 % 6;
            int d = row % 6;
            boolean there = is(a) && is(b) && is(c) && is(d) && a < b;
            if (!there || c == a || c == b || d == a || d == b || c == d) {
                continue;
            }
            if (now.held[a][c] > 0 && now.held[b][d] > 0 && now.held[b][c] < 99 && now.held[a][d] < 99) {
                Now then = now.copy();
                then.held[a][c]--;
                then.held[b][c]++;
                then.held[b][d]--;
                then.held[a][d]++;
                long more = worth(then, a) + worth(then, b) - worth(now, a) - worth(now, b);
                if (more > best[4]) {
                    best = new int[] {a, b, c, d, (int) more};
                }
            }
        }
        return what >= 0 && what < 5 && best[4] > 0 ? best[what] : NONE;
    }

    public int bag() {
        byte[] bytes = takeTape();
        List<int[]> rows = new ArrayList<>();
        boolean fine = bytes.length % 2 == 0 && bytes.length >= 2 && bytes.length <= 32;
        for (int i = 0; fine && i < bytes.length; i += 2) {
            rows.add(new int[] {bytes[i] & 255, bytes[i + 1] & 255});
            fine = is(bytes[i] & 255);
        }
        if (!fine) {
            return no(5);
        }
        bag = rows;
        return rows.size();
    }

    public int whose(int what) {
        List<Integer> fitting = new ArrayList<>();
        int bits = 0;
        for (int town = 0; town < towns(); town++) {
            boolean fits = true;
            for (int[] row : bag) {
                fits &= now.held[town][row[0]] == row[1];
            }
            if (fits) {
                fitting.add(town);
                bits |= 1 << town;
            }
        }
        int telling = NONE;
        int fewest = NONE;
        for (int by = 0; by < towns() && bits != 0; by++) {
            int most = 0;
            for (int number = 0; number <= 99; number++) {
                int left = 0;
                for (int town : fitting) {
                    left += now.held[town][by] == number ? 1 : 0;
                }
                most = Math.max(most, left);
            }
            if (telling == NONE || most < fewest) {
                telling = by;
                fewest = most;
            }
        }
        return what == 0 ? bits : what == 1 ? telling : what == 2 ? fewest : NONE;
    }

    private void act() {
        past.add(now.copy());
        if (past.size() > 20) {
            past.remove(0);
        }
    }

    private int go(int n, boolean bySeed) {
        if (n < 1 || n > 100 || now.day + n > 999) {
            return no(2);
        }
        act();
        int counted = 0;
        for (int i = 0; i < n; i++) {
            for (int[] ended : pass(now, bySeed)) {
                counted += bySeed ? ended[3] : 1;
            }
        }
        return counted;
    }

    public int days(int n) {
        return go(n, false);
    }

    public int chance(int n) {
        return go(n, true);
    }

    public boolean give(int town, int other, int to) {
        if (!are(town, other) || !are(town, to) || now.held[town][other] == 0) {
            return not(3);
        }
        if (to != other && now.held[to][other] == 99) {
            return not(3);
        }
        act();
        now.held[town][other]--;
        now.held[to][other] += to == other ? 0 : 1;
        return true;
    }

    public boolean find(int town, int other) {
        if (!are(town, other) || now.held[town][other] == 99) {
            return not(3);
        }
        act();
        now.held[town][other]++;
        return true;
    }

    public int burn(int town, int other) {
        if (!are(town, other) || now.held[town][other] == 0) {
            return no(3);
        }
        act();
        int burnt = now.held[town][other];
        now.held[town][other] = 0;
        return burnt;
    }

    public boolean undo() {
        if (past.isEmpty()) {
            return not(4);
        }
        now = past.remove(past.size() - 1);
        return true;
    }

    public boolean seed(int to) {
        if (to < 0) {
            return not(5);
        }
        seed = to;
        return true;
    }

    public int kept(int k, int what) {
        int ahead = Math.max(0, now.kept.size() - 50);
        return k >= 0 && k < now.kept.size() - ahead && what >= 0 && what < 4 ? now.kept.get(ahead + k)[what] : NONE;
    }

    public int image() {
        List<Integer> octets = new ArrayList<>(List.of(now.day / 256, now.day % 256));
        for (int town = 0; town < towns(); town++) {
            for (int other = 0; other < towns(); other++) {
                if (town != other) {
                    octets.addAll(List.of(now.held[town][other], now.sent[town][other], now.got[town][other]));
                }
            }
        }
        octets.add(now.mail.size());
        for (int[] letter : now.mail) {
            octets.addAll(List.of(letter[0], letter[1], letter[2]));
        }
        image = Check.checked(octets.stream().mapToInt(Integer::intValue).toArray());
        return image.length;
    }

    public int octet(int k) {
        return k >= 0 && k < image.length ? image[k] & 255 : NONE;
    }

    public boolean on() {
        Now then = new Now(towns());
        if (!isImage(takeTape(), then)) {
            return not(5);
        }
        now = then;
        past.clear();
        return true;
    }

    private boolean isImage(byte[] bytes, Now then) {
        int[] octets = new int[Math.max(0, bytes.length - 1)];
        for (int i = 0; i < octets.length; i++) {
            octets[i] = bytes[i] & 255;
        }
        int pairs = towns() * (towns() - 1);
        if (octets.length < 3 + 3 * pairs || !Arrays.equals(bytes, Check.checked(octets))) {
            return false;
        }
        then.day = octets[0] * 256 + octets[1];
        int at = 2;
        for (int town = 0; town < towns(); town++) {
            for (int other = 0; other < towns(); other++) {
                if (town != other) {
                    then.held[town][other] = octets[at++];
                    then.sent[town][other] = octets[at++];
                    then.got[town][other] = octets[at++];
                }
            }
        }
        for (int i = 2; i < at; i++) {
            if (octets[i] > 99) {
                return false;
            }
        }
        int letters = octets[at++];
        if (then.day > 999 || letters > 60 || octets.length != at + 3 * letters) {
            return false;
        }
        for (; at < octets.length; at += 3) {
            boolean there = are(octets[at], octets[at + 1]);
            if (!there || octets[at + 2] < 1 || octets[at + 2] > way[octets[at]][octets[at + 1]]) {
                return false;
            }
            then.mail.add(new int[] {octets[at], octets[at + 1], octets[at + 2]});
        }
        return true;
    }

    public int status(int what) {
        return what >= 0 && what < 6 ? refused[what] : NONE;
    }
}
