import java.lang.reflect.Method;
import java.nio.charset.StandardCharsets;
import java.util.ArrayList;
import java.util.Arrays;
import java.util.Collections;
import java.util.HashMap;
import java.util.List;
import java.util.Map;
import java.util.Random;

/** All promises: the program and the model answer the same random calls, 512 at most on each object. */
public final class ModelTest {
    private static final int RUNS = 400;
    private static final int CALLS = 512;
    private static final String[] NAMES = {"a", "b", "ash", "bay", "cod", "sevena", "zz", "holt", "daysx", "tow"};
    private static final String[] PIECES = ("town cart to days holds of writes likes worth encl lost held far day sent got if"
        + " or and not all min max ; ( ) [ ] , < > = + - * / % 0 5 21 101 12345 abcdefg a ash A $ (((((((("
        + " encl12345 1abcdefg held1").split(" ");

    private final Random random;
    private final Map<String, Method> programs = new HashMap<>();
    private final Map<String, Method> models = new HashMap<>();
    private final Check check;
    private ReplyStamps program = new ReplyStamps();
    private Model model = new Model();
    private int left = CALLS;

    private ModelTest(Check check, long seed) {
        this.check = check;
        random = new Random(seed);
        for (Method method : ReplyStamps.class.getMethods()) {
            programs.put(method.getName(), method);
        }
        for (Method method : Model.class.getDeclaredMethods()) {
            models.put(method.getName(), method);
        }
    }

    public static void main(String[] args) throws ReflectiveOperationException {
        Check check = new Check();
        for (int run = 0; run < RUNS; run++) {
            new ModelTest(check, run).run(run % 4 == 0);
        }
        check.finish();
    }

    private void run(boolean faulty) throws ReflectiveOperationException {
        if (faulty) {
            while (left > 0) {
                tell(mutated(text(true)));
            }
            return;
        }
        tell(text(false));
        while (left > 0) {
            some();
            if (random.nextInt(200) == 0) {
                tell(random.nextInt(4) == 0 ? mutated(text(true)) : text(false));
            }
        }
    }

    private int ask(String name, Object... arguments) throws ReflectiveOperationException {
        if (left <= 0) {
            return 0;
        }
        left--;
        int got = number(programs.get(name).invoke(program, arguments));
        int want = number(models.get(name).invoke(model, arguments));
        check.due(name + Arrays.toString(arguments), got, want);
        return want;
    }

    private static int number(Object answer) {
        return answer instanceof Boolean is ? is ? 1 : 0 : (Integer) answer;
    }

    private void put(byte[] bytes) throws ReflectiveOperationException {
        ask("end", 0);
        for (int at = 0; at < bytes.length; at += 20) {
            Object[] numbers = new Object[5];
            for (int i = 0; i < 5; i++) {
                int number = 0;
                for (int j = at + 4 * i; j < at + 4 * i + 4; j++) {
                    number = number << 8 | (j < bytes.length ? bytes[j] & 255 : 0);
                }
                numbers[i] = number;
            }
            ask("feed", numbers);
        }
        ask("end", bytes.length);
    }

    private void tell(String text) throws ReflectiveOperationException {
        put(text.substring(0, Math.min(1600, text.length())).getBytes(StandardCharsets.ISO_8859_1));
        ask("union");
        ask("fault", 0);
        ask("fault", 1);
    }

    private int any(int... of) {
        return of[random.nextInt(of.length)];
    }

    private int extreme() {
        return any(Integer.MIN_VALUE, Integer.MAX_VALUE, -715827883, 715827882, 1 << 30, -(1 << 30));
    }

    private int town() {
        if (random.nextInt(100) == 0) {
            return extreme();
        }
        return random.nextInt(12) == 0 ? random.nextInt(9) - 1 : random.nextInt(Math.max(1, model.towned()));
    }

    private int what(int most) {
        return random.nextInt(50) == 0 ? extreme() : random.nextInt(most + 3) - 1;
    }

    private void some() throws ReflectiveOperationException {
        switch (random.nextInt(28)) {
            case 0 -> ask("has", what(10));
            case 1 -> ask("letter", town(), what(5));
            case 2 -> ask("pair", town(), town(), what(3));
            case 3 -> ask("mail", random.nextInt(model.mailNow() + 2) - 1, what(2));
            case 4 -> ask("writes", town());
            case 5 -> ask("later", town(), town(), any(0, 1, 2, 5, 20, 60, 61, -1), what(2));
            case 6 -> ask("comes", town(), town());
            case 7 -> ask("silent");
            case 8 -> ask("word", town());
            case 9 -> each("wide", -2, 4);
            case 10 -> each("cut", -2, 4, town(), town());
            case 11 -> each("ring", -2, 7, town());
            case 12 -> each("swap", -1, 6);
            case 13 -> bag();
            case 14 -> each("whose", -1, 4);
            case 15, 16, 17 -> ask("days", any(1, 1, 2, 3, 7, 20, random.nextInt(103) - 1));
            case 18, 19 -> ask("chance", any(1, 2, 5, 20, random.nextInt(103) - 1));
            case 20 -> ask("give", town(), town(), town());
            case 21 -> find();
            case 22 -> ask("burn", town(), town());
            case 23 -> ask("undo");
            case 24 -> ask("seed", any(-1, 0, 1, random.nextInt(), random.nextInt(Integer.MAX_VALUE)));
            case 25 -> ask("kept", any(-1, 0, 49, 50, Math.min(50, model.keptNow()) - 1, random.nextInt(50)), what(3));
            case 26 -> image();
            default -> ask("status", what(5));
        }
    }

    private void each(String name, int from, int to, int... ahead) throws ReflectiveOperationException {
        for (int k = from; k <= to; k++) {
            Object[] arguments = new Object[ahead.length + 1];
            for (int i = 0; i < ahead.length; i++) {
                arguments[i] = ahead[i];
            }
            arguments[ahead.length] = k;
            ask(name, arguments);
        }
    }

    private void find() throws ReflectiveOperationException {
        int town = town();
        int other = town();
        int times = random.nextInt(40) == 0 ? 100 : 1 + random.nextInt(3);
        for (int i = 0; i < times; i++) {
            ask("find", town, other);
        }
    }

    private void bag() throws ReflectiveOperationException {
        int rows = any(0, 1, 1, 2, 3, 16, 17);
        int whose = town();
        byte[] bytes = new byte[2 * rows + (random.nextInt(20) == 0 ? 1 : 0)];
        for (int i = 0; i + 1 < bytes.length; i += 2) {
            int of = town();
            bytes[i] = (byte) of;
            bytes[i + 1] = (byte) (random.nextInt(10) == 0 ? random.nextInt(256) : model.heldNow(whose, of));
        }
        put(bytes);
        ask("bag");
        each("whose", 0, 2);
    }

    private void image() throws ReflectiveOperationException {
        int length = ask("image");
        for (int i = 0; i < 4; i++) {
            ask("octet", random.nextInt(length + 2) - 1);
        }
        if (random.nextInt(3) == 0 && left > 0) {
            put(changed(model.imageNow()));
            ask("on");
        }
    }

    /** The image itself, one changed with its check byte right again, or one changed somewhere. */
    private byte[] changed(byte[] image) {
        byte[] bytes = image.clone();
        int towns = model.towned();
        int lettersAt = 2 + 3 * towns * (towns - 1);
        int[] octets = new int[bytes.length - 1];
        for (int i = 0; i < octets.length; i++) {
            octets[i] = bytes[i] & 255;
        }
        switch (random.nextInt(8)) {
            case 0, 1 -> {
                int day = any(900, 939, 940, 990, 995, 998, 999, 1000);
                octets[0] = day / 256;
                octets[1] = day % 256;
            }
            case 2 -> octets[random.nextInt(octets.length)] = any(0, 1, 2, 98, 99, 100, 255);
            case 3, 4 -> {
                for (int i = 2; i < lettersAt; i++) {
                    octets[i] = any(octets[i], octets[i], random.nextInt(4), random.nextInt(100), 98 + random.nextInt(2));
                }
            }
            case 5 -> octets = withLetters(octets, lettersAt);
            case 6 -> {
                bytes[random.nextInt(bytes.length)] ^= (byte) (1 << random.nextInt(8));
                return bytes;
            }
            default -> {
                return bytes;
            }
        }
        return Check.checked(octets);
    }

    private int[] withLetters(int[] octets, int lettersAt) {
        int more = Math.max(0, any(1, 3, 58, 60, 61) - octets[lettersAt]);
        List<Integer> all = new ArrayList<>();
        for (int octet : octets) {
            all.add(octet);
        }
        int added = 0;
        for (int i = 0; i < 500 && added < more; i++) {
            int from = town();
            int to = town();
            int way = model.wayNow(from, to);
            if (way > 0 || random.nextInt(1000) == 0) {
                int fine = 1 + random.nextInt(Math.max(1, way));
                all.addAll(List.of(from & 255, to & 255, random.nextInt(300) == 0 ? any(0, way + 1) : fine));
                added++;
            }
        }
        all.set(lettersAt, octets[lettersAt] + added);
        return all.stream().mapToInt(Integer::intValue).toArray();
    }

    // texts

    private String text(boolean over) {
        List<String> names = new ArrayList<>(List.of(NAMES));
        Collections.shuffle(names, random);
        int towns = over ? random.nextInt(8) : any(1, 2, 3, 4, 4, 5, 5, 6, 6, 6, 6);
        List<String> all = new ArrayList<>();
        for (int i = 0; i < towns; i++) {
            all.add("town " + names.get(i));
        }
        carts(all, names.subList(0, towns), random.nextInt(over ? 15 : 13));
        int holds = random.nextInt(any(3, 8, 20, 35));
        for (int i = 0; i < holds && towns > 1; i++) {
            int town = random.nextInt(towns);
            int other = (town + 1 + random.nextInt(towns - 1)) % towns;
            all.add("holds " + names.get(town) + " of " + names.get(other) + " " + any(0, 1, 1, 1, 2, 3, 5, 20));
        }
        for (String rule : new String[] {"writes " + test(any(0, 1, 2, 3), false), "likes " + sum(any(0, 1, 2, 4), false),
            "worth " + sum(any(0, 1, 2, 4), true), "encl " + random.nextInt(4), "lost " + any(0, 10, 50, 90, 100)}) {
            if (random.nextBoolean()) {
                all.add(random.nextInt(all.size() + 1), rule);
            }
        }
        while (over && towns == 7 && all.size() < any(79, 80, 81, 82)) {
            all.add("encl 1");
        }
        StringBuilder text = new StringBuilder();
        for (String statement : all) {
            text.append(statement).append(';').append(new String[] {"", "", " ", "\n"}[random.nextInt(4)]);
        }
        return text.toString();
    }

    private void carts(List<String> all, List<String> names, int many) {
        List<String> carts = new ArrayList<>();
        for (int i = 0; i < names.size(); i++) {
            for (int j = 0; j < i; j++) {
                boolean turned = random.nextBoolean();
                carts.add("cart " + names.get(turned ? i : j) + " to " + names.get(turned ? j : i)
                    + " days " + (1 + random.nextInt(9)));
            }
        }
        Collections.shuffle(carts, random);
        all.addAll(carts.subList(0, Math.min(many, carts.size())));
    }

    private String sum(int deep, boolean worth) {
        if (deep <= 0 || random.nextInt(3) == 0) {
            String[] facts = {"held", "far", "day", "" + any(0, 1, 2, 3, 5, 10, 99, 1000, 9999), "sent", "got"};
            return facts[random.nextInt(worth ? 4 : 6)];
        }
        String a = sum(deep - 1, worth);
        String b = sum(deep - 1, worth);
        return switch (random.nextInt(9)) {
            case 0, 1, 2, 3 -> a + "+-*/%".charAt(random.nextInt(5)) + b;
            case 4, 5 -> "(" + a + ")";
            case 6 -> "min(" + a + "," + b + ")";
            case 7 -> "max(" + a + "," + b + ")";
            default -> "if(" + test(deep - 1, worth) + "," + a + "," + b + ")";
        };
    }

    private String test(int deep, boolean worth) {
        if (deep <= 0) {
            return sum(0, worth) + "<>=".charAt(random.nextInt(3)) + sum(1, worth);
        }
        return switch (random.nextInt(8)) {
            case 0, 1 -> test(deep - 1, worth) + " and " + test(deep - 1, worth);
            case 2, 3 -> test(deep - 1, worth) + " or " + test(deep - 1, worth);
            case 4 -> "not " + test(deep - 1, worth);
            case 5 -> "[" + test(deep - 1, worth) + "]";
            case 6 -> "all";
            default -> sum(deep, worth) + "<>=".charAt(random.nextInt(3)) + sum(deep, worth);
        };
    }

    private String mutated(String text) {
        String so = text;
        for (int n = any(0, 1, 1, 1, 2, 3); n > 0; n--) {
            int at = random.nextInt(so.length() + 1);
            int to = random.nextInt(so.length() + 1);
            String piece = PIECES[random.nextInt(PIECES.length)];
            so = switch (random.nextInt(6)) {
                case 0 -> so.substring(0, at);
                case 1 -> so.substring(0, at) + piece + so.substring(at);
                case 2 -> so.substring(0, at) + so.substring(Math.min(so.length(), at + 1));
                case 3 -> so.substring(0, at) + " " + piece + " " + so.substring(at);
                case 4 -> so.substring(0, at) + so.substring(Math.min(at, to), Math.max(at, to)) + so.substring(at);
                default -> replaced(so, at, piece);
            };
        }
        return so;
    }

    /** The word or number at this place is another one. */
    private static String replaced(String text, int place, String piece) {
        int from = place;
        int to = place;
        while (from > 0 && Character.isLetterOrDigit(text.charAt(from - 1))) {
            from--;
        }
        while (to < text.length() && Character.isLetterOrDigit(text.charAt(to))) {
            to++;
        }
        return text.substring(0, from) + piece + text.substring(to);
    }
}
