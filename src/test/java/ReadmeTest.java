import java.io.IOException;
import java.lang.reflect.Method;
import java.lang.reflect.Modifier;
import java.nio.file.Files;
import java.nio.file.Path;
import java.util.ArrayList;
import java.util.List;
import java.util.regex.Matcher;
import java.util.regex.Pattern;

/** The example of README.md: it stands here line by line, and its calls answer what README.md says behind them. */
public final class ReadmeTest {
    private static final Path README = Path.of("README.md");
    private static final Path SELF = Path.of("src/test/java/ReadmeTest.java");

    public static void main(String[] args) throws IOException {
        Check check = new Check();
        List<String> lines = example();
        check.due("lines of the example", Math.min(1, lines.size()), 1);
        stands(check, lines);
        answers(check, lines);
        calls(check);
        check.finish();
    }

    private static List<String> example() throws IOException {
        String readme = Files.readString(README);
        int start = readme.indexOf("```java\n") + "```java\n".length();
        return readme.substring(start, readme.indexOf("```", start)).lines().toList();
    }

    private static String code(String line) {
        return line.replaceFirst(" *//.*", "").strip();
    }

    /** The lines stand in this file, in one piece. */
    private static void stands(Check check, List<String> lines) throws IOException {
        StringBuilder want = new StringBuilder();
        for (String line : lines) {
            want.append(code(line)).append('\n');
        }
        StringBuilder all = new StringBuilder();
        for (String line : Files.readAllLines(SELF)) {
            all.append(code(line)).append('\n');
        }
        check.due("the example stands here", all.indexOf(want.toString()) >= 0, true);
    }

    private static void answers(Check check, List<String> lines) {
        ReplyStamps x = new ReplyStamps();
        String text = "town a; town b; cart a to b days 2; holds a of b 3;";
        for (int at = 0; at < text.length(); at += 20) {
            int[] five = new int[5];
            for (int i = 0; i < 20; i++) {
                int octet = at + i < text.length() ? text.charAt(at + i) : 0;
                five[i / 4] = five[i / 4] << 8 | octet;
            }
            x.feed(five[0], five[1], five[2], five[3], five[4]);
        }
        boolean cut = x.end(text.length());
        int statements = x.union();
        int to = x.writes(0);
        int day = x.comes(0, 1);
        int held = x.later(1, 0, 3, 0);
        int came = x.days(3);
        int wrote = x.pair(1, 0, 1);
        boolean back = x.undo();
        int refused = x.days(101);
        int counted = x.status(2);
        Object[] answered = {cut, statements, to, day, held, came, wrote, back, refused, counted};
        List<String> said = said(lines);
        check.due("answers that README.md says", said.size(), answered.length);
        for (int i = 0; i < Math.min(said.size(), answered.length); i++) {
            check.due("answer " + i + ", " + answered[i] + ", is " + said.get(i), said.get(i).equals("" + answered[i]), true);
        }
    }

    /** What stands first behind each // of the example. */
    private static List<String> said(List<String> lines) {
        List<String> said = new ArrayList<>();
        for (String line : lines) {
            Matcher matcher = Pattern.compile("// (-?\\w+)").matcher(line);
            if (matcher.find()) {
                said.add(matcher.group(1));
            }
        }
        return said;
    }

    /** Each call of the face is named in the table of calls. */
    private static void calls(Check check) throws IOException {
        String readme = Files.readString(README);
        for (Method method : ReplyStamps.class.getDeclaredMethods()) {
            if (Modifier.isPublic(method.getModifiers())) {
                check.due(method.getName() + " is named", readme.contains("`" + method.getName() + "`"), true);
            }
        }
    }
}
