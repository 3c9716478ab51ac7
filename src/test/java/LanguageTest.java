import java.io.IOException;
import java.lang.reflect.Field;
import java.lang.reflect.Method;
import java.lang.reflect.Modifier;
import java.nio.file.Files;
import java.nio.file.Path;
import java.util.ArrayList;
import java.util.Arrays;
import java.util.List;
import java.util.Set;
import java.util.TreeSet;
import java.util.regex.Matcher;
import java.util.regex.Pattern;

/** The document's face, and what of LANGUAGE.md can be seen from outside or in the text. */
public final class LanguageTest {
    private static final Path SOURCE = Path.of("src/main/java/ReplyStamps.java");
    private static final String[] FACE = {"feed:int:5", "end:boolean:1", "union:int:0", "fault:int:1", "has:int:1",
        "letter:int:2", "pair:int:3", "mail:int:2", "writes:int:1", "later:int:4", "comes:int:2", "silent:int:0",
        "word:int:1", "wide:int:1", "cut:int:3", "ring:int:2", "swap:int:1", "bag:int:0", "whose:int:1", "days:int:1",
        "chance:int:1", "give:boolean:3", "find:boolean:2", "burn:int:2", "undo:boolean:0", "seed:boolean:1",
        "kept:int:2", "image:int:0", "octet:int:1", "on:boolean:0", "status:int:1"};
    private static final Set<String> IMPORTS = Set.of("java.util.Arrays", "java.util.ArrayList", "java.util.List");

    public static void main(String[] args) throws IOException {
        Check check = new Check();
        face(check);
        for (Class<?> inside : ReplyStamps.class.getDeclaredClasses()) {
            check.due(inside + " is static", Modifier.isStatic(inside.getModifiers()) || inside.isInterface(), true);
            members(check, inside);
        }
        members(check, ReplyStamps.class);
        check.due("some twelve classes", ReplyStamps.class.getDeclaredClasses().length <= 12, true);
        String source = Files.readString(SOURCE);
        words(check, withoutTexts(source));
        lengths(check, source);
        check.finish();
    }

    private static void face(Check check) {
        Set<String> want = new TreeSet<>(Arrays.asList(FACE));
        Set<String> got = new TreeSet<>();
        for (Method method : ReplyStamps.class.getDeclaredMethods()) {
            if (!Modifier.isPrivate(method.getModifiers())) {
                got.add(method.getName() + ":" + method.getReturnType() + ":" + method.getParameterCount());
            }
        }
        check.due("the methods are " + got, got.equals(want), true);
        List<String> open = new ArrayList<>();
        for (Field field : ReplyStamps.class.getDeclaredFields()) {
            if (!Modifier.isPrivate(field.getModifiers())) {
                open.add(field.getName());
            }
        }
        check.due("the fields are " + open, open.equals(List.of("NONE")), true);
        check.due("NONE", ReplyStamps.NONE, -1);
        int modifiers = ReplyStamps.class.getModifiers();
        check.due("public and final", Modifier.isPublic(modifiers) && Modifier.isFinal(modifiers), true);
        check.due("constructors", ReplyStamps.class.getDeclaredConstructors().length, 1);
    }

    private static void members(Check check, Class<?> type) {
        Set<String> face = new TreeSet<>();
        for (String row : FACE) {
            face.add(row.substring(0, row.indexOf(':')));
        }
        for (Method method : type.getDeclaredMethods()) {
            check.due(method + " has few parameters", method.getParameterCount() <= 7, true);
            boolean hidden = Modifier.isPrivate(method.getModifiers());
            check.due(method + " bears a name of its own", hidden && face.contains(method.getName()), false);
        }
        int fields = 0;
        for (Field field : type.getDeclaredFields()) {
            boolean fixed = Modifier.isStatic(field.getModifiers());
            check.due(field + " is final", fixed && !Modifier.isFinal(field.getModifiers()), false);
            fields += fixed ? 0 : 1;
        }
        check.due(type + " has some twenty fields at most", fields <= 20, true);
    }

    private static String withoutTexts(String source) {
        return source.replaceAll("(?s)/\\*.*?\\*/", " ").replaceAll("//[^\n]*", " ").replaceAll("\"(\\\\.|[^\"\\\\])*\"", "\"\"");
    }

    private static void words(Check check, String code) {
        for (String word : new String[] {"throw", "throws", "try", "catch", "synchronized", "assert", "package", "var",
            "Exact", "Object", "native", "volatile", "protected"}) {
            check.due("no " + word, Pattern.compile("\\b" + word + "\\b").matcher(code).find(), false);
        }
        for (String sign : new String[] {"->", "::", "@", "\" +", "+ \"", "Exact("}) {
            check.due("no " + sign, code.contains(sign), false);
        }
        Matcher imports = Pattern.compile("(?m)^import\\s+([\\w.]+);").matcher(code);
        while (imports.find()) {
            check.due("import " + imports.group(1), IMPORTS.contains(imports.group(1)), true);
        }
        Matcher calls = Pattern.compile("\\b(Math|Integer|Long|Arrays|System|List|String)\\.(\\w+)").matcher(code);
        Set<String> known = Set.of("Math.max", "Math.min", "Math.abs", "Math.floorDiv", "Math.floorMod", "Arrays.copyOf",
            "Arrays.copyOfRange", "Arrays.fill", "System.arraycopy", "Integer.bitCount");
        while (calls.find()) {
            check.due(calls.group(), known.contains(calls.group()), true);
        }
    }

    private static void lengths(Check check, String source) {
        String[] lines = source.split("\n", -1);
        int start = -1;
        Pattern head = Pattern.compile("^( {4}| {8})(private|public)( static)? [\\w\\[\\]]+ \\w+\\(.*\\{$");
        for (int i = 0; i < lines.length; i++) {
            check.due("line " + (i + 1) + " is no longer than 120", lines[i].length() <= 120, true);
            if (head.matcher(lines[i]).find()) {
                start = i;
            } else if (start >= 0 && lines[i].matches(" {4}( {4})?\\}")) {
                check.due("the method at line " + (start + 1) + " is short", i - start <= 60, true);
                start = -1;
            }
        }
    }
}
