import java.io.IOException;
import java.util.ArrayList;
import java.util.List;
import java.util.function.IntBinaryOperator;
import java.util.function.Supplier;
import java.util.function.ToIntFunction;

/** A check that names, ahead of its questions, the promise and the sentence of the document that they hold. */
final class Sentences extends Check {
    /** No town of three, nor of any union; with some of them a product with 6 goes around. */
    static final int[] NO_TOWNS = {-1, 3, 6, Integer.MIN_VALUE, Integer.MAX_VALUE, 715827882, -715827883, 1 << 30};

    /** No two towns of three, though 6 times the first and the second are those of b and c. */
    static final int[][] NO_PAIRS = {{0, 8}, {2, -4}, {-1, 14}, {3, -10}, {Integer.MIN_VALUE + 1, 2}};

    private final Document document;
    private String about = "";
    private int asked = 0;

    Sentences() throws IOException {
        document = new Document();
    }

    /** From here on all is asked for this sentence, which is the promise's own or one of the terms that it uses. */
    void of(int promise, String sentence) {
        closeSentence();
        String section = document.sectionOf(promise, sentence);
        String own = "Promise " + promise;
        about = own + (section.equals(own) ? "" : ", " + section) + ", \"" + sentence + "\"";
        super.due(about + " stands there once", section.isEmpty() ? 0 : 1, 1);
        if (!section.isEmpty()) {
            document.mark(section, sentence);
        }
        asked = 0;
    }

    /** Words that say what it is about, or how the interface is laid out, and nothing that a call could answer. */
    void aside(String words) {
        String section = document.sectionOf(0, words);
        super.due("\"" + words + "\" stands there once", section.isEmpty() ? 0 : 1, 1);
        if (!section.isEmpty()) {
            document.mark(section, words);
        }
    }

    @Override
    void due(String call, long got, long want) {
        asked++;
        super.due(about + ": " + call, got, want);
    }

    private void closeSentence() {
        if (!about.isEmpty()) {
            super.due(about + ": questions", Math.min(1, asked), 1);
        }
    }

    @Override
    void finish() {
        closeSentence();
        for (String words : document.unquoted()) {
            super.due("tests that quote \"" + words + "\"", 0, 1);
        }
        super.finish();
    }

    /** As fault(..), the place being where the first ^ stands, which is no byte of the text. */
    void faultAt(int kind, String marked) {
        int place = marked.indexOf('^');
        fault(marked.substring(0, place) + marked.substring(place + 1), kind, place);
    }

    /** Each answer of a call with two numbers, from 0 on. */
    void table(String call, IntBinaryOperator asked, int[][] want) {
        for (int i = 0; i < want.length; i++) {
            for (int j = 0; j < want[i].length; j++) {
                due(call + "(" + i + ", " + j + ")", asked.applyAsInt(i, j), want[i][j]);
            }
        }
    }

    /** On a new object the call answers so, one more of its kind alone is refused, and all stays. */
    void refused(int kind, Supplier<ReplyStamps> making, String call, ToIntFunction<ReplyStamps> asks, int answer) {
        ReplyStamps x = making.get();
        List<Integer> before = allOf(x);
        int[] counts = statusOf(x);
        due(call, asks.applyAsInt(x), answer);
        due(call + ": all stays", allOf(x).equals(before), true);
        for (int what = 0; what < counts.length; what++) {
            due(call + ": status(" + what + ")", x.status(what), counts[what] + (what == kind ? 1 : 0));
        }
    }

    private static int[] statusOf(ReplyStamps x) {
        int[] counts = new int[6];
        for (int what = 0; what < counts.length; what++) {
            counts[what] = x.status(what);
        }
        return counts;
    }

    /** All that can be asked of an object but its tape, its fault and what was refused, in calls as few as will do. */
    private static List<Integer> allOf(ReplyStamps x) {
        List<Integer> all = new ArrayList<>();
        for (int what = 0; what < 11; what++) {
            all.add(x.has(what));
        }
        for (int octet : Check.image(x)) {
            all.add(octet);
        }
        for (int k = 0; k < x.has(7); k++) {
            all.add(x.kept(k, 0));
            all.add(x.kept(k, 3));
        }
        all.add(x.whose(0));
        all.add(x.pair(0, 1, 3));
        all.add(x.letter(0, 0));
        return all;
    }
}
