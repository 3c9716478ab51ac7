import java.io.IOException;
import java.util.function.Consumer;

/**
 * All promises, sentence by sentence: ahead of each question stands the promise, and the sentence that it holds in the
 * document's own words. A sentence that is not the document's, or one of the document's that no test quotes, fails.
 */
public final class SentenceTest {
    public static void main(String[] args) throws IOException {
        Sentences s = new Sentences();
        asides(s);
        run(s, TextSentences::all);
        run(s, FaultSentences::all);
        run(s, DaySentences::all);
        run(s, AheadSentences::all);
        run(s, CallSentences::all);
        run(s, ActSentences::all);
        run(s, SixSentences::all);
        run(s, ApartSentences::all);
        s.finish();
    }

    /** A union or an image that was to be asked and was refused ends its part, with the sentence at hand. */
    private static void run(Sentences s, Consumer<Sentences> part) {
        try {
            part.accept(s);
        } catch (IllegalStateException stopped) {
            s.due(stopped.getMessage(), false, true);
        }
    }

    private static void asides(Sentences s) {
        s.aside("A stamp from wherever it's going: towns, carts between them, which stamps of which town each holds, when one"
            + " writes, to whom it likes to write most, what a stamp is worth to it, how many each encloses, told as a text by"
            + " a small language.");
        s.aside("Day by day letters come, bring stamps of the place they are from, towns write by the stamps they hold, some are"
            + " lost by a seed; asked are: who writes to whom now, when a letter comes first, what each holds later, to whom"
            + " all word can go, the fewest stamps by which all word goes everywhere, the fewest to take so that none goes,"
            + " rings of replies that need no more, the best swap, whose bag it is by what is in it, the stamp to look for;"
            + " letters kept; acts undone; images.");
        s.aside("The constants:");
        s.aside("Ahead of the calls `later`, `comes`, `silent` the interface says: ---- ahead.");
        s.aside("Ahead of the calls `word`, `wide`, `cut`, `ring`, `swap` the interface says: ---- word.");
        s.aside("Ahead of the calls `bag`, `whose` the interface says: ---- whose bag.");
        s.aside("Ahead of the calls `days`, `chance`, `give`, `find`, `burn`, `undo`, `seed`, `kept` the interface says: ----"
            + " acts.");
        s.aside("Ahead of the calls `image`, `octet`, `on`, `status` the interface says: ---- images, refusals.");
    }
}
