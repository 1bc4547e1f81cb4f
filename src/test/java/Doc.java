import java.io.IOException;
import java.io.UncheckedIOException;
import java.nio.charset.StandardCharsets;
import java.nio.file.Files;
import java.nio.file.Path;

/**
 * The sentences of ../shared/DOC.md that name a bound. A test says which one it stands for;
 * what is answered wrongly then is printed with it, and a sentence that is not there is a fault too.
 */
final class Doc {
    private static final String TEXT = read();
    private static int sentences = 0;

    private Doc() {
    }

    private static String read() {
        try {
            return inOneLine(Files.readString(Path.of("../shared/DOC.md"), StandardCharsets.UTF_8));
        } catch (IOException e) {
            throw new UncheckedIOException(e);
        }
    }

    private static String inOneLine(String text) {
        return text.replaceAll("\\s+", " ");
    }

    static void says(String said) {
        sentences++;
        Due.begin(said);
        Due.isTrue("the document says so", TEXT.contains(inOneLine(said)));
        Due.lookFromHere();
    }

    /** A sentence of a promise: it stands below the promise's head. */
    static void promises(int promise, String said) {
        int head = TEXT.indexOf("## Promise " + promise + ":");
        int next = TEXT.indexOf("## ", head + 3);
        String below = head >= 0 && next > head ? TEXT.substring(head, next) : "";
        sentences++;
        Due.begin(said);
        Due.isTrue("promise " + promise + " says so", below.contains(inOneLine(said)));
        Due.lookFromHere();
    }

    static void end(String test) {
        Due.begin("");
        System.out.println(test + ": " + sentences + " sentences");
        Due.end(test);
    }

    /** The FAULT is at the sign ^, which is no byte of the text; without one there is none. */
    static void fault(EvenDays x, String marked) {
        int place = marked.indexOf('^');
        if (place < 0) Due.faultIs(x, marked, Due.NONE);
        else Due.faultIs(x, marked.substring(0, place) + marked.substring(place + 1), place);
    }

    static void fault(String marked) {
        fault(new EvenDays(), marked);
    }
}
