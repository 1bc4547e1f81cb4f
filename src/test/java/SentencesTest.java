import java.io.IOException;
import java.nio.charset.StandardCharsets;
import java.nio.file.Files;
import java.nio.file.Path;
import java.util.List;
import java.util.regex.Matcher;
import java.util.regex.Pattern;
import java.util.stream.Stream;

/** Whether each sentence of the document that names a bound or a refusal is quoted by a test. */
public final class SentencesTest {
    private static final Pattern BOUND = Pattern.compile(
            "\\d \\.\\. |\\.\\. \\d|at most|at first|at the most|at least|too soon|empty|\\bnone\\b|UNKNOWN|OUTSIDE|\\bNOT\\b|FULL|NONE");
    private static final Pattern QUOTED = Pattern.compile("Doc\\.(?:says|promises)\\((?:(\\d+), )?\"([^\"\\\\]*)\"\\);");

    public static void main(String[] args) throws IOException {
        String document = Files.readString(Path.of("../shared/DOC.md"), StandardCharsets.UTF_8).replaceAll("\\s+", " ");
        int begin = document.indexOf("## Terms"), end = document.indexOf("## Not promised");
        Due.isTrue("terms and promises are there", begin >= 0 && end > begin);
        boolean[] isQuoted = new boolean[document.length()], isPromised = new boolean[29];
        try (Stream<Path> files = Files.list(Path.of("src/test/java"))) {
            List<Path> sources = files.sorted().toList();
            for (Path source : sources) mark(Files.readString(source, StandardCharsets.UTF_8), document, isQuoted, isPromised);
        }
        for (int promise = 1; promise <= 28; promise++) Due.isTrue("promise " + promise + " is quoted", isPromised[promise]);
        StringBuilder left = new StringBuilder();
        for (int i = begin; i <= end; i++) {
            if (i < end && !isQuoted[i]) {
                left.append(document.charAt(i));
            } else if (left.length() > 0) {
                Due.isTrue("quoted, or without a bound: " + left, !BOUND.matcher(left).find());
                left.setLength(0);
            }
        }
        Due.end("SentencesTest");
    }

    private static void mark(String source, String document, boolean[] isQuoted, boolean[] isPromised) {
        Matcher quotes = QUOTED.matcher(source);
        while (quotes.find()) {
            String said = quotes.group(2);
            if (quotes.group(1) != null) isPromised[Integer.parseInt(quotes.group(1))] = true;
            for (int at = document.indexOf(said); at >= 0; at = document.indexOf(said, at + 1)) {
                for (int i = at; i < at + said.length(); i++) isQuoted[i] = true;
            }
        }
    }
}
