import java.io.IOException;
import java.nio.file.Files;
import java.nio.file.Path;
import java.util.Set;
import java.util.TreeSet;
import java.util.regex.Matcher;
import java.util.regex.Pattern;

/** ../shared/DOC.md, so that tests quote it and a changed document shows in them. */
final class Document {
    static final int PROMISES = 19;
    private static final String PATH = "../shared/DOC.md";
    static final String[] REFUSALS = {"UNKNOWN", "OUTSIDE", "STATE", "FULL", "NO", "NONE"};
    private static final String FIRST_PROMISE = "## Promise 1:";
    private final String text;

    Document() throws IOException {
        text = Files.readString(Path.of(PATH)).replaceAll("\\s+", " ");
    }

    boolean says(String words) {
        return text.contains(words);
    }

    /** The words stand under the promise, or above all promises. */
    boolean says(int promise, String words) {
        String before = text.substring(0, Math.max(0, text.indexOf(FIRST_PROMISE)));
        return before.contains(words) || textOf(promise).contains(words);
    }

    boolean has(int promise) {
        return !textOf(promise).isEmpty();
    }

    private String textOf(int promise) {
        int from = text.indexOf("## Promise " + promise + ":");
        int to = text.indexOf("## ", from + 3);
        return from >= 0 && to > from ? text.substring(from, to) : "";
    }

    /** The call of a promise, as "slot(int k, int what)"; nothing, if it has none, as that of a new object. */
    String callOf(int promise) {
        Matcher call = Pattern.compile("`int (\\w+\\([^)]*\\))`").matcher(textOf(promise));
        return call.find() ? call.group(1) : "";
    }

    /** The constants that a promise names as answers. */
    Set<String> refusalsOf(int promise) {
        Set<String> found = new TreeSet<>();
        for (String refusal : REFUSALS) {
            if (Pattern.compile("\\b" + refusal + "\\b").matcher(textOf(promise)).find()) found.add(refusal);
        }
        return found;
    }
}
