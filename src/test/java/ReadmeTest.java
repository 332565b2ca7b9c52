import java.io.IOException;
import java.lang.reflect.Field;
import java.lang.reflect.Modifier;
import java.nio.file.DirectoryStream;
import java.nio.file.Files;
import java.nio.file.Path;
import java.util.Set;
import java.util.TreeSet;
import java.util.regex.Matcher;
import java.util.regex.Pattern;

/** README.md says of the class what the class does and what the document says of it. */
public final class ReadmeTest {
    private static final Check CHECK = new Check("ReadmeTest");

    /** The rows of the example are calls on one object, in order, each with its answer. */
    private static void example(String page) {
        SlotStar x = new SlotStar();
        Set<String> called = new TreeSet<>();
        Matcher row = Pattern.compile("(?m)^x\\.(\\w+)\\(([^)]*)\\); *// (-?\\d+)\\b.*$").matcher(page);
        while (row.find()) {
            String call = (row.group(1) + " " + row.group(2).replace(",", "")).trim();
            CHECK.due("the example's " + call, Edges.call(x, call), Integer.parseInt(row.group(3)));
            called.add(row.group(1));
        }
        CHECK.due("rows of the example that were read", count(page, row.pattern().pattern()), count(page, "(?m)^x\\."));
        CHECK.due("calls that the example shows", called.size(), Document.PROMISES - 1);
    }

    private static int count(String page, String pattern) {
        Matcher found = Pattern.compile(pattern).matcher(page);
        int many = 0;
        while (found.find()) many++;
        return many;
    }

    /** Each call has a row, with its arguments and with those refusals that the document names. */
    private static void calls(String page, Document document) {
        for (int promise = 2; promise <= Document.PROMISES; promise++) {
            String call = document.callOf(promise).replace("int ", "");
            CHECK.holds("the document has a call " + promise, !call.isEmpty());
            Matcher row = Pattern.compile("(?m)^\\| `" + Pattern.quote(call) + "` \\| (.+) \\|(.*)\\|$").matcher(page);
            boolean found = row.find();
            CHECK.holds("there is a row of " + call, found);
            if (!found) continue;
            Set<String> named = new TreeSet<>();
            Matcher refusal = Pattern.compile("[A-Z]{2,}").matcher(row.group(2));
            while (refusal.find()) if (!refusal.group().equals("GONE")) named.add(refusal.group());
            CHECK.holds(call + " is refused by " + document.refusalsOf(promise) + ", not " + named, named.equals(document.refusalsOf(promise)));
        }
    }

    private static void constants(String page) throws IllegalAccessException {
        for (Field constant : SlotStar.class.getDeclaredFields()) {
            if (!Modifier.isPublic(constant.getModifiers())) continue;
            String row = "| `" + constant.getName() + "` | " + constant.getInt(null) + " | ";
            CHECK.holds("there is a row " + row, page.contains(row));
        }
    }

    private static void tests(String page) throws IOException {
        CHECK.holds("how the tests are run", page.contains("\n    .ci/run\n"));
        try (DirectoryStream<Path> tests = Files.newDirectoryStream(Path.of("src/test/java"), "*Test.java")) {
            for (Path test : tests) {
                String name = test.getFileName().toString().replace(".java", "");
                CHECK.holds("there is a row of " + name, Pattern.compile("(?m)^\\| .*`" + name + "`.* \\| .+ \\|$").matcher(page).find());
            }
        }
    }

    public static void main(String[] args) throws IOException, IllegalAccessException {
        String page = Files.readString(Path.of("README.md"));
        example(page);
        calls(page, new Document());
        constants(page);
        tests(page);
        CHECK.end();
    }
}
