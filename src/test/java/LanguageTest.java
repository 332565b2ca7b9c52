import java.io.IOException;
import java.lang.reflect.Constructor;
import java.lang.reflect.Field;
import java.lang.reflect.Method;
import java.lang.reflect.Modifier;
import java.nio.file.Files;
import java.nio.file.Path;
import java.util.Set;
import java.util.TreeSet;
import java.util.regex.Matcher;
import java.util.regex.Pattern;

/** The face of the document, and those rules of LANGUAGE.md that a text or a class file shows. */
public final class LanguageTest {
    private static final Check CHECK = new Check("LanguageTest");
    private static final String[] METHODS = {"machine 3", "width 1", "lacking 0", "slot 2", "phase 2", "layer 2", "each 1", "own 1", "sum 3",
        "vanishes 1", "choose 1", "turned 3", "joined 2", "partner 1", "path 2", "image 1", "restore 1", "told 1"};
    private static final String[] FORBIDDEN = {"throw", "throws", "try", "catch", "synchronized", "assert", "Exact", "->", "::",
        "hashCode", "toString", "System\\.", "Random", "Thread", "protected", "package"};

    private static void constants() throws IllegalAccessException {
        String[] names = {"NONE", "UNKNOWN", "OUTSIDE", "STATE", "FULL", "NO", "GONE"};
        int[] values = {-6, -1, -2, -3, -4, -5, -100000};
        Set<String> found = new TreeSet<>();
        for (Field f : SlotStar.class.getDeclaredFields()) {
            if (Modifier.isPrivate(f.getModifiers())) continue;
            found.add(f.getName());
            for (int i = 0; i < names.length; i++) {
                if (names[i].equals(f.getName())) CHECK.due(names[i], f.getInt(null), values[i]);
            }
        }
        CHECK.holds("the constants are those of the document, not " + found, found.equals(Set.of(names)));
    }

    private static void methods() {
        Set<String> open = new TreeSet<>();
        Set<String> openNames = new TreeSet<>();
        for (Method f : SlotStar.class.getDeclaredMethods()) {
            if (Modifier.isPrivate(f.getModifiers())) continue;
            boolean whole = Modifier.isPublic(f.getModifiers()) && f.getReturnType() == int.class;
            for (Class<?> type : f.getParameterTypes()) whole &= type == int.class;
            CHECK.holds(f + " is public and of int", whole);
            open.add(f.getName() + " " + f.getParameterCount());
            openNames.add(f.getName());
        }
        CHECK.holds("the methods are those of the document, not " + open, open.equals(Set.of(METHODS)));
        for (Class<?> c : SlotStar.class.getDeclaredClasses()) {
            CHECK.holds(c + " is static", Modifier.isStatic(c.getModifiers()));
            for (Method f : c.getDeclaredMethods()) CHECK.holds(f + " has a name of its own", !openNames.contains(f.getName()));
        }
        for (Method f : SlotStar.class.getDeclaredMethods()) {
            CHECK.holds(f + " has a name of its own", !Modifier.isPrivate(f.getModifiers()) || !openNames.contains(f.getName()));
        }
        Constructor<?>[] makers = SlotStar.class.getDeclaredConstructors();
        CHECK.holds("one public constructor", makers.length == 1 && Modifier.isPublic(makers[0].getModifiers()) && makers[0].getParameterCount() == 0);
        CHECK.holds("public and final", Modifier.isPublic(SlotStar.class.getModifiers()) && Modifier.isFinal(SlotStar.class.getModifiers()));
    }

    private static void sizes() {
        Class<?>[] inside = SlotStar.class.getDeclaredClasses();
        CHECK.holds("at most twelve classes", inside.length < 12);
        sizesOf(SlotStar.class);
        for (Class<?> c : inside) sizesOf(c);
    }

    private static void sizesOf(Class<?> c) {
        int fields = 0;
        for (Field f : c.getDeclaredFields()) {
            boolean shared = Modifier.isStatic(f.getModifiers());
            CHECK.holds(f + " is a constant of int, or no static one", !shared || Modifier.isFinal(f.getModifiers()) && f.getType() == int.class);
            if (!shared) fields++;
        }
        CHECK.holds(c + " has at most twenty fields", fields <= 20);
        for (Method f : c.getDeclaredMethods()) CHECK.holds(f + " takes at most seven", f.getParameterCount() <= 7);
        CHECK.holds(c + " has no class inside", c == SlotStar.class || c.getDeclaredClasses().length == 0);
    }

    /** Methods stand four signs to the right in the class, eight in classes inside it. */
    private static void lengths(String source) {
        Matcher method = Pattern.compile("(?m)^( {4}| {8})\\w[^=;\n]*\\) \\{$(?s:.*?)^\\1\\}$").matcher(source);
        int found = 0;
        while (method.find()) {
            found++;
            String text = method.group();
            CHECK.holds(text.split("\n")[0].trim() + " has at most sixty lines", count(text, "\n") < 60);
        }
        int methods = SlotStar.class.getDeclaredMethods().length + SlotStar.class.getDeclaredConstructors().length;
        for (Class<?> c : SlotStar.class.getDeclaredClasses()) methods += c.getDeclaredMethods().length;
        CHECK.due("methods whose length was seen", found, methods);
    }

    private static void words() throws IOException {
        String source = Files.readString(Path.of("src/main/java/SlotStar.java"));
        String code = source.replaceAll("(?s)/\\*.*?\\*/", " ").replaceAll("//[^\n]*", " ");
        for (String word : FORBIDDEN) {
            String pattern = Character.isLetter(word.charAt(0)) && !word.equals("Exact") && !word.endsWith(".") ? "\\b" + word + "\\b" : word;
            CHECK.holds("'" + word + "' is not used", !Pattern.compile(pattern).matcher(code).find());
        }
        Matcher imports = Pattern.compile("import\\s+([^;]+);").matcher(code);
        while (imports.find()) CHECK.holds("import " + imports.group(1), imports.group(1).equals("java.util.Arrays"));
        // Rows are looked into, and numbers divided, only in the four functions that test first.
        CHECK.due("looks into rows", count(code, "(?<!\\bint)\\[\\w"), 2);
        CHECK.due("divisions", count(code, "[^/*]/[^/*]|%"), 2);
        // What is made is made with the object, so that a call makes nothing.
        String fields = "(?m)^ {8}(private )?final int\\[\\] \\w+ = new |^ {8}\\w+ = new ";
        CHECK.due("objects and rows made by calls", count(code, "\\bnew\\b") - count(code, fields), 0);
        lengths(source);
    }

    private static int count(String text, String pattern) {
        Matcher m = Pattern.compile(pattern).matcher(text);
        int n = 0;
        while (m.find()) n++;
        return n;
    }

    public static void main(String[] args) throws Exception {
        constants();
        methods();
        sizes();
        words();
        CHECK.end();
    }
}
