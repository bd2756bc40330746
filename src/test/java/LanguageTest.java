import java.io.IOException;
import java.nio.file.Files;
import java.nio.file.Path;
import java.util.List;
import java.util.regex.Matcher;
import java.util.regex.Pattern;

/** What the text of PlateRoom.java shows of the rules of LANGUAGE.md. */
public final class LanguageTest {
    private static final String SOURCE = "src/main/java/PlateRoom.java";
    private static final List<String> FORBIDDEN = List.of(
        "\\b(throw|throws|try|catch|finally|synchronized|assert|native|volatile|transient)\\b", "->", "::",
        "\\bpackage\\b", "\\bprotected\\b", "\\bObject\\b", "\\bString\\b", "\\b(double|float)\\b",
        "\\b(hashCode|toString|getClass)\\b", "Exact\\b", "\\bRandom\\b", "\\b(nanoTime|currentTimeMillis)\\b",
        "\\bstatic\\s*\\{", "\\[\\]\\s*\\[\\]\\s*\\[\\]");
    private static final String LIBRARY = "\\b(Math|Integer|Long|System|Arrays|List|ArrayList|Character|Collections)\\.(\\w+)";
    private static final List<String> ALLOWED = List.of(
        "Math.min", "Math.max", "Integer.bitCount", "System.arraycopy", "Arrays.fill");

    public static void main(String[] args) throws IOException {
        Check.part("language");
        String whole = Files.readString(Path.of(SOURCE));
        String code = whole.replaceAll("(?s)/\\*.*?\\*/", "").replaceAll("//[^\n]*", "");
        for (String pattern : FORBIDDEN) {
            Check.due("times that " + pattern + " occurs", count(code, pattern), 0);
        }
        Check.due("imports", count(code, "\\bimport\\b"), 1);
        Check.due("the import", count(code, "import java\\.util\\.Arrays;"), 1);
        Matcher calls = Pattern.compile(LIBRARY).matcher(code.replace("import java.util.Arrays;", ""));
        while (calls.find()) {
            Check.due(calls.group() + " is in the library", ALLOWED.contains(calls.group()), true);
        }
        newOnlyInFields(code);
        methods(code);
        Check.due("characters above 255", whole.chars().filter(c -> c > 255).count(), 0);
        Check.finish();
    }

    private static long count(String text, String pattern) {
        return Pattern.compile(pattern).matcher(text).results().count();
    }

    /** All calls of a run share one heap, so no call makes an object: all are made with the room. */
    private static void newOnlyInFields(String code) {
        for (String line : code.split("\n")) {
            if (line.matches(".*\\bnew\\b.*")) {
                Check.due("made with the room: " + line.trim(), line.matches("\\s*private final .* = new .*;"), true);
            }
        }
    }

    private static void methods(String code) {
        Matcher heads = Pattern.compile("(?m)^(\\s+)[\\w\\[\\] ]+\\(([^()]*)\\) \\{$").matcher(code);
        int found = 0;
        while (heads.find()) {
            String indent = heads.group(1).replace("\n", "");
            boolean isMethod = indent.length() == 4 || indent.length() == 8 && !heads.group().matches("(?s)\\s*(if|for|while|switch).*");
            if (isMethod) {
                found++;
                int end = code.indexOf("\n" + indent + "}\n", heads.end());
                int lines = code.substring(heads.end(), Math.max(heads.end(), end)).split("\n").length;
                Check.due(heads.group().trim() + " is short", lines <= 60, true);
                Check.due(heads.group().trim() + " takes few", heads.group(2).split(",").length <= 7, true);
            }
        }
        Check.due("methods were found", found > 60, true);
    }
}
