import java.io.IOException;
import java.nio.file.Files;
import java.nio.file.Path;
import java.util.regex.Matcher;
import java.util.regex.Pattern;

/** What of ../shared/LANGUAGE.md can be seen in the text of ClothBack.java; run from the project's folder. */
public final class LanguageTest {
    private static final Check CHECK = new Check("LanguageTest");
    private static final String[] BANNED = {"throw", "throws", "try", "catch", "synchronized", "assert", "package",
        "volatile", "transient", "native", "protected", "instanceof", "hashCode", "toString", "Object", "System\\.(?!arraycopy)",
        "->", "::", "import (?!java\\.util\\.Arrays;)", "Math\\.\\w+Exact", "float", "double", "static \\{", "@", "new \\w+\\[\\]\\["};

    public static void main(String[] args) throws IOException {
        String whole = Files.readString(Path.of("src/main/java/ClothBack.java"));
        String text = whole.replaceAll("(?s)/\\*.*?\\*/", " ").replaceAll("//[^\n]*", " ").replaceAll("\"[^\"]*\"", "TEXT");
        for (String banned : BANNED) {
            String word = banned.matches("\\w+") ? "\\b" + banned + "\\b" : banned;
            Matcher matcher = Pattern.compile(word).matcher(text);
            CHECK.holds("no " + banned, !matcher.find());
        }
        for (int i = 0; i < whole.length(); i++) {
            if (whole.charAt(i) > 126) {
                CHECK.holds("sign " + i + " is plain", false);
            }
        }
        methodsAreShort(whole);
        CHECK.close();
    }

    /** A method's lines stand from a line that opens it to the brace of the same depth. */
    private static void methodsAreShort(String whole) {
        String[] lines = whole.split("\n");
        Pattern opens = Pattern.compile("^( {4}| {8})[A-Za-z][^=;]*\\([^;]*\\) \\{$");
        for (int i = 0; i < lines.length; i++) {
            Matcher matcher = opens.matcher(lines[i]);
            if (matcher.matches() && !lines[i].trim().matches("(if|for|while|switch).*")) {
                int end = i;
                while (!lines[end].equals(matcher.group(1) + "}")) {
                    end++;
                }
                CHECK.holds(lines[i].trim() + " has sixty lines at most", end - i <= 60);
            }
        }
    }
}
