import java.io.IOException;
import java.nio.file.Files;
import java.nio.file.Path;
import java.util.ArrayList;
import java.util.LinkedHashMap;
import java.util.List;
import java.util.Map;

/** Each sentence of the document's terms and promises is tested at its bounds; run from the project's folder. */
public final class SentencesTest {
    private static final Check CHECK = new Check("SentencesTest");
    private static final Path DOCUMENT = Path.of("../shared/DOC.md");
    // Words that only say where in the document one is.
    private static final String[][] NO_BOUND = {{"Terms IV", "The constants:"}};

    public static void main(String[] args) throws IOException {
        if (!Files.exists(DOCUMENT)) {
            System.out.println("SentencesTest: there is no " + DOCUMENT + " to compare with");
            return;
        }
        Map<String, String> parts = parts(Files.readString(DOCUMENT));
        CHECK.due("parts of the document", parts.size(), 1 + 4 + 33);
        Check bounds = new Check("SentencesTest");
        TextBoundsTest.all(bounds);
        LawBoundsTest.all(bounds);
        LookBoundsTest.all(bounds);
        FitBoundsTest.all(bounds);
        BackBoundsTest.all(bounds);
        LightBoundsTest.all(bounds);
        List<String[]> quotes = new ArrayList<>(bounds.sentences());
        quotes.addAll(List.of(NO_BOUND));
        for (Map.Entry<String, String> part : parts.entrySet()) {
            allIsQuoted(part.getKey(), part.getValue(), quotes);
        }
        for (String[] quote : quotes) {
            CHECK.holds(quote[0] + " is a part of the document", parts.containsKey(partOf(quote)));
        }
        CHECK.due("bounds that are not as due", bounds.wrong(), 0);
        CHECK.close();
    }

    /** The document's parts whose sentences name bounds, without what marks them up. */
    private static Map<String, String> parts(String document) {
        Map<String, String> parts = new LinkedHashMap<>();
        for (String section : document.split("\n## ")) {
            String title = section.substring(0, section.indexOf('\n'));
            String body = section.substring(title.length());
            if (title.equals("What it is")) {
                parts.put(title, plain(body.substring(body.lastIndexOf("\n\n"))));
            } else if (title.equals("Terms")) {
                terms(parts, body.substring(0, body.indexOf("Ahead of the calls")));
            } else if (title.startsWith("Promise ")) {
                // Behind the call's own line of types comes what it promises.
                parts.put(title.substring(0, title.indexOf(':')), plain(body.substring(body.indexOf("`:") + 2)));
            }
        }
        return parts;
    }

    private static void terms(Map<String, String> parts, String body) {
        String[] numbers = {"I", "II", "III", "IV"};
        for (int i = 0; i < numbers.length; i++) {
            int from = body.indexOf("\n" + numbers[i] + ". ");
            int to = i + 1 < numbers.length ? body.indexOf("\n" + numbers[i + 1] + ". ") : body.length();
            parts.put("Terms " + numbers[i], plain(body.substring(from + numbers[i].length() + 3, to)));
        }
    }

    /** A test names the part of the document, and behind a comma the promises that ask for it. */
    private static String partOf(String[] quote) {
        return quote[0].split(",")[0];
    }

    private static String plain(String text) {
        return text.replace("```text", " ").replace("```", " ").replaceAll("\\s+", " ").trim();
    }

    private static void allIsQuoted(String part, String words, List<String[]> quotes) {
        char[] left = words.toCharArray();
        for (String[] quote : quotes) {
            if (partOf(quote).equals(part)) {
                int at = words.indexOf(quote[1]);
                CHECK.holds(part + " says \"" + quote[1] + "\"", at >= 0);
                for (int i = Math.max(at, 0); at >= 0 && i < at + quote[1].length(); i++) {
                    left[i] = ' ';
                }
            }
        }
        String rest = plain(new String(left));
        CHECK.holds("no test of " + part + " for \"" + rest + "\"", !rest.matches(".*[A-Za-z0-9].*"));
    }
}
