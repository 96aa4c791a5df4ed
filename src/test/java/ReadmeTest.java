import java.io.IOException;
import java.lang.reflect.Method;
import java.nio.file.Files;
import java.nio.file.Path;
import java.util.List;
import java.util.regex.Matcher;
import java.util.regex.Pattern;

/** The calls that README.md shows, in their order, answer what it says; run from the project's folder. */
public final class ReadmeTest {
    private static final Check CHECK = new Check("ReadmeTest");
    private static final Path README = Path.of("README.md");
    private static final String MADE = "ClothBack x = new ClothBack();";
    private static final Pattern TOLD = Pattern.compile("text `(cloth [^`]*)`");
    private static final Pattern CALL =
            Pattern.compile("(?:for \\(int i = 0; i < (\\d+); i\\+\\+\\) )?x\\.(\\w+)\\(([^)]*)\\);(?:\\s*// (\\S+).*)?");

    private static ClothBack x = new ClothBack();
    private static int answered = 0;

    public static void main(String[] args) throws IOException, ReflectiveOperationException {
        String page = Files.readString(README);
        boolean isCode = false;
        for (String line : page.split("\n")) {
            if (line.startsWith("```")) {
                isCode = line.equals("```java");
            } else if (isCode && line.equals(MADE)) {
                x = new ClothBack();
            } else if (isCode && line.matches("(x\\.|for ).*") && !line.endsWith("{")) {
                run(line);
            }
        }
        CHECK.holds("README.md shows calls with their answers", answered > 50);
        saysWhatIsAsked(page);
        tellsItsText(page);
        CHECK.close();
    }

    private static void run(String line) throws ReflectiveOperationException {
        Matcher call = CALL.matcher(line);
        CHECK.holds("README.md's line can be read: " + line, call.matches());
        if (!call.matches()) {
            return;
        }
        int times = call.group(1) == null ? 1 : Integer.parseInt(call.group(1));
        int answer = 0;
        for (int i = 0; i < times; i++) {
            answer = ask(call.group(2), call.group(3).isEmpty() ? new String[0] : call.group(3).split(", "));
        }
        if (call.group(4) != null) {
            answered++;
            CHECK.due("README.md: " + line, answer, number(call.group(4).replaceAll("[:;,]$", "")));
        }
    }

    private static int ask(String name, String[] with) throws ReflectiveOperationException {
        for (Method method : ClothBack.class.getMethods()) {
            if (method.getName().equals(name) && method.getDeclaringClass() == ClothBack.class) {
                CHECK.due("README.md: how many numbers " + name + " takes", with.length, method.getParameterCount());
                Object[] values = new Object[with.length];
                for (int i = 0; i < with.length; i++) {
                    boolean isFlag = method.getParameterTypes()[i] == boolean.class;
                    values[i] = isFlag ? (Object) Boolean.valueOf(with[i]) : (Object) number(with[i]);
                }
                return (int) method.invoke(x, values);
            }
        }
        CHECK.holds("README.md: there is a call " + name, false);
        return 0;
    }

    private static int number(String told) {
        return switch (told) {
            case "NONE" -> ClothBack.NONE;
            case "RANGE" -> ClothBack.RANGE;
            case "FULL" -> ClothBack.FULL;
            case "STATE" -> ClothBack.STATE;
            default -> Integer.decode(told);
        };
    }

    /** Each constant with its number, and the one command. */
    private static void saysWhatIsAsked(String page) {
        for (String name : List.of("NONE", "RANGE", "FULL", "STATE")) {
            CHECK.holds("README.md says what " + name + " is", page.contains("| `" + name + "` | " + number(name) + " | "));
        }
        CHECK.holds("README.md says how to run all tests", page.contains("\nbash .ci/run\n"));
    }

    /** The text that README.md writes out is the one that its calls of feed tell. */
    private static void tellsItsText(String page) {
        Matcher text = TOLD.matcher(page);
        CHECK.holds("README.md has a text", text.find());
        ClothBack told = new ClothBack();
        Check.tape(told, text.group(1));
        StringBuilder fed = new StringBuilder();
        Matcher feed = Pattern.compile("x\\.feed\\((0x[^)]*)\\)").matcher(page);
        while (feed.find() && fed.length() < text.group(1).length()) {
            for (String four : feed.group(1).split(", ")) {
                for (int shift = 24; shift >= 0; shift -= 8) {
                    fed.append((char) (number(four) >> shift & 255));
                }
            }
        }
        CHECK.due("README.md's text has so many bytes", told.count(5), 115);
        CHECK.holds("README.md feeds " + fed, fed.toString().trim().equals(text.group(1)));
    }
}
