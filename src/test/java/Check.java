import java.util.ArrayList;
import java.util.List;
import java.util.function.Supplier;
import java.util.function.ToIntFunction;

/** What all tests share: telling a text to a cloth, and counting answers that are not as due. */
final class Check {
    private final String test;
    private final List<String[]> quotes = new ArrayList<>();
    private String about = "";
    private int asked = 0;
    private int wrong = 0;

    /** A call of which one number changes. */
    interface Asked {
        int with(int n);
    }

    Check(String test) {
        this.test = test;
    }

    void due(String call, long got, long want) {
        asked++;
        if (got != want) {
            wrong++;
            if (wrong <= 40) {
                System.out.println(test + ": " + about + call + " answered " + got + ", due is " + want);
            }
        }
    }

    void holds(String what, boolean isSo) {
        due(what, isSo ? 1 : 0, 1);
    }

    int wrong() {
        return wrong;
    }

    /** What is asked from here on tests this sentence, in its own words, of one of the document's parts. */
    void sentence(String part, String words) {
        about = part + ", \"" + words + "\": ";
        quotes.add(new String[] {part, words});
    }

    /** All sentences that were tested: each its part and its words. */
    List<String[]> sentences() {
        return quotes;
    }

    /** A number is taken from least to most, with these answers at the two ends; what is beyond them is refused. */
    void ends(String call, Asked asked, int least, int dueLeast, int most, int dueMost, int refusal) {
        due(call + " by " + least, asked.with(least), dueLeast);
        due(call + " by " + most, asked.with(most), dueMost);
        refuses(call, asked, refusal, least - 1, most + 1, Integer.MIN_VALUE, Integer.MAX_VALUE);
    }

    void refuses(String call, Asked asked, int refusal, int... numbers) {
        for (int n : numbers) {
            due(call + " by " + n, asked.with(n), refusal);
        }
    }

    /** A call is refused, and all that later calls show is as if nobody had called. */
    void keepsAll(String call, Supplier<ClothBack> made, ToIntFunction<ClothBack> refused, int refusal) {
        ClothBack x = made.get();
        due(call, refused.applyAsInt(x), refusal);
        String behind = Portrait.of(x);
        String untouched = Portrait.of(made.get());
        holds(call + " changed\n " + untouched + "to\n " + behind, behind.equals(untouched));
    }

    void close() {
        String to = quotes.isEmpty() ? "" : " to " + quotes.size() + " sentences";
        System.out.println(test + ": " + asked + " answers" + to + ", " + wrong + " not as due");
        if (wrong != 0 || asked == 0) {
            System.exit(1);
        }
    }

    /** Puts a text on the tape, whatever it held before; it must be at most 900 bytes, padded to twenties. */
    static void tape(ClothBack x, String text) {
        x.end(0);
        for (int from = 0; from < text.length(); from += 20) {
            x.feed(four(text, from), four(text, from + 4), four(text, from + 8), four(text, from + 12),
                    four(text, from + 16));
        }
        x.end(text.length());
    }

    private static int four(String text, int from) {
        int word = 0;
        for (int i = from; i < from + 4; i++) {
            word = word << 8 | (i < text.length() ? text.charAt(i) & 255 : 32);
        }
        return word;
    }

    static int cloth(ClothBack x, String text) {
        tape(x, text);
        return x.cloth();
    }

    static ClothBack of(String text) {
        ClothBack x = new ClothBack();
        cloth(x, text);
        return x;
    }

    /** The text told as a cloth must have this fault. */
    void fault(ClothBack x, String text, int kind, int place) {
        due("cloth() of " + text, cloth(x, text), -1);
        due("fault(0) of " + text, x.fault(0), kind);
        due("fault(1) of " + text, x.fault(1), place);
        due("count(5) behind it", x.count(5), 0);
    }

    /** The text told as a cloth must be good, with so many clauses. */
    void good(ClothBack x, String text, int clauses) {
        due("cloth() of " + text, cloth(x, text), clauses);
        due("fault(0) of " + text, x.fault(0), 0);
        due("fault(1) of " + text, x.fault(1), -1);
        due("count(0) of " + text, x.count(0), clauses);
        due("count(5) behind it", x.count(5), 0);
    }
}
