/** What all tests share: telling a text to a cloth, and counting answers that are not as due. */
final class Check {
    private final String test;
    private int asked = 0;
    private int wrong = 0;

    Check(String test) {
        this.test = test;
    }

    void due(String call, long got, long want) {
        asked++;
        if (got != want) {
            wrong++;
            if (wrong <= 40) {
                System.out.println(test + ": " + call + " answered " + got + ", due is " + want);
            }
        }
    }

    void holds(String what, boolean isSo) {
        due(what, isSo ? 1 : 0, 1);
    }

    int wrong() {
        return wrong;
    }

    void close() {
        System.out.println(test + ": " + asked + " answers, " + wrong + " not as due");
        if (wrong != 0 || asked == 0) {
            System.exit(1);
        }
    }

    /** Puts a text on the tape, whatever it held before; it must be at most 900 bytes, padded to twenties. */
    static void tape(ClothBack x, String text) {
        x.end(0);
        for (int from = 0; from < text.length(); from += 20) {
            x.feed(four(text, from), four(text, from + 4), four(text, from + 8), four(text, from + 12),
                    four(text, from + 16));
        }
        x.end(text.length());
    }

    private static int four(String text, int from) {
        int word = 0;
        for (int i = from; i < from + 4; i++) {
            word = word << 8 | (i < text.length() ? text.charAt(i) & 255 : 32);
        }
        return word;
    }

    static int cloth(ClothBack x, String text) {
        tape(x, text);
        return x.cloth();
    }

    static ClothBack of(String text) {
        ClothBack x = new ClothBack();
        cloth(x, text);
        return x;
    }

    /** The text told as a cloth must have this fault. */
    void fault(ClothBack x, String text, int kind, int place) {
        due("cloth() of " + text, cloth(x, text), -1);
        due("fault(0) of " + text, x.fault(0), kind);
        due("fault(1) of " + text, x.fault(1), place);
        due("count(5) behind it", x.count(5), 0);
    }

    /** The text told as a cloth must be good, with so many clauses. */
    void good(ClothBack x, String text, int clauses) {
        due("cloth() of " + text, cloth(x, text), clauses);
        due("fault(0) of " + text, x.fault(0), 0);
        due("fault(1) of " + text, x.fault(1), -1);
        due("count(0) of " + text, x.count(0), clauses);
        due("count(5) behind it", x.count(5), 0);
    }
}
