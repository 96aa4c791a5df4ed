/** Promises 1 to 6: a new object, feed, end, cloth, fault, told. */
public final class TextPromisesTest {
    private static final Check CHECK = new Check("TextPromisesTest");

    public static void main(String[] args) {
        newObject();
        feed();
        end();
        cloth();
        clothClears();
        syntax();
        ranges();
        twice();
        room();
        firstFaultCounts();
        told();
        CHECK.close();
    }

    private static void newObject() {
        ClothBack x = new ClothBack();
        int[] due = {4, 3, 0, 2, 0, 0, 0, 0, -1, -1, 100, 100, 100, -1};
        for (int what = 0; what < due.length; what++) {
            CHECK.due("1 told(" + what + ")", x.told(what), due[what]);
        }
        for (int what = 0; what < 6; what++) {
            CHECK.due("1 count(" + what + ")", x.count(what), 0);
        }
        CHECK.due("1 fault(0)", x.fault(0), 0);
        CHECK.due("1 fault(1)", x.fault(1), -1);
        CHECK.due("1 take(0)", x.take(0), ClothBack.STATE);
        CHECK.due("1 stories(0)", x.stories(0), 0);
        CHECK.due("1 shows(11, 1, 0, 0)", x.shows(11, 1, 0, 0), ClothBack.NONE);
        CHECK.due("1 shows(12, 1, 0, 0)", x.shows(12, 1, 0, 0), ClothBack.RANGE);
    }

    private static void feed() {
        ClothBack x = new ClothBack();
        for (int i = 1; i <= 45; i++) {
            CHECK.due("2 feed " + i, x.feed(0x20202020, 0x20202020, 0x0a0a0a0a, 0x20202020, 0x20202020), 20 * i);
        }
        CHECK.due("2 feed of more than 900", x.feed(0, 0, 0, 0, 0), ClothBack.FULL);
        CHECK.due("2 count(5)", x.count(5), 900);
        CHECK.due("2 end(881)", x.end(881), 881);
        CHECK.due("2 feed of 901", x.feed(0, 0, 0, 0, 0), ClothBack.FULL);
        CHECK.due("2 end(880)", x.end(880), 880);
        CHECK.due("2 feed to 900", x.feed(0x20202020, 0x20202020, 0x20202020, 0x20202020, 0x2020203b), 900);
        CHECK.due("2 cloth()", x.cloth(), -1);
        CHECK.due("2 the last byte is the last int's lowest", x.fault(1), 899);
        // "most", " 1;s", "lack", " 7; ": the highest byte of each int comes first.
        CHECK.due("2 feed", x.feed(0x6d6f7374, 0x20313b73, 0x6c61636b, 0x20373b20, 0x20202020), 20);
        CHECK.due("2 cloth()", x.cloth(), 2);
        CHECK.due("2 told(3)", x.told(3), 1);
        CHECK.due("2 told(2)", x.told(2), 7);
    }

    private static void end() {
        ClothBack x = new ClothBack();
        CHECK.due("3 end(0)", x.end(0), 0);
        CHECK.due("3 end(1)", x.end(1), ClothBack.NONE);
        CHECK.due("3 end(-1)", x.end(-1), ClothBack.NONE);
        x.feed(0x20202020, 0x20202020, 0x20202020, 0x20202020, 0x20202020);
        CHECK.due("3 end(21)", x.end(21), ClothBack.NONE);
        CHECK.due("3 count(5)", x.count(5), 20);
        CHECK.due("3 end(20)", x.end(20), 20);
        CHECK.due("3 end(7)", x.end(7), 7);
        CHECK.due("3 count(5)", x.count(5), 7);
        CHECK.due("3 end(8)", x.end(8), ClothBack.NONE);
        CHECK.due("3 end(min)", x.end(Integer.MIN_VALUE), ClothBack.NONE);
        CHECK.due("3 end(max)", x.end(Integer.MAX_VALUE), ClothBack.NONE);
    }

    private static void cloth() {
        ClothBack x = new ClothBack();
        CHECK.good(x, "", 0);
        CHECK.good(x, " \n ", 0);
        CHECK.good(x, "cloth8 6;slack20;most1;bright200 0 7;", 4);
        CHECK.good(x, "stuff stuff 0 0 0 0 1 1;stuff abcdefgh 99 99 99 1000 999 9999;", 2);
        CHECK.good(x, "story hang hang 1 0 0 0 hang 400 99 99 100;story sees hang 0001 0 0 0;", 2);
        CHECK.good(x, "eye sees sees 0 0 0 sees 9 9 9 sees\n1\n2\n3\n;\n", 1);
        CHECK.good(x, "stuff a 0 0 0 0 1 1;story a hang 1 0 0 0;eye a sees 0 0 0 sees 0 0 0 sees 0 0 0;", 3);
        CHECK.good(x, "stuff ab 0 0 0 0 1 1;stuff ba 0 0 0 0 1 1;stuff a 0 0 0 0 1 1;stuff aa 0 0 0 0 1 1;", 4);
        CHECK.good(x, "mended 1;slack 3;mended 2;mended 999;", 4);
        CHECK.due("4 a cloth is told anew, whole", x.told(0), 4);
        StringBuilder full = new StringBuilder("slack 5;");
        while (full.length() < 900) {
            full.append('\n');
        }
        CHECK.good(x, full.toString(), 1);
    }

    private static void clothClears() {
        ClothBack x = Check.of("cloth 1 1;stuff a 9 9 9 0 1 1;story a hang 1 1 1 1;");
        x.look(7, 0, 0, 1, 2, 3);
        x.attempt(7, 0, 5, 1, 2, 3);
        x.right(7, 0, 1, 2, 3);
        x.keep(1);
        CHECK.fault(x, "slack 9;slack", 3, 8);
        CHECK.due("4 it stays", x.told(0), 1);
        CHECK.due("4 its slack stays", x.told(2), 0);
        CHECK.due("4 its clauses stay", x.count(0), 3);
        CHECK.due("4 looks stay", x.count(1), 1);
        CHECK.due("4 the step stays", x.look(6, 0, 0, 1, 2, 3), ClothBack.RANGE);
        CHECK.due("4 slots stay", x.take(1), 1);
        CHECK.good(x, "cloth 1 1;", 1);
        for (int what = 1; what < 5; what++) {
            CHECK.due("4 count(" + what + ") behind a new cloth", x.count(what), 0);
        }
        CHECK.due("4 slots are empty", x.take(1), ClothBack.STATE);
        CHECK.due("4 shows", x.shows(0, 0, 999, 0), ClothBack.NONE);
        CHECK.due("4 the step is 0", x.look(0, 0, 0, 1, 2, 3), 1);
    }

    private static void syntax() {
        ClothBack x = new ClothBack();
        CHECK.fault(x, "a", 1, 0);
        CHECK.fault(x, "  ;", 1, 2);
        CHECK.fault(x, " 7", 1, 1);
        CHECK.fault(x, "cloth", 1, 5);
        CHECK.fault(x, "cloth 1 1", 1, 9);
        CHECK.fault(x, "cloth 1 1  ", 1, 11);
        CHECK.fault(x, "cloth 1;", 1, 7);
        CHECK.fault(x, "cloth 1 1 1;", 1, 10);
        CHECK.fault(x, "clothes 1 1;", 1, 0);
        CHECK.fault(x, "Cloth 1 1;", 1, 0);
        CHECK.fault(x, "slack\t3;", 1, 5);
        CHECK.fault(x, "slack 3" + (char) 0 + ";", 1, 7);
        CHECK.fault(x, "slack -3;", 1, 6);
        CHECK.fault(x, "slack 00003;", 1, 6);
        CHECK.fault(x, "slack 12345", 1, 6);
        CHECK.fault(x, "slack 3;" + (char) 200, 1, 8);
        CHECK.fault(x, "stuff abcdefghi 0 0 0 0 1 1;", 1, 6);
        CHECK.fault(x, "stuff 3 0 0 0 0 1 1;", 1, 6);
        CHECK.fault(x, "stuff a 0 0 0 0 1 1 1;", 1, 20);
        CHECK.fault(x, "story y;", 1, 7);
        CHECK.fault(x, "story y hangs 1 1 1 1;", 1, 8);
        CHECK.fault(x, "story y hang 1 1 1 1 sees", 1, 21);
        CHECK.fault(x, "story y hang 1 1 1;", 1, 18);
        CHECK.fault(x, "eye e sees 1 1 1 sees 1 1 1;", 1, 27);
        CHECK.fault(x, "eye e sees 1 1 1 sees 1 1 1 sees 1 1 1 sees", 1, 39);
        CHECK.fault(x, "eye e hang", 1, 6);
        CHECK.fault(x, "stuffa 0 0 0 0 1 1;", 1, 0);
    }

    private static void ranges() {
        ClothBack x = new ClothBack();
        String[] bad = {"cloth 0", "cloth 9", "cloth 1 0", "cloth 1 7", "slack 21", "mended 0", "mended 1000", "most 0",
            "most 3", "bright 201", "bright 0 201", "bright 0 0 201", "stuff a 100", "stuff a 0 100",
            "stuff a 0 0 100", "stuff a 0 0 0 1001", "stuff a 0 0 0 0 0", "stuff a 0 0 0 0 1000", "stuff a 0 0 0 0 1 0",
            "story a hang 0", "story a hang 401", "story a hang 1 100", "story a hang 1 0 100",
            "story a hang 1 0 0 101", "eye a sees 10", "eye a sees 0 10", "eye a sees 0 0 10",
            "eye a sees 0 0 0 sees 0 0 0 sees 0 0 10"};
        for (String text : bad) {
            CHECK.fault(x, text, 2, text.lastIndexOf(' ') + 1);
            CHECK.fault(x, "slack " + text.length() % 20 + ";" + text + " x", text.startsWith("slack") ? 3 : 2,
                    text.startsWith("slack") ? 9 - (text.length() % 20 < 10 ? 1 : 0)
                            : text.lastIndexOf(' ') + 9 + (text.length() % 20 < 10 ? 0 : 1));
        }
        CHECK.fault(x, "mended 7;mended 7;", 2, 16);
        CHECK.fault(x, "mended 7;mended 6;", 2, 16);
        CHECK.fault(x, "mended 7;mended 8;mended 8", 2, 25);
    }

    private static void twice() {
        ClothBack x = new ClothBack();
        CHECK.fault(x, "cloth 1 1; cloth 1 1;", 3, 11);
        CHECK.fault(x, "slack 1;most 2;slack 1;", 3, 15);
        CHECK.fault(x, "most 1;most", 3, 7);
        CHECK.fault(x, "bright 1 1 1;bright", 3, 13);
        CHECK.fault(x, "stuff a 0 0 0 0 1 1;stuff a", 3, 26);
        CHECK.fault(x, "stuff b 0 0 0 0 1 1;stuff a 0 0 0 0 1 1;stuff b", 3, 46);
        CHECK.fault(x, "story abcdefgh hang 1 1 1 1;story abcdefgh;", 3, 34);
        CHECK.fault(x, "eye e sees 0 0 0 sees 0 0 0 sees 0 0 0;eye e", 3, 43);
    }

    private static void room() {
        ClothBack x = new ClothBack();
        StringBuilder stuffs = new StringBuilder();
        for (char name = 'a'; name < 'f'; name++) {
            stuffs.append("stuff ").append(name).append(" 0 0 0 0 1 1;");
        }
        CHECK.good(x, stuffs.toString(), 5);
        CHECK.fault(x, stuffs + " stuff a", 4, stuffs.length() + 1);
        StringBuilder tales = new StringBuilder();
        for (char name = 'a'; name < 'e'; name++) {
            tales.append("story ").append(name).append(" hang 1 1 1 1;");
        }
        CHECK.good(x, tales.toString(), 4);
        CHECK.fault(x, tales + "story a", 4, tales.length());
        String eyes = "eye a sees 0 0 0 sees 0 0 0 sees 0 0 0;eye b sees 0 0 0 sees 0 0 0 sees 0 0 0;";
        CHECK.good(x, eyes, 2);
        CHECK.fault(x, eyes + "eye", 4, eyes.length());
        CHECK.good(x, "mended 1;mended 2;mended 3;", 3);
        CHECK.fault(x, "mended 1;mended 2;mended 3;mended 1;", 4, 27);
        StringBuilder hangs = new StringBuilder("story s");
        for (int i = 0; i < 6; i++) {
            hangs.append(" hang 1 1 1 1");
        }
        CHECK.good(x, hangs + ";", 1);
        CHECK.fault(x, hangs + " hang", 4, hangs.length() + 1);
        CHECK.fault(x, hangs + " hung", 1, hangs.length() + 1);
    }

    private static void firstFaultCounts() {
        ClothBack x = new ClothBack();
        CHECK.fault(x, "slack 21 $", 2, 6);
        CHECK.fault(x, "slack 2 $ slack", 1, 8);
        CHECK.fault(x, "cloth 9 12345", 2, 6);
        CHECK.due("5 fault(2)", x.fault(2), ClothBack.NONE);
        CHECK.due("5 fault(-1)", x.fault(-1), ClothBack.NONE);
        CHECK.good(x, "slack 1;", 1);
    }

    private static void told() {
        ClothBack x = Check.of("cloth 7 5;slack 4;mended 3;mended 40;most 1;bright 1 22 200;"
                + "stuff a 1 2 3 4 5 6;stuff b 1 2 3 4 5 6;story y hang 3 1 1 1 hang 40 1 1 1;story z hang 400 1 1 1;"
                + "eye e sees 1 2 3 sees 4 5 6 sees 7 8 9;");
        int[] plain = {7, 5, 4, 1, 2, 2, 1, 2, -1, -1, 1, 22, 200, -1};
        for (int what = 0; what < plain.length; what++) {
            CHECK.due("6 told(" + what + ")", x.told(what), plain[what]);
        }
        int[][] rest = {{19, -1}, {20, 3}, {21, 40}, {22, -1}, {29, -1}, {30, 2}, {31, 1}, {32, -1}, {39, -1}, {40, 43},
            {41, 400}, {42, -1}, {50, -1}, {-1, -1}, {Integer.MIN_VALUE, -1}, {Integer.MAX_VALUE, -1}};
        for (int[] one : rest) {
            CHECK.due("6 told(" + one[0] + ")", x.told(one[0]), one[1]);
        }
    }
}
