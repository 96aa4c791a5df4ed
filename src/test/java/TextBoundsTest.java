/** What the document says of bounds in "What it is", "Terms" I and promises 1 to 6: one test for each sentence. */
public final class TextBoundsTest {
    private static final int SYNTAX = 1;
    private static final int OUT = 2;
    private static final int TWICE = 3;
    private static final int ROOM = 4;
    private static final String STUFF = " 1 2 3 4 5 6;";
    private static final String HANG = " hang 1 2 3 4";
    private static final String SEES = " sees 1 2 3 sees 4 5 6 sees 7 8 9;";
    // All that a cloth may hold, and something of each kind that is told of a hanging.
    private static final String FULLEST = "cloth 8 6;slack 20;mended 1;mended 2;mended 999;most 2;bright 200 0 7;"
            + "stuff a" + STUFF + "stuff b" + STUFF + "stuff c" + STUFF + "stuff d" + STUFF + "stuff e" + STUFF
            + "story a" + HANG + HANG + HANG + HANG + HANG + HANG + ";story b" + HANG + ";story c" + HANG + ";story d"
            + HANG + ";eye a" + SEES + "eye b" + SEES;

    private static Check check;

    public static void main(String[] args) {
        Check own = new Check("TextBoundsTest");
        all(own);
        own.close();
    }

    static void all(Check to) {
        check = to;
        fiveHundredCalls();
        tapeIsFull();
        tapeIsEmptied();
        blanks();
        words();
        numbers();
        semicolons();
        textOfClauses();
        shapesOfClauses();
        shapesOfHangAndRow();
        columnsAndRows();
        slack();
        menders();
        most();
        bright();
        stuffs();
        tales();
        eyes();
        numbersAndNames();
        places();
        syntax();
        outOfBounds();
        twice();
        room();
        newObject();
        feed();
        end();
        cloth();
        fault();
        told();
    }

    // ---- what is asked again and again

    private static void good(String text, int clauses) {
        check.good(new ClothBack(), text, clauses);
    }

    private static void faulty(String text, int kind, int place) {
        check.fault(new ClothBack(), text, kind, place);
    }

    private static String times(String part, int many) {
        StringBuilder all = new StringBuilder();
        for (int i = 0; i < many; i++) {
            all.append(part);
        }
        return all.toString();
    }

    /** A number of a clause on both sides of both its ends; five digits are no number any more. */
    private static void numberEnds(String ahead, int least, int most, String behind) {
        good(ahead + least + behind, 1);
        good(ahead + most + behind, 1);
        faulty(ahead + (most + 1) + behind, most < 9999 ? OUT : SYNTAX, ahead.length());
        if (least > 0) {
            faulty(ahead + (least - 1) + behind, OUT, ahead.length());
        }
    }

    /** A cloth with one LOOK, one hair that was put right, one kept slot and text on the tape. */
    private static ClothBack inUse() {
        ClothBack x = Check.of("cloth 2 1;slack 1;most 1;stuff a 90 45 9 1000 10 1;story s hang 20 1 1 25;");
        x.look(3, 0, 0, 20, 30, 40);
        x.keep(1);
        x.attempt(4, 1, 5, 50, 60, 70);
        x.right(5, 0, 51, 61, 71);
        Check.tape(x, "slack 7;most 2;");
        return x;
    }

    // ---- What it is

    private static void fiveHundredCalls() {
        check.sentence("What it is, promises 1 to 33",
                "An object is used for at most 512 calls after it has been made; what later calls answer is free.");
        ClothBack x = new ClothBack();
        int calls = 0;
        for (; calls < 90; calls++) {
            check.due("look, call " + calls, x.look(calls, calls % 12, 0, calls, 1, 2), calls + 1);
        }
        for (; calls < 110; calls++) {
            check.due("attempt, call " + calls, x.attempt(calls, 0, 1, 1, 2, 3), calls - 90);
        }
        for (; calls < 130; calls++) {
            check.due("right, call " + calls, x.right(calls, 0, 1, 2, 3), calls - 109);
        }
        for (; calls < 175; calls++) {
            check.due("feed, call " + calls, x.feed(0, 0, 0, 0, 0), 20 * (calls - 129));
        }
        for (; calls < 511; calls++) {
            check.due("shows, call " + calls, x.shows(calls % 12, 0, 999, 0), calls % 12 > 5 ? 72 + calls % 12
                    : 84 + calls % 12);
        }
        check.due("count(1), the 512th call", x.count(1), 90);
    }

    // ---- Terms I

    private static void tapeIsFull() {
        check.sentence("Terms I, promise 2", "THE TAPE has at most 900 bytes;");
        String text = "slack 5;" + times(" ", 885) + "most 1;";
        check.due("length of the text", text.length(), 900);
        ClothBack x = new ClothBack();
        Check.tape(x, text);
        check.due("count(5)", x.count(5), 900);
        check.due("feed behind 900", x.feed(0, 0, 0, 0, 0), ClothBack.FULL);
        check.due("cloth() of 900 bytes", x.cloth(), 2);
        check.due("told(3): the last byte was read", x.told(3), 1);
        faulty(text.substring(0, 899), SYNTAX, 899);
        faulty(times(" ", 899) + "$", SYNTAX, 899);
        faulty(times("\n", 895) + "cloth", SYNTAX, 900);
    }

    private static void tapeIsEmptied() {
        check.sentence("Terms I, promise 4", "each call that reads it empties it, whatever it tells.");
        String[] texts = {"", "slack 7;", "slack 7", times(" ", 900), times("z", 900)};
        for (String text : texts) {
            ClothBack x = new ClothBack();
            Check.cloth(x, text);
            check.due("count(5) behind " + text, x.count(5), 0);
            check.due("end(1) behind " + text, x.end(1), ClothBack.NONE);
            check.due("feed behind " + text, x.feed(0x6d6f7374, 0x20313b20, 0x20202020, 0x20202020, 0x20202020), 20);
            check.due("cloth() reads that alone", x.cloth(), 1);
            check.due("cloth() again reads nothing", x.cloth(), 0);
            check.due("told(3) of nothing", x.told(3), 2);
        }
        ClothBack y = inUse();
        y.world(5, 1, 0);
        y.take(1);
        check.due("other calls don't read it", y.count(5), 15);
        check.due("cloth() reads it", y.cloth(), 2);
    }

    private static void blanks() {
        check.sentence("Terms I, promise 4", "TOKENS with any blanks (32, 10) between:");
        for (int b = 0; b < 256; b++) {
            String text = "slack" + (char) b + "7;";
            if (b == 32 || b == 10 || b == '0' || b == '1') {
                good(text, 1);
            } else if (b >= '2' && b <= '9') {
                faulty(text, OUT, 5);
            } else {
                faulty(text, SYNTAX, b >= 'a' && b <= 'z' ? 0 : 5);
            }
        }
        good("slack7;most1;", 2);
        good("slack 7 ;most 1 ;", 2);
        good(" \n slack \n\n 7 \n ;\n \nmost\n1\n;\n ", 2);
        good(times(" ", 445) + "most" + times("\n", 449) + "1;", 1);
        good(" ", 0);
        good("\n", 0);
        good(times(" \n", 450), 0);
        faulty("sl ack 7;", SYNTAX, 0);
        faulty("slack 1 7;", SYNTAX, 8);
    }

    private static void words() {
        check.sentence("Terms I, promise 4", "WORDS (small letters, as many as there are, 8 at most),");
        for (int b = 0; b < 256; b++) {
            String text = "stuff " + (char) b + STUFF;
            if (b >= 'a' && b <= 'z') {
                good(text, 1);
            } else {
                faulty(text, SYNTAX, b == 32 || b == 10 ? 8 : 6);
            }
        }
        good("stuff azazazaz" + STUFF, 1);
        good("stuff zzzzzzzz1 2 3 4 5 6;", 1);
        faulty("stuff zzzzzzzzz" + STUFF, SYNTAX, 6);
        faulty("stuff " + times("a", 880) + STUFF, SYNTAX, 6);
        faulty("stuff abcdefgh i 1 2 3 4 5 6;", SYNTAX, 15);
        faulty("slackmost 1;", SYNTAX, 0);
        faulty("mos 1;", SYNTAX, 0);
        faulty("mostt 1;", SYNTAX, 0);
        faulty(times("z", 900), SYNTAX, 0);
    }

    private static void numbers() {
        check.sentence("Terms I, promise 4", "N (digits, as many as there are, 4 at most), ;.");
        for (int b = 0; b < 256; b++) {
            String text = "most " + (char) b + ";";
            if (b == '1' || b == '2') {
                good(text, 1);
            } else if (b >= '0' && b <= '9') {
                faulty(text, OUT, 5);
            } else {
                faulty(text, SYNTAX, b == 32 || b == 10 ? 6 : 5);
            }
        }
        int[] due = {0, 0, 7, 7, 20, 20};
        String[] taken = {"0", "0000", "7", "0007", "20", "0020"};
        for (int i = 0; i < due.length; i++) {
            good("slack " + taken[i] + ";", 1);
            check.due("told(2) of " + taken[i], Check.of("slack " + taken[i] + ";").told(2), due[i]);
        }
        faulty("slack 9999;", OUT, 6);
        for (String long5 : new String[] {"00000", "00007", "10000", "99999", "4294967296", times("0", 890)}) {
            faulty("slack " + long5 + ";", SYNTAX, 6);
        }
    }

    private static void semicolons() {
        check.sentence("Terms I, promise 4", "N (digits, as many as there are, 4 at most), ;.");
        for (int b = 0; b < 256; b++) {
            String text = "slack 7" + (char) b;
            if (b == ';') {
                good(text, 1);
            } else if (b >= '0' && b <= '9') {
                faulty(text, OUT, 6);
            } else {
                faulty(text, SYNTAX, b == 32 || b == 10 ? 8 : 7);
            }
        }
    }

    private static void textOfClauses() {
        check.sentence("Terms I, promise 4", "A CLOTH is a text = {clause \";\"}.");
        good("", 0);
        good("slack 7;", 1);
        good("slack 7;most 1;", 2);
        good(FULLEST, 18);
        faulty(";", SYNTAX, 0);
        faulty("slack 7", SYNTAX, 7);
        faulty("slack 7;;", SYNTAX, 8);
        faulty("slack 7;most 1", SYNTAX, 14);
        faulty("slack 7 most 1;", SYNTAX, 8);
        faulty("7;", SYNTAX, 0);
    }

    /** Every beginning of a clause goes on with one kind of TOKEN alone; here come all that it doesn't go on with. */
    private static void shape(String clause) {
        String[] tokens = clause.split(" ");
        good(clause, 1);
        String text = tokens[0];
        for (int k = 1; k < tokens.length; k++) {
            faulty(text, SYNTAX, text.length());
            if (tokens[k].equals(";")) {
                faulty(text + " 1;", SYNTAX, text.length() + 1);
                faulty(text + " a;", SYNTAX, text.length() + 1);
            } else {
                boolean isNumber = Character.isDigit(tokens[k].charAt(0));
                faulty(text + (isNumber ? " a" : " 1") + " ;", SYNTAX, text.length() + 1);
                boolean isWhole = text.matches("story s( hang \\d \\d \\d \\d)+");
                if (!isWhole) {
                    faulty(text + ";", SYNTAX, text.length());
                }
            }
            text += " " + tokens[k];
        }
    }

    private static void shapesOfClauses() {
        check.sentence("Terms I, promise 4", "clause = \"cloth\" N N | \"slack\" N | \"mended\" N | \"most\" N |"
                + " \"bright\" N N N |"
                + " \"stuff\" W N N N N N N | \"story\" W HANG {HANG} | \"eye\" W ROW ROW ROW.");
        String[] clauses = {"cloth 2 2 ;", "slack 3 ;", "mended 5 ;", "most 1 ;", "bright 1 2 3 ;",
            "stuff a 1 2 3 4 5 6 ;", "story s hang 1 2 3 4 ;", "story s hang 1 2 3 4 hang 5 6 7 8 hang 9 8 7 6 ;",
            "eye e sees 1 2 3 sees 4 5 6 sees 7 8 9 ;"};
        for (String clause : clauses) {
            shape(clause);
        }
        faulty("story s;", SYNTAX, 7);
        faulty("eye e sees 1 2 3 sees 4 5 6;", SYNTAX, 27);
        faulty("eye e sees 1 2 3 sees 4 5 6 sees 7 8 9 sees 1 2 3;", SYNTAX, 39);
        faulty("hang 1 2 3 4;", SYNTAX, 0);
        faulty("sees 1 2 3;", SYNTAX, 0);
        faulty("thread 1;", SYNTAX, 0);
        for (String clause : clauses) {
            // A WORD of the grammar with any one of its letters changed, and with its last one missing, is another.
            String word = clause.substring(0, clause.indexOf(' '));
            for (int i = 0; i < word.length(); i++) {
                faulty(word.substring(0, i) + "x" + clause.substring(i + 1), SYNTAX, 0);
            }
            faulty(word.substring(0, word.length() - 1) + clause.substring(word.length()), SYNTAX, 0);
        }
    }

    private static void shapesOfHangAndRow() {
        check.sentence("Terms I, promise 4", "HANG = \"hang\" N N N N; ROW = \"sees\" N N N.");
        good("story s hang 1 2 3 4;", 1);
        faulty("story s hang 1 2 3;", SYNTAX, 18);
        faulty("story s hang 1 2 3 4 5;", SYNTAX, 21);
        faulty("story s hang 1 2 3 hang 1 2 3 4;", SYNTAX, 19);
        faulty("story s hangs 1 2 3 4;", SYNTAX, 8);
        faulty("story s han 1 2 3 4;", SYNTAX, 8);
        faulty("story s sees 1 2 3 4;", SYNTAX, 8);
        good("eye e sees 1 2 3 sees 4 5 6 sees 7 8 9;", 1);
        faulty("eye e sees 1 2 sees 4 5 6 sees 7 8 9;", SYNTAX, 15);
        faulty("eye e sees 1 2 3 4 sees 4 5 6 sees 7 8 9;", SYNTAX, 17);
        faulty("eye e see 1 2 3 sees 4 5 6 sees 7 8 9;", SYNTAX, 6);
        faulty("eye e hang 1 2 3 sees 4 5 6 sees 7 8 9;", SYNTAX, 6);
    }

    private static void columnsAndRows() {
        check.sentence("Terms I, promises 4 and 6", "cloth: columns 1 .. 8, rows 1 .. 6 (4, 3);");
        numberEnds("cloth ", 1, 8, " 6;");
        numberEnds("cloth 8 ", 1, 6, ";");
        int[][] sizes = {{1, 1}, {8, 6}, {8, 1}, {1, 6}};
        for (int[] size : sizes) {
            ClothBack x = Check.of("cloth " + size[0] + " " + size[1] + ";");
            check.due("told(0)", x.told(0), size[0]);
            check.due("told(1)", x.told(1), size[1]);
            check.ends("shows of a cell", n -> x.shows(n, 0, 0, 0), 0, -1, size[0] * size[1] - 1, -1, ClothBack.RANGE);
        }
        ClothBack untold = Check.of("slack 1;");
        check.due("told(0) without", untold.told(0), 4);
        check.due("told(1) without", untold.told(1), 3);
    }

    private static void slack() {
        check.sentence("Terms I, promises 4 and 6", "slack 0 .. 20 (0);");
        numberEnds("slack ", 0, 20, ";");
        check.due("told(2) of 0", Check.of("slack 0;").told(2), 0);
        check.due("told(2) of 20", Check.of("slack 20;").told(2), 20);
        check.due("told(2) without", Check.of("most 1;").told(2), 0);
    }

    private static void menders() {
        check.sentence("Terms I, promises 4 and 6", "mended: a YEAR 1 .. 999, at most 3, rising;");
        numberEnds("mended ", 1, 999, ";");
        good("mended 1;mended 2;", 2);
        faulty("mended 1;mended 1;", OUT, 16);
        faulty("mended 2;mended 1;", OUT, 16);
        good("mended 997;mended 998;mended 999;", 3);
        faulty("mended 997;mended 998;mended 998;", OUT, 29);
        faulty("mended 998;mended 999;mended 1000;", OUT, 29);
        faulty("mended 5;mended 6;mended 5;", OUT, 25);
        faulty("mended 1;mended 2;mended 3;mended 4;", ROOM, 27);
        ClothBack x = Check.of("mended 1;mended 500;mended 999;");
        check.due("told(7)", x.told(7), 3);
        check.due("told(20)", x.told(20), 1);
        check.due("told(22)", x.told(22), 999);
        check.due("told(7) without", Check.of("").told(7), 0);
    }

    private static void most() {
        check.sentence("Terms I, promises 4, 6 and 9", "most: 1 or 2 stuffs in a thread (2);");
        numberEnds("most ", 1, 2, ";");
        String stuffs = "stuff a" + STUFF + "stuff b" + STUFF;
        int[] due = {18, 99, 99};
        String[] texts = {"most 1;", "most 2;", ""};
        for (int i = 0; i < due.length; i++) {
            ClothBack x = Check.of(texts[i] + stuffs);
            check.due("told(3) of " + texts[i], x.told(3), i == 0 ? 1 : 2);
            check.due("count(4) of " + texts[i], x.count(4), due[i]);
            check.due("thread of two by " + texts[i], x.thread(0, 1, 1, 1), i == 0 ? ClothBack.RANGE : 18);
        }
    }

    private static void bright() {
        check.sentence("Terms I, promises 4 and 6", "bright: the most light of each of three colours, 0 .. 200 (100,"
                + " 100, 100).");
        numberEnds("bright ", 0, 200, " 0 200;");
        numberEnds("bright 200 ", 0, 200, " 0;");
        numberEnds("bright 0 200 ", 0, 200, ";");
        ClothBack x = Check.of("bright 0 199 200;");
        int[] due = {0, 199, 200};
        for (int c = 0; c < 3; c++) {
            check.due("told(" + (10 + c) + ")", x.told(10 + c), due[c]);
            check.due("told(" + (10 + c) + ") without", Check.of("").told(10 + c), 100);
        }
    }

    private static void stuffs() {
        check.sentence("Terms I, promises 4, 7 and 10", "stuff: a name, how much it takes away of each colour 0 .. 99,"
                + " its FAST part of a thousand"
                + " 0 .. 1000, and after how many hours that halves, 1 .. 999, and the other part, 1 .. 9999; at most"
                + " 5.");
        numberEnds("stuff a ", 0, 99, " 0 99 5 5 5;");
        numberEnds("stuff a 99 ", 0, 99, " 0 5 5 5;");
        numberEnds("stuff a 0 99 ", 0, 99, " 5 5 5;");
        numberEnds("stuff a 1 1 1 ", 0, 1000, " 5 5;");
        numberEnds("stuff a 1 1 1 5 ", 1, 999, " 5;");
        numberEnds("stuff a 1 1 1 5 5 ", 1, 9999, ";");
        ClothBack x = Check.of("stuff a 0 99 1 0 1 9999;stuff b 99 0 0 1000 999 1;");
        int[] taken = {99, 0, 98};
        for (int c = 0; c < 3; c++) {
            check.due("colour " + c + " of nine parts", x.colour(8, 0, c), taken[c]);
        }
        check.due("FAST 0, other 9999: strength(0, 9998)", x.strength(0, 9998), 1000);
        check.due("FAST 0, other 9999: strength(0, 9999)", x.strength(0, 9999), 500);
        check.due("FAST 1000, hours 999: strength(1, 998)", x.strength(1, 998), 1000);
        check.due("FAST 1000, hours 999: strength(1, 999)", x.strength(1, 999), 500);
        String four = "stuff a" + STUFF + "stuff b" + STUFF + "stuff c" + STUFF + "stuff d" + STUFF;
        good(four + "stuff e" + STUFF, 5);
        faulty(four + "stuff e" + STUFF + "stuff f" + STUFF, ROOM, four.length() + 20);
        check.due("told(4)", Check.of(four + "stuff e" + STUFF).told(4), 5);
        check.due("told(4) without", Check.of("").told(4), 0);
    }

    private static void tales() {
        check.sentence("Terms I, promises 4, 6 and 8", "story: a name, and HANGS, at most 6: YEARS 1 .. 400, hours of"
                + " light a YEAR 0 .. 99 at the"
                + " first column and at the last, and how many of a hundred come to the back 0 .. 100; at most 4.");
        numberEnds("story s hang ", 1, 400, " 99 99 100;");
        numberEnds("story s hang 400 ", 0, 99, " 99 100;");
        numberEnds("story s hang 400 99 ", 0, 99, " 100;");
        numberEnds("story s hang 400 99 99 ", 0, 100, ";");
        numberEnds("story s hang 1 1 1 1 hang ", 1, 400, " 0 0 0;");
        good("story s" + times(HANG, 1) + ";", 1);
        good("story s" + times(HANG, 6) + ";", 1);
        faulty("story s" + times(HANG, 7) + ";", ROOM, 7 + 6 * HANG.length() + 1);
        ClothBack x = Check.of("cloth 2 1;story a hang 1 0 99 0;story b hang 400 99 0 100;story c" + times(HANG, 6)
                + ";story d" + HANG + ";");
        int[][] due = {{0, 0, 0, 0}, {0, 1, 0, 99}, {0, 1, 1, 0}, {1, 0, 0, 39600}, {1, 0, 1, 39600}, {1, 1, 0, 0}};
        for (int[] one : due) {
            check.due("hours of story " + one[0] + " in " + one[1], x.hours(one[0], one[1], 0, one[2]), one[3]);
        }
        check.due("told(5)", x.told(5), 4);
        check.due("told(30)", x.told(30), 1);
        check.due("told(32)", x.told(32), 6);
        check.due("told(5) without", Check.of("").told(5), 0);
        String four = "story a" + HANG + ";story b" + HANG + ";story c" + HANG + ";story d" + HANG + ";";
        good(four, 4);
        faulty(four + "story e" + HANG + ";", ROOM, four.length());
    }

    private static void eyes() {
        check.sentence("Terms I, promises 4, 6 and 29", "eye: a name, and of three senses what each takes of each"
                + " colour, 0 .. 9; at most 2.");
        numberEnds("eye e sees ", 0, 9, " 0 9 sees 4 5 6 sees 7 8 9;");
        numberEnds("eye e sees 0 ", 0, 9, " 9 sees 4 5 6 sees 7 8 9;");
        numberEnds("eye e sees 0 9 ", 0, 9, " sees 4 5 6 sees 7 8 9;");
        numberEnds("eye e sees 1 2 3 sees ", 0, 9, " 5 6 sees 7 8 9;");
        numberEnds("eye e sees 1 2 3 sees 4 5 6 sees 7 8 ", 0, 9, ";");
        good("eye a" + SEES, 1);
        good("eye a" + SEES + "eye b" + SEES, 2);
        faulty("eye a" + SEES + "eye b" + SEES + "eye c" + SEES, ROOM, 2 * (5 + SEES.length()));
        check.due("told(6)", Check.of("eye a" + SEES + "eye b" + SEES).told(6), 2);
        check.due("told(6) without", Check.of("").told(6), 0);
        // Black is seen as nothing and grey of 50 is wanted: what each sense takes of it, times 50, is missed.
        int[][] takes = {{0, 0, 0, 0}, {0, 0, 9, 450}, {9, 9, 9, 1350}};
        for (int[] one : takes) {
            String row = " sees " + one[0] + " " + one[1] + " " + one[2];
            ClothBack x = Check.of("story s hang 1 0 0 0;eye e" + row + " sees 0 0 0 sees 0 0 0;eye f sees 0 0 0 sees"
                    + " 0 0 0"
                    + row + ";");
            x.look(0, 0, 0, 0, 0, 0);
            check.due("MISSED by the first sense" + row, x.thrown(0, 0, 0, 0, 3), one[3]);
            check.due("MISSED by the last sense" + row, x.thrown(0, 1, 0, 0, 3), one[3]);
        }
    }

    private static void numbersAndNames() {
        check.sentence("Terms I, promises 4, 6, 7, 8 and 29", "All are numbered from 0 as they come; names of one kind"
                + " are unlike.");
        ClothBack x = Check.of("mended 5;mended 9;stuff b 0 0 0 0 1 9;stuff a 0 0 0 0 1 7;story b hang 3 0 0 0;"
                + "story a hang 4 0 0 0;eye b sees 1 0 0 sees 0 0 0 sees 0 0 0;eye a sees 2 0 0 sees 0 0 0 sees 0 0"
                + " 0;");
        check.ends("strength of a stuff behind 7 hours", n -> x.strength(n, 7), 0, 1000, 1, 500, ClothBack.RANGE);
        check.ends("hours by a story", n -> x.hours(n, 0, 0, 0), 0, 0, 1, 0, ClothBack.RANGE);
        check.due("told(40): years of story 0", x.told(40), 3);
        check.due("told(41): years of story 1", x.told(41), 4);
        check.due("told(20): year 0", x.told(20), 5);
        check.due("told(21): year 1", x.told(21), 9);
        x.look(0, 0, 0, 0, 0, 0);
        check.ends("MISSED by an eye", n -> x.thrown(0, n, 0, 0, 3), 0, 50, 1, 100, ClothBack.RANGE);
        good("stuff a" + STUFF + "story a" + HANG + ";eye a" + SEES, 3);
        good("stuff stuff" + STUFF + "story story" + HANG + ";eye eye" + SEES + "story hang" + HANG + ";", 4);
        faulty("stuff a" + STUFF + "stuff a" + STUFF, TWICE, 26);
        good("stuff abcdefgh" + STUFF + "stuff abcdefgi" + STUFF + "stuff bbcdefgh" + STUFF + "stuff abcdefg" + STUFF,
                4);
        good("stuff a" + STUFF + "stuff aa" + STUFF + "stuff aaaaaaaa" + STUFF + "stuff aaaaaaa" + STUFF, 4);
        good("story zzzzzzzz" + HANG + ";story zzzzzzz" + HANG + ";story zzzzzzzy" + HANG + ";", 3);
    }

    private static void places() {
        check.sentence("Terms I, promises 4 and 5", "FAULTS: KIND and PLACE (a TOKEN's first byte; the text's length"
                + " at its end), the first come to"
                + " as TOKENS are read one by one, of one TOKEN the least KIND:");
        faulty("x", SYNTAX, 0);
        faulty("  xyz", SYNTAX, 2);
        faulty("slack 0021;", OUT, 6);
        faulty("slack", SYNTAX, 5);
        faulty("slack  \n", SYNTAX, 8);
        faulty(times(" ", 896) + "most", SYNTAX, 900);
        faulty("slack 21 $ x", OUT, 6);
        faulty("slack 1 $ slack 21;", SYNTAX, 8);
        faulty("slack 1;slack 21;", TWICE, 8);
        faulty("mended 9;mended 8;mended 0;", OUT, 16);
        // A TOKEN that is faulty in two ways: where no text goes on with it, nothing else is asked of it.
        faulty("slack 1 slack 2;", SYNTAX, 8);
        faulty("slack 1 21;", SYNTAX, 8);
        faulty("mended 1;mended 2;mended 3 mended 4;", SYNTAX, 27);
        faulty("slack 00021;", SYNTAX, 6);
        faulty("story s" + times(HANG, 5) + " hang 1 2 3 hang 1 2 3 4;", SYNTAX, 7 + 5 * HANG.length() + 12);
        faulty("stuff a" + STUFF + "stuff 1" + STUFF, SYNTAX, 26);
    }

    private static void syntax() {
        check.sentence("Terms I, promises 4 and 5", "1 SYNTAX: a TOKEN (or byte that is none, a run that is too long)"
                + " with which no text goes on.");
        faulty("slack slack;", SYNTAX, 6);
        faulty("slack ;", SYNTAX, 6);
        faulty("stuff 1", SYNTAX, 6);
        faulty("eye ;", SYNTAX, 4);
        for (int b : new int[] {0, 9, 11, 13, 31, 33, 47, 58, 60, 64, 65, 90, 91, 96, 123, 127, 128, 160, 255}) {
            faulty("" + (char) b, SYNTAX, 0);
            faulty("slack 7;" + (char) b, SYNTAX, 8);
            faulty("slack 7" + (char) b + ";", SYNTAX, 7);
        }
        good("story abcdefgh" + HANG + ";", 1);
        faulty("story abcdefghi" + HANG + ";", SYNTAX, 6);
        good("cloth 0004 0003;", 1);
        faulty("cloth 0004 00003;", SYNTAX, 11);
    }

    private static void outOfBounds() {
        check.sentence("Terms I, promises 4 and 5", "2 RANGE: an N out of its bounds, or that doesn't rise.");
        good("most 2;", 1);
        faulty("most 3;", OUT, 5);
        faulty("most 0;", OUT, 5);
        faulty("most 3", OUT, 5);
        good("mended 7;mended 8;", 2);
        faulty("mended 7;mended 7;", OUT, 16);
        faulty("mended 7;slack 3;mended 6", OUT, 24);
        faulty("mended 999;mended 1000;", OUT, 18);
        good("cloth 8 1;bright 9 8 7;", 2);
    }

    private static void twice() {
        check.sentence("Terms I, promises 4 and 5", "3 TWICE: cloth, slack, most, bright again; a name that one of its"
                + " kind has.");
        String[] once = {"cloth 2 2;", "slack 3;", "most 1;", "bright 1 2 3;"};
        for (String clause : once) {
            good(clause, 1);
            faulty(clause + clause, TWICE, clause.length());
            faulty(clause + "mended 1;" + clause.substring(0, clause.indexOf(' ')), TWICE, clause.length() + 9);
        }
        good("cloth 2 2;slack 3;most 1;bright 1 2 3;", 4);
        String[] heads = {"stuff ", "story ", "eye "};
        String[] tails = {STUFF, HANG + ";", SEES};
        for (int i = 0; i < heads.length; i++) {
            String first = heads[i] + "abcdefgh" + tails[i];
            good(first + heads[i] + "abcdefgi" + tails[i], 2);
            faulty(first + heads[i] + "abcdefgh" + tails[i], TWICE, first.length() + heads[i].length());
            faulty(first + heads[i] + "abcdefgh", TWICE, first.length() + heads[i].length());
            for (int other = 0; other < heads.length; other++) {
                if (other != i) {
                    good(first + heads[other] + "abcdefgh" + tails[other], 2);
                }
            }
        }
        String three = "stuff a" + STUFF + "stuff b" + STUFF + "stuff c" + STUFF + "stuff d" + STUFF;
        for (String name : new String[] {"a", "b", "c", "d"}) {
            faulty(three + "stuff " + name + STUFF, TWICE, three.length() + 6);
        }
    }

    private static void room() {
        check.sentence("Terms I, promises 4 and 5", "4 ROOM: a stuff, story, eye, mended too many, at its first WORD;"
                + " the seventh HANG, at its \"hang\".");
        String[] heads = {"stuff ", "story ", "eye "};
        String[] tails = {STUFF, HANG + ";", SEES};
        int[] most = {5, 4, 2};
        for (int i = 0; i < heads.length; i++) {
            String all = "";
            for (int k = 0; k < most[i]; k++) {
                all += heads[i] + (char) ('a' + k) + tails[i];
                good(all, k + 1);
            }
            faulty(all + " " + heads[i] + "z" + tails[i], ROOM, all.length() + 1);
            faulty(all + heads[i] + "a", ROOM, all.length());
            faulty(all + heads[i].trim(), ROOM, all.length());
            faulty(all + heads[i] + "7", ROOM, all.length());
        }
        faulty("mended 1;mended 2;mended 3;mended", ROOM, 27);
        faulty("mended 1;mended 2;mended 3; mended 1", ROOM, 28);
        String six = "story s" + times(HANG, 6);
        good(six + ";", 1);
        faulty(six + " hang", ROOM, six.length() + 1);
        faulty(six + "hang;", ROOM, six.length());
        faulty(six + " hang 0", ROOM, six.length() + 1);
        good(six + ";story t" + HANG + ";", 2);
        good("story t" + HANG + ";" + six + ";", 2);
    }

    // ---- promises

    private static void newObject() {
        check.sentence("Promise 1", "A CLOTH of which nothing is told.");
        ClothBack x = new ClothBack();
        int[] due = {4, 3, 0, 2, 0, 0, 0, 0, -1, -1, 100, 100, 100, -1};
        for (int what = 0; what < due.length; what++) {
            check.due("told(" + what + ")", x.told(what), due[what]);
        }
        for (int what = 0; what < 6; what++) {
            check.due("count(" + what + ")", x.count(what), 0);
        }
        check.due("strength(0, 0): no stuff", x.strength(0, 0), ClothBack.RANGE);
        check.due("hours(0, 0, 0, 0): no story", x.hours(0, 0, 0, 0), ClothBack.RANGE);
        check.due("thread(0, 1, -1, 0): no thread", x.thread(0, 1, -1, 0), ClothBack.RANGE);
        check.due("colour(0, 0, 0): no thread", x.colour(0, 0, 0), ClothBack.RANGE);
        check.due("fit(0, 0, 0, 0): no story", x.fit(0, 0, 0, 0), ClothBack.RANGE);
        check.due("world(0, 0, 0): no story", x.world(0, 0, 0), ClothBack.RANGE);
        check.due("stories(0)", x.stories(0), 0);
        check.ends("shows of a cell", n -> x.shows(n, 0, 0, 0), 0, -1, 11, -1, ClothBack.RANGE);
        check.ends("take of a slot", x::take, 0, ClothBack.STATE, 2, ClothBack.STATE, ClothBack.RANGE);
        check.due("look(0, ..): the latest step is 0", x.look(0, 11, 1, 0, 0, 0), 1);
        check.due("cloth() of no bytes", x.cloth(), 0);
    }

    private static void feed() {
        check.sentence("Promise 2", "Twenty bytes come behind THE TAPE, the highest of each int first: how many it has;"
                + " FULL when there would be more than 900.");
        ClothBack x = new ClothBack();
        for (int i = 1; i <= 45; i++) {
            check.due("feed " + i, x.feed(0x20202020, 0x20202020, 0x20202020, 0x20202020, 0x20202020), 20 * i);
        }
        check.due("the 46th feed", x.feed(0, 0, 0, 0, 0), ClothBack.FULL);
        check.due("end(881)", x.end(881), 881);
        check.due("feed to 901", x.feed(0, 0, 0, 0, 0), ClothBack.FULL);
        check.due("count(5) behind it", x.count(5), 881);
        check.due("cloth(): none of it came", x.cloth(), 0);
        for (int at = 0; at < 20; at++) {
            int[] four = {0x20202020, 0x20202020, 0x20202020, 0x20202020, 0x20202020};
            four[at / 4] = 0x20202020 & ~(0xff << 24 - at % 4 * 8) | 0xff << 24 - at % 4 * 8;
            for (int i = 0; i < 44; i++) {
                x.feed(0x20202020, 0x20202020, 0x20202020, 0x20202020, 0x20202020);
            }
            check.due("feed to 900", x.feed(four[0], four[1], four[2], four[3], four[4]), 900);
            check.due("cloth()", x.cloth(), ClothBack.NONE);
            check.due("fault(1): byte " + at + " of twenty", x.fault(1), 880 + at);
            x = new ClothBack();
        }
        check.keepsAll("feed to more than 900", () -> {
            ClothBack full = inUse();
            Check.tape(full, "slack 9;" + times(" ", 873));
            return full;
        }, y -> y.feed(0x24242424, 0x24242424, 0x24242424, 0x24242424, 0x24242424), ClothBack.FULL);
    }

    private static void end() {
        check.sentence("Promise 3", "THE TAPE has its first n bytes alone: n; NONE when it has not so many, or n is"
                + " below 0.");
        ClothBack empty = new ClothBack();
        check.ends("end on an empty tape", empty::end, 0, 0, 0, 0, ClothBack.NONE);
        check.ends("end on fifteen bytes", n -> inUse().end(n), 0, 0, 15, 15, ClothBack.NONE);
        for (int n : new int[] {-1, 16, Integer.MIN_VALUE, Integer.MAX_VALUE}) {
            check.keepsAll("end(" + n + ")", TextBoundsTest::inUse, x -> x.end(n), ClothBack.NONE);
        }
        ClothBack x = inUse();
        check.due("end(8) of slack 7;most 2;", x.end(8), 8);
        check.due("end(9): these are gone", x.end(9), ClothBack.NONE);
        check.due("cloth()", x.cloth(), 1);
        check.due("told(2)", x.told(2), 7);
        ClothBack y = inUse();
        check.due("end(7) cuts within a clause", y.end(7), 7);
        check.due("feed comes behind these", y.feed(0x3b6d6f73, 0x7420313b, 0x20202020, 0x20202020, 0x20202020), 27);
        check.due("cloth()", y.cloth(), 2);
        // What was cut away isn't read, whatever it was: here the TOKEN went on, or the clause was closed.
        String[] cut = {"slack 17;", "slack 1;", "slack 1 ;", "stuff ab 1 2 3 4 5 6;", "slack;"};
        int[] kept = {7, 7, 7, 7, 4};
        int[] place = {7, 7, 7, 7, 0};
        for (int i = 0; i < cut.length; i++) {
            ClothBack short1 = new ClothBack();
            Check.tape(short1, cut[i]);
            check.due("end(" + kept[i] + ") of " + cut[i], short1.end(kept[i]), kept[i]);
            check.due("cloth() of that", short1.cloth(), ClothBack.NONE);
            check.due("fault(0) of that", short1.fault(0), SYNTAX);
            check.due("fault(1) of that", short1.fault(1), place[i]);
        }
        ClothBack z = inUse();
        check.due("end(0)", z.end(0), 0);
        check.due("cloth() of nothing", z.cloth(), 0);
        check.ends("end on a full tape", n -> {
            ClothBack full = new ClothBack();
            Check.tape(full, times(" ", 900));
            return full.end(n);
        }, 0, 0, 900, 900, ClothBack.NONE);
    }

    private static void cloth() {
        check.sentence("Promise 4", "THE TAPE is a CLOTH: how many clauses; NONE with a FAULT (it stays). LOOKS, TRIED"
                + " are none then,"
                + " the latest STEP is 0, SLOTS are empty.");
        good("", 0);
        good(FULLEST, 18);
        check.holds("the fullest cloth is within the tape", FULLEST.length() <= 895);
        String[] bad = {"x", "slack 7", "cloth 8 6;slack 20;stuff z 1 2 3 4 5 0;", "slack 7;slack 7;", FULLEST + "eye"};
        for (String text : bad) {
            ClothBack x = inUse();
            check.due("cloth() of " + text, Check.cloth(x, text), ClothBack.NONE);
            // But for its FAULT and the tape, all is as it was: a good cloth with nothing on it would clear the rest.
            String[] behind = Portrait.of(x).split("\n", 2);
            ClothBack untouched = inUse();
            untouched.end(0);
            String[] due = Portrait.of(untouched).split("\n", 2);
            check.holds("it stays behind " + text + "\n" + behind[1] + "instead of\n" + due[1],
                    behind[1].equals(due[1]));
        }
        String[] fine = {"", "slack 7;", "cloth 2 1;stuff a 90 45 9 1000 10 1;story s hang 20 1 1 25;"};
        for (String text : fine) {
            ClothBack x = inUse();
            x.keep(0);
            x.keep(2);
            Check.cloth(x, text);
            String want = Portrait.of(Check.of(text));
            check.holds("all is new behind " + text, Portrait.of(x).equals(want));
            check.holds("the latest step is 0", want.contains("step 0 1\n"));
            check.holds("slots are empty", want.contains("slot 0 -4\nslot 1 -4\nslot 2 -4\n"));
            for (String between : new String[] {"", "slack 3;mended 7;", FULLEST, FULLEST + "eye"}) {
                ClothBack again = Check.of(FULLEST);
                Check.cloth(again, between);
                Check.cloth(again, text);
                check.holds("nothing of older cloths is in " + text, Portrait.of(again).equals(want));
            }
        }
    }

    private static void fault() {
        check.sentence("Promise 5", "Of the latest cloth(), what 0: its FAULT's KIND, 0 without (and ahead of any), 1:"
                + " its PLACE (NONE)."
                + " NONE for another what.");
        ClothBack x = new ClothBack();
        String[] texts = {"slack 7;", "x", "slack 7;slack", "", "  most 3", "mended 1;mended 2;mended 3;mended", " "};
        int[][] due = {{0, -1}, {1, 0}, {3, 8}, {0, -1}, {2, 7}, {4, 27}, {0, -1}};
        check.ends("fault ahead of any", x::fault, 0, 0, 1, -1, ClothBack.NONE);
        for (int i = 0; i < texts.length; i++) {
            Check.tape(x, texts[i]);
            check.due("fault(0) ahead of cloth() of " + texts[i], x.fault(0), i == 0 ? 0 : due[i - 1][0]);
            x.cloth();
            check.ends("fault behind " + texts[i], x::fault, 0, due[i][0], 1, due[i][1], ClothBack.NONE);
        }
    }

    private static void told() {
        check.sentence("Promise 6", "What 0: columns, 1: rows, 2: slack, 3: most, 4: STUFFS, 5: STORIES, 6: EYES, 7:"
                + " mended;"
                + " 10 + c: bright of colour c, 20 + m: the m-th YEAR of mended, 30 + s: HANGS of STORY s, 40 + s: all"
                + " YEARS of it."
                + " NONE for others.");
        ClothBack x = Check.of(FULLEST);
        check.ends("told, of the fullest cloth", x::told, 0, 8, 7, 3, ClothBack.NONE);
        int[][] ends = {{10, 200, 12, 7}, {20, 1, 22, 999}, {30, 6, 33, 1}, {40, 6, 43, 1}};
        for (int[] one : ends) {
            check.ends("told, of the fullest cloth", x::told, one[0], one[1], one[2], one[3], ClothBack.NONE);
        }
        check.refuses("told", x::told, ClothBack.NONE, 9, 14, 18, 24, 28, 35, 38, 45, 50, 100, -10, -40);
        ClothBack y = Check.of("mended 7;story s" + HANG + ";");
        for (int from : new int[] {20, 30, 40}) {
            check.ends("told, one of each", y::told, from, from == 20 ? 7 : 1, from, from == 20 ? 7 : 1,
                    ClothBack.NONE);
        }
        check.refuses("told, of nothing", new ClothBack()::told, ClothBack.NONE, 20, 21, 22, 30, 33, 40, 43);
        ClothBack years = Check.of("story s" + times(" hang 400 0 0 0", 6) + ";");
        check.due("told(40) of the most years", years.told(40), 2400);
    }
}
