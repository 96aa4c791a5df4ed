/** What the document says of bounds in "Terms" II from FIT on, and in promises 18 to 22: one test for each sentence. */
public final class FitBoundsTest {
    // Nine parts take 50 of each colour, and never less: they show 49, eight parts 55, seven 61.
    private static final String PLAIN = "cloth 1 1;stuff a 50 50 50 0 1 9999;story s hang 1 0 0 0;";
    // Twenty hours in front, five behind; from year 8 on 12 and 3, from 15 on 5 and 1; what halves, halves at ten.
    private static final String TEXT = "cloth 2 2;mended 8;mended 15;stuff a 90 45 9 1000 10 1;story s hang 20 1 1 25;"
            + "story t hang 20 0 0 0;";

    private static Check check;

    public static void main(String[] args) {
        Check own = new Check("FitBoundsTest");
        all(own);
        own.close();
    }

    static void all(Check to) {
        check = to;
        fitsBySlack();
        fitsByYears();
        fitsByColour();
        fitsByMost();
        numbersOfPairs();
        nothingKnown();
        goneTellsNothing();
        wasIsBehindNoHours();
        spanOfNoneOneAll();
        greyByABound();
        fit();
        pair();
        was();
        grey();
        mended();
    }

    private static void show(ClothBack x, int step, int cell, int side, int thread, int h) {
        x.look(step, cell, side, x.colour(thread, h, 0), x.colour(thread, h, 1), x.colour(thread, h, 2));
    }

    /** From step 5 on three pairs fit cell 0 (1 from 15 on, 3 from 8 on, 7), one first 1, one mended 2, none 3. */
    private static ClothBack fourCells() {
        ClothBack x = Check.of(TEXT);
        show(x, 5, 0, 0, 7, 20);
        show(x, 5, 1, 0, 7, 20);
        show(x, 5, 1, 1, 7, 5);
        show(x, 5, 2, 0, 7, 5);
        x.look(5, 3, 0, 1, 1, 1);
        return x;
    }

    /** The greatest THREAD that fits cell 0, NONE if nothing fits. */
    private static int greatestThread(ClothBack x) {
        int pairs = x.fit(0, 0, 999, 0);
        return pairs == 0 ? ClothBack.NONE : x.pair(0, 0, 999, pairs - 1, 0);
    }

    /** Tells what nine parts show, but for one colour that is off: in front (0), behind (1) or as a hair (2). */
    private static void tellOff(ClothBack x, int sight, int c, int off) {
        int[] shades = {49, 49, 49};
        shades[c] += off;
        if (sight < 2) {
            x.look(0, 0, sight, shades[0], shades[1], shades[2]);
        } else {
            x.attempt(0, 0, 999, shades[0], shades[1], shades[2]);
        }
    }

    private static final String FIT = "FIT of a CELL by a STORY, as known at a STEP: all pairs of a THREAD (of most"
            + " STUFFS at most) and a"
            + " YEAR from which on it got light (0, or one of mended), with which all that is known of the CELL"
            + " (front, behind, TRIED)"
            + " is off by slack at most in each colour: by HOURS from that YEAR.";

    private static void fitsBySlack() {
        check.sentence("Terms II, promise 18", FIT);
        for (int slack : new int[] {0, 2, 20}) {
            for (int sight = 0; sight < 3; sight++) {
                for (int c = 0; c < 3; c++) {
                    for (int off : new int[] {-slack - 1, -slack, slack, slack + 1}) {
                        ClothBack x = Check.of("slack " + slack + ";" + PLAIN);
                        tellOff(x, sight, c, off);
                        // By 21 brighter in one colour nine parts are off, but eight, 6 off in the others, are not.
                        int due = Math.abs(off) <= slack ? 8 : off == 21 ? 7 : ClothBack.NONE;
                        check.due("slack " + slack + ", sight " + sight + ", colour " + c + " off by " + off,
                                greatestThread(x), due);
                    }
                }
            }
        }
        for (int wrong = 0; wrong < 3; wrong++) {
            ClothBack x = Check.of("slack 2;" + PLAIN);
            for (int sight = 0; sight < 3; sight++) {
                tellOff(x, sight, sight, sight == wrong ? 2 : 0);
            }
            check.due("all that is known is within slack", greatestThread(x), 8);
            ClothBack y = Check.of("slack 2;" + PLAIN);
            for (int sight = 0; sight < 3; sight++) {
                tellOff(y, sight, sight, sight == wrong ? 3 : 0);
            }
            check.due("one of all that is known is off", greatestThread(y), ClothBack.NONE);
        }
        // Both sides and all twenty hairs may be of one cell: each of them tells, the last one too.
        for (int wrong = -1; wrong < 22; wrong++) {
            ClothBack x = Check.of("slack 2;" + PLAIN);
            for (int sight = 0; sight < 22; sight++) {
                tellOff(x, Math.min(sight, 2), sight % 3, sight == wrong ? -3 : -2);
            }
            check.due("22 of one cell, off is " + wrong, greatestThread(x), wrong < 0 ? 8 : ClothBack.NONE);
        }
        // Black is as dark as can be: what would be darker shows as 0 too.
        ClothBack dark = Check.of("cloth 1 1;slack 1;stuff a 99 0 0 0 1 9999;stuff b 99 0 0 0 1 9999;story s hang 1 0"
                + " 0 0;");
        dark.look(0, 0, 0, 1, 99, 99);
        check.due("1 by slack 1: 0 of nine parts and all darker ones", dark.fit(0, 0, 0, 1), 2 + 53);
        dark.look(0, 0, 0, 2, 99, 99);
        check.due("2 by slack 1: none", dark.fit(0, 0, 0, 1), 0);
    }

    private static void fitsByYears() {
        check.sentence("Terms II, promise 18", FIT);
        String[] mended = {"", "mended 1;", "mended 19;mended 20;", "mended 1;mended 20;mended 999;"};
        for (int many = 0; many < 4; many++) {
            ClothBack x = Check.of(mended[many] + "stuff a 90 45 9 1000 10 1;story s hang 20 1 1 25;");
            int years = x.told(7) + 1;
            check.due("pairs by " + mended[many], x.fit(0, 0, 0, 0), 9 * years);
            check.due("the first year", x.pair(0, 0, 0, 0, 1), 0);
            for (int m = 1; m < years; m++) {
                check.due("year " + m + " of " + mended[many], x.pair(0, 0, 0, m, 1), x.told(19 + m));
            }
            check.due("the next thread", x.pair(0, 0, 0, years, 0), 1);
        }
        // Ten hours halve it: from year 10 on there are ten, from 11 on nine, from 20 on none.
        ClothBack x = Check.of("cloth 1 1;mended 10;mended 11;mended 20;stuff a 90 45 9 1000 10 1;story s hang 20 1 1"
                + " 25;");
        show(x, 0, 0, 0, 8, 10);
        check.due("halved: fits from year 10 on alone", x.fit(0, 0, 0, 0), 1);
        check.due("halved: from year 10 on", x.fit(0, 0, 0, 3), 10);
        show(x, 0, 0, 0, 8, 9);
        check.due("whole: fits from years 11 and 20 on", x.fit(0, 0, 0, 0), 2);
        check.due("whole: from year 11 on", x.pair(0, 0, 0, 0, 1), 11);
        check.due("whole: from year 20 on", x.pair(0, 0, 0, 1, 1), 20);
    }

    /** A pair fits what COLOUR tells of it, also where what is cut off is nearly a whole. */
    private static void fitsByColour() {
        check.sentence("Terms II, promise 18", FIT);
        String text = "cloth 1 1;stuff a 41 82 0 439 999 1;stuff b 41 1 82 440 999 1;story s hang 10 1 1 0;";
        for (int thread = 0; thread < 99; thread++) {
            ClothBack x = Check.of(text);
            show(x, 0, 0, 0, thread, 10);
            show(x, 0, 0, 1, thread, 0);
            boolean isThere = false;
            for (int i = 0; i < x.fit(0, 0, 0, 0); i++) {
                isThere |= x.pair(0, 0, 0, i, 0) == thread;
            }
            check.holds("thread " + thread + " fits what it shows", isThere);
        }
    }

    private static void fitsByMost() {
        check.sentence("Terms II, promise 18", FIT);
        String stuffs = "cloth 1 1;stuff a 90 0 0 0 1 9999;stuff b 0 90 0 0 1 9999;story s hang 1 0 0 0;";
        int[] due = {18, 99};
        for (int most = 1; most < 3; most++) {
            ClothBack x = Check.of("most " + most + ";" + stuffs);
            check.due("most " + most + ": all", x.fit(0, 0, 0, 1), due[most - 1]);
            x.look(0, 0, 0, 89, 89, 99);
            check.due("most " + most + ": one part of each", x.fit(0, 0, 0, 1), most - 1);
            check.due("most " + most + ": its number", x.fit(0, 0, 0, 2), most == 1 ? ClothBack.NONE : 18);
            x.look(0, 0, 0, 89, 99, 99);
            check.due("most " + most + ": one part of one", x.fit(0, 0, 0, 2), 0);
        }
    }

    private static void numbersOfPairs() {
        check.sentence("Terms II, promise 19", "Numbered: THREADS of one STUFF first (by STUFF, how much), then of two"
                + " (by the first, how much, the second,"
                + " how much); in each the YEARS, rising.");
        ClothBack x = Check.of("mended 3;mended 4;mended 999;stuff a 0 0 0 0 1 1;stuff b 0 0 0 0 1 1;stuff c 0 0 0 0 1"
                + " 1;"
                + "stuff d 0 0 0 0 1 1;stuff e 0 0 0 0 1 1;story s hang 9 1 1 1;");
        check.due("all pairs", x.fit(0, 0, 0, 0), 3420);
        int[][] due = {{0, 0, 0}, {3, 0, 999}, {4, 1, 0}, {35, 8, 999}, {36, 9, 0}, {179, 44, 999}, {180, 45, 0},
                {183, 45, 999},
            {3416, 854, 0}, {3417, 854, 3}, {3418, 854, 4}, {3419, 854, 999}, {3420, -1, -1}};
        for (int[] one : due) {
            check.due("thread of pair " + one[0], x.pair(0, 0, 0, one[0], 0), one[1]);
            check.due("year of pair " + one[0], x.pair(0, 0, 0, one[0], 1), one[2]);
        }
        check.due("the last of one stuff", x.thread(4, 9, -1, 0), 44);
        check.due("the first of two", x.thread(0, 1, 1, 1), 45);
        check.due("the last of the second's parts", x.thread(0, 1, 1, 9), 53);
        check.due("then the next second", x.thread(0, 1, 2, 1), 54);
        check.due("the last second", x.thread(0, 1, 4, 9), 80);
        check.due("then more of the first", x.thread(0, 2, 1, 1), 81);
        check.due("the last of the first", x.thread(0, 9, 4, 9), 45 + 323);
        check.due("then the next first", x.thread(1, 1, 2, 1), 45 + 324);
        check.due("the last of all", x.thread(3, 9, 4, 9), 854);
    }

    private static void nothingKnown() {
        check.sentence("Terms II, promise 18", "(With nothing known: all.)");
        ClothBack x = fourCells();
        int[] due = {3, 1, 1, 0};
        for (int cell = 0; cell < 4; cell++) {
            check.due("fit of cell " + cell + " at 4", x.fit(cell, 0, 4, 0), 27);
            check.due("fit of cell " + cell + " at 5", x.fit(cell, 0, 5, 0), due[cell]);
        }
        check.due("without stuffs all is nothing", Check.of("story s hang 1 0 0 0;").fit(0, 0, 0, 0), 0);
    }

    private static void goneTellsNothing() {
        check.sentence("Terms II, promise 18", "A GONE side tells nothing (a hair that was TRIED tells all the same).");
        ClothBack x = fourCells();
        x.gone(6, 3, 0);
        check.due("gone alone: all", x.fit(3, 0, 6, 0), 27);
        check.due("ahead of that: none", x.fit(3, 0, 5, 0), 0);
        x.gone(6, 3, 1);
        check.due("gone on both sides: all", x.fit(3, 0, 6, 0), 27);
        x.gone(6, 1, 0);
        check.due("front gone: by its back eight parts of any year", x.fit(1, 0, 6, 0), 3);
        check.due("front gone: one thread", x.fit(1, 0, 6, 1), 1);
        x.gone(7, 1, 1);
        check.due("both gone: all", x.fit(1, 0, 7, 0), 27);
        x.attempt(8, 1, 10, x.colour(7, 30, 0), x.colour(7, 30, 1), x.colour(7, 30, 2));
        check.due("a hair tells all the same", x.fit(1, 0, 8, 0), 3);
        x.attempt(9, 1, 18, x.colour(7, 38, 0), x.colour(7, 38, 1), x.colour(7, 38, 2));
        check.due("and another", x.fit(1, 0, 9, 0), 1);
    }

    private static void wasIsBehindNoHours() {
        check.sentence("Terms II, promise 20", "WAS: a THREAD's colours behind 0 hours.");
        ClothBack x = Check.of("cloth 1 1;stuff a 90 45 9 1000 1 1;story s hang 1 1 1 100;story t hang 1 0 0 0;");
        show(x, 0, 0, 0, 8, 1);
        int[] due = {9, 54, 90};
        int[] shown = {54, 77, 95};
        for (int c = 0; c < 3; c++) {
            check.due("shows behind one hour, " + c, x.shows(0, 0, 0, c), shown[c]);
            check.due("was, least, " + c, x.was(0, 0, 0, c, false), due[c]);
            check.due("was, greatest, " + c, x.was(0, 0, 0, c, true), due[c]);
        }
    }

    private static void spanOfNoneOneAll() {
        check.sentence("Terms II, promise 20", "SPAN of a CELL: the least and greatest of WAS of all that FIT.");
        ClothBack x = fourCells();
        int[][] least = {{19, 59, 91}, {19, 59, 91}, {19, 59, 91}, {-1, -1, -1}};
        int[][] greatest = {{79, 89, 97}, {19, 59, 91}, {19, 59, 91}, {-1, -1, -1}};
        for (int cell = 0; cell < 4; cell++) {
            for (int c = 0; c < 3; c++) {
                check.due("least of cell " + cell, x.was(cell, 0, 5, c, false), least[cell][c]);
                check.due("greatest of cell " + cell, x.was(cell, 0, 5, c, true), greatest[cell][c]);
            }
        }
        check.due("least of all", x.was(0, 0, 0, 0, false), 9);
        check.due("greatest of all", x.was(0, 0, 0, 0, true), 89);
        ClothBack wide = Check.of("stuff a 99 0 0 0 1 1;stuff b 0 99 0 0 1 1;story s hang 1 0 0 0;");
        check.due("the least that can be", wide.was(0, 0, 0, 0, false), 0);
        check.due("the greatest that can be", wide.was(0, 0, 0, 0, true), 99);
        ClothBack dark = Check.of("stuff a 99 0 0 0 1 1;stuff b 99 0 0 0 1 1;story s hang 1 0 0 0;");
        check.due("not less than the least that can be", dark.was(0, 0, 0, 0, false), 0);
    }

    private static void greyByABound() {
        check.sentence("Terms II, promise 21", "GREY: colours that are told for a CELL: the middles of its SPAN (both"
                + " ends, halved, cut), if no SPAN is"
                + " wider than a bound; else 50 each.");
        String[] takes = {"90 0 0", "0 90 0", "0 0 90"};
        for (int wide = 0; wide < 3; wide++) {
            ClothBack x = Check.of("cloth 1 1;slack 5;stuff a " + takes[wide] + " 0 1 9999;story s hang 1 0 0 0;");
            x.look(0, 0, 0, wide == 0 ? 64 : 99, wide == 1 ? 64 : 99, wide == 2 ? 64 : 99);
            for (int c = 0; c < 3; c++) {
                int middle = c == wide ? 64 : 99;
                check.due("colour " + wide + " is 10 wide, bound 9", x.grey(0, 0, 0, 9, c), 50);
                check.due("colour " + wide + " is 10 wide, bound 10", x.grey(0, 0, 0, 10, c), middle);
                check.due("colour " + wide + " is 10 wide, bound 11", x.grey(0, 0, 0, 11, c), middle);
            }
        }
        ClothBack sure = fourCells();
        int[] was = {19, 59, 91};
        for (int c = 0; c < 3; c++) {
            check.due("no width, bound 0", sure.grey(1, 0, 5, 0, c), was[c]);
        }
        ClothBack all = Check.of("stuff a 99 0 0 0 1 1;stuff b 0 99 0 0 1 1;story s hang 1 0 0 0;");
        check.due("99 wide, bound 98", all.grey(0, 0, 0, 98, 0), 50);
        check.due("99 wide, bound 99: halved, cut", all.grey(0, 0, 0, 99, 0), 49);
        check.due("99 wide, bound 98: the third too", all.grey(0, 0, 0, 98, 2), 50);
        check.due("99 wide, bound 99: the third", all.grey(0, 0, 0, 99, 2), 99);
    }

    // ---- promises

    private static void fit() {
        check.sentence("Promise 18", "FIT of a CELL by a STORY as known at a STEP, what 0: how many pairs, 1: how many"
                + " THREADS, 2: the least"
                + " THREAD's number (NONE), 3: the YEAR of the least pair (NONE); RANGE.");
        ClothBack x = fourCells();
        check.ends("fit of a cell", n -> x.fit(n, 0, 999, 0), 0, 3, 3, 0, ClothBack.RANGE);
        check.ends("fit by a story", n -> x.fit(0, n, 999, 1), 0, 3, 1, 1, ClothBack.RANGE);
        check.ends("fit as known", n -> x.fit(0, 0, n, 0), 0, 27, 999, 3, ClothBack.RANGE);
        check.ends("fit, what", n -> x.fit(0, 0, 999, n), 0, 3, 3, 15, ClothBack.RANGE);
        check.due("fit, what 1", x.fit(0, 0, 999, 1), 3);
        check.due("fit, what 2", x.fit(0, 0, 999, 2), 1);
        check.ends("nothing fits, what", n -> x.fit(3, 0, 999, n), 0, 0, 3, ClothBack.NONE, ClothBack.RANGE);
        check.due("nothing fits, what 1", x.fit(3, 0, 999, 1), 0);
        check.due("nothing fits, what 2", x.fit(3, 0, 999, 2), ClothBack.NONE);
        check.due("thread 0 of year 0", x.fit(0, 0, 0, 2), 0);
        check.due("year 0 of thread 0", x.fit(0, 0, 0, 3), 0);
        check.refuses("no stories", n -> Check.of("stuff a 0 0 0 0 1 1;").fit(0, n, 0, 0), ClothBack.RANGE, -1, 0, 1);
    }

    private static void pair() {
        check.sentence("Promise 19", "Pair i (from 0) that FITS, as they are numbered, what 0: the THREAD's number, 1:"
                + " the YEAR; NONE: there"
                + " are not so many; RANGE (also i below 0).");
        ClothBack x = fourCells();
        check.ends("pair of a cell", n -> x.pair(n, 0, 999, 0, 0), 0, 1, 3, ClothBack.NONE, ClothBack.RANGE);
        check.ends("pair by a story", n -> x.pair(0, n, 999, 1, 1), 0, 8, 1, 8, ClothBack.RANGE);
        check.ends("pair as known", n -> x.pair(0, 0, n, 2, 0), 0, 0, 999, 7, ClothBack.RANGE);
        check.ends("pair, what", n -> x.pair(0, 0, 999, 0, n), 0, 1, 1, 15, ClothBack.RANGE);
        int[][] due = {{0, 1, 15}, {1, 3, 8}, {2, 7, 0}, {3, -1, -1}, {4, -1, -1}, {Integer.MAX_VALUE, -1, -1},
            {-1, -2, -2}, {-2, -2, -2}, {Integer.MIN_VALUE, -2, -2}};
        for (int[] one : due) {
            check.due("pair(0, 0, 999, " + one[0] + ", 0)", x.pair(0, 0, 999, one[0], 0), one[1]);
            check.due("pair(0, 0, 999, " + one[0] + ", 1)", x.pair(0, 0, 999, one[0], 1), one[2]);
        }
        check.due("the last of all", x.pair(0, 0, 0, 26, 1), 15);
        check.due("behind the last of all", x.pair(0, 0, 0, 27, 1), ClothBack.NONE);
        check.due("nothing fits", x.pair(3, 0, 999, 0, 1), ClothBack.NONE);
        check.due("nothing fits, i below 0", x.pair(3, 0, 999, -1, 1), ClothBack.RANGE);
    }

    private static void was() {
        check.sentence("Promise 20", "SPAN of COLOUR c of a CELL, the least (or the greatest); NONE: nothing FITS;"
                + " RANGE.");
        ClothBack x = fourCells();
        for (boolean greatest : new boolean[] {false, true}) {
            check.ends("was of a cell", n -> x.was(n, 0, 999, 0, greatest), 0, greatest ? 79 : 19, 3, ClothBack.NONE,
                    ClothBack.RANGE);
            check.ends("was by a story", n -> x.was(0, n, 999, 0, greatest), 0, greatest ? 79 : 19, 1, 79,
                    ClothBack.RANGE);
            check.ends("was as known", n -> x.was(0, 0, n, 0, greatest), 0, greatest ? 89 : 9, 999,
                    greatest ? 79 : 19, ClothBack.RANGE);
            check.ends("was, colour", n -> x.was(0, 0, 999, n, greatest), 0, greatest ? 79 : 19, 2,
                    greatest ? 97 : 91, ClothBack.RANGE);
            check.due("no stuffs", Check.of("story s hang 1 0 0 0;").was(0, 0, 0, 0, greatest), ClothBack.NONE);
        }
    }

    private static void grey() {
        check.sentence("Promise 21", "GREY of a CELL, COLOUR c, by a bound (0 .. 99) (50 also, if nothing FITS);"
                + " RANGE.");
        ClothBack x = fourCells();
        check.ends("grey of a cell", n -> x.grey(n, 0, 999, 60, 0), 0, 49, 3, 50, ClothBack.RANGE);
        check.ends("grey by a story", n -> x.grey(0, n, 999, 60, 0), 0, 49, 1, 79, ClothBack.RANGE);
        check.ends("grey as known", n -> x.grey(0, 0, n, 60, 0), 0, 50, 999, 49, ClothBack.RANGE);
        check.ends("grey by a bound", n -> x.grey(0, 0, 999, n, 0), 0, 50, 99, 49, ClothBack.RANGE);
        check.due("grey by 59", x.grey(0, 0, 999, 59, 0), 50);
        check.ends("grey, colour", n -> x.grey(0, 0, 999, 60, n), 0, 49, 2, 94, ClothBack.RANGE);
        check.ends("nothing fits, by a bound", n -> x.grey(3, 0, 999, n, 2), 0, 50, 99, 50, ClothBack.RANGE);
        check.due("no stuffs", Check.of("story s hang 1 0 0 0;").grey(0, 0, 0, 99, 0), 50);
    }

    private static void mended() {
        check.sentence("Promise 22", "FIRST or MENDED; NONE: nothing FITS; RANGE.");
        ClothBack x = fourCells();
        check.ends("mended of a cell", n -> x.mended(n, 0, 999), 0, 2, 3, ClothBack.NONE, ClothBack.RANGE);
        check.due("mended of one that is first", x.mended(1, 0, 999), 0);
        check.due("mended of one that is not", x.mended(2, 0, 999), 1);
        check.ends("mended by a story", n -> x.mended(2, n, 999), 0, 1, 1, 2, ClothBack.RANGE);
        check.ends("mended as known", n -> x.mended(1, 0, n), 0, 2, 999, 0, ClothBack.RANGE);
        check.due("no stuffs", Check.of("story s hang 1 0 0 0;").mended(0, 0, 0), ClothBack.NONE);
    }
}
