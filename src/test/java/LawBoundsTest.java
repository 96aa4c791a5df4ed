/** What the document says of bounds in "Terms" II up to HOURS, and in promises 7 to 10: one test for each sentence. */
public final class LawBoundsTest {
    private static final String LAWS = "stuff a 0 0 0 1000 1 1;stuff b 0 0 0 0 1 9999;stuff c 0 0 0 1000 999 1;"
            + "stuff d 0 0 0 3 2 5;stuff e 0 0 0 1 1 1;";

    private static Check check;

    public static void main(String[] args) {
        Check own = new Check("LawBoundsTest");
        all(own);
        own.close();
    }

    static void all(Check to) {
        check = to;
        strengthFalls();
        threadsThatAre();
        coloursAtTheirEnds();
        hoursFromAYear();
        hoursAcrossColumns();
        hoursBehind();
        strength();
        hours();
        thread();
        colour();
    }

    private static void strengthFalls() {
        check.sentence("Terms II, promise 7", "STRENGTH of a STUFF behind h hours of light, of a thousand: its FAST"
                + " part, halved (cut) as often as"
                + " its hours go into h, and the other part halved likewise, together.");
        ClothBack x = Check.of(LAWS);
        // The whole, halved every hour: cut to 1 at nine times, to nothing at ten, and so for all times behind that.
        int[] wholes = {1000, 500, 250, 125, 62, 31, 15, 7, 3, 1, 0, 0};
        for (int h = 0; h < wholes.length; h++) {
            check.due("strength(0, " + h + ")", x.strength(0, h), wholes[h]);
        }
        for (int h : new int[] {31, 32, 33, 41, 63, 64, 65, 96, 128, 256, 65536, 131072, 999999}) {
            check.due("strength(0, " + h + "): no wrap-around", x.strength(0, h), 0);
        }
        // Parts of 3 (two hours) and 997 (five hours): each is cut alone.
        int[] parts = {1000, 1000, 998, 998, 997, 498, 498, 498, 498, 498, 249, 249, 249, 249, 249, 124};
        for (int h = 0; h < parts.length; h++) {
            check.due("strength(3, " + h + ")", x.strength(3, h), parts[h]);
        }
        int[][] due = {{1, 0, 1000}, {1, 9998, 1000}, {1, 9999, 500}, {1, 19997, 500}, {1, 19998, 250},
            {1, 89990, 3}, {1, 89991, 1}, {1, 99989, 1}, {1, 99990, 0}, {1, 319968, 0}, {1, 999999, 0},
            {2, 0, 1000}, {2, 998, 1000}, {2, 999, 500}, {2, 1997, 500}, {2, 1998, 250}, {2, 31968, 0}, {2, 63936, 0},
            {4, 0, 1000}, {4, 1, 499}, {4, 9, 1}, {4, 10, 0}};
        for (int[] one : due) {
            check.due("strength(" + one[0] + ", " + one[1] + ")", x.strength(one[0], one[1]), one[2]);
        }
    }

    private static void threadsThatAre() {
        check.sentence("Terms II, promise 9", "A THREAD: a STUFF and how much 1 .. 9, or two STUFFS (the lesser"
                + " first), each so much.");
        ClothBack x = Check.of(LAWS);
        check.ends("thread(0, n, -1, 0)", n -> x.thread(0, n, -1, 0), 1, 0, 9, 8, ClothBack.RANGE);
        check.ends("thread(0, n, 1, 1)", n -> x.thread(0, n, 1, 1), 1, 45, 9, 45 + 8 * 36, ClothBack.RANGE);
        check.ends("thread(0, 1, 1, n)", n -> x.thread(0, 1, 1, n), 1, 45, 9, 53, ClothBack.RANGE);
        check.due("thread(3, 9, 4, 9)", x.thread(3, 9, 4, 9), 854);
        check.due("thread(4, 9, 3, 9): the greater first", x.thread(4, 9, 3, 9), ClothBack.RANGE);
        check.due("thread(3, 9, 3, 9): one twice", x.thread(3, 9, 3, 9), ClothBack.RANGE);
        check.due("count(4): 45 of one, 810 of two", x.count(4), 855);
        check.due("count(4) of one stuff", Check.of("stuff a 0 0 0 0 1 1;").count(4), 9);
        check.due("count(4) of two stuffs", Check.of("stuff a 0 0 0 0 1 1;stuff b 0 0 0 0 1 1;").count(4), 99);
        check.due("count(4) of no stuff", Check.of("").count(4), 0);
    }

    private static void coloursAtTheirEnds() {
        check.sentence("Terms II, promise 10", "COLOUR c (0 .. 2) of a THREAD behind h hours: 99 less the sum, for its"
                + " STUFFS, of how much times"
                + " what is taken away times STRENGTH over 9000 (cut each), 0 at least.");
        ClothBack x = Check.of("stuff a 99 98 0 0 1 9999;stuff b 9 9 1 0 1 9999;stuff c 90 8 9 1000 1 1;");
        check.ends("COLOUR of nine parts of a", c -> x.colour(8, 0, c), 0, 0, 2, 99, ClothBack.RANGE);
        check.due("99 less 98", x.colour(8, 0, 1), 1);
        int oneMore = x.thread(0, 9, 1, 1);
        check.due("99 less 98 and 1", x.colour(oneMore, 0, 1), 0);
        check.due("99 less 99 and 1: 0 at least", x.colour(oneMore, 0, 0), 0);
        check.due("99 less 99 and 90: 0 at least", x.colour(x.thread(0, 9, 2, 9), 0, 0), 0);
        check.due("99 less eight ninths of 1, cut", x.colour(x.thread(1, 8, -1, 0), 0, 2), 99);
        check.due("99 less nine ninths of 1", x.colour(x.thread(1, 9, -1, 0), 0, 2), 98);
        // Eight ninths of 1 and of 9, a half of which is 4.5: each is cut by itself, 0 and 4.
        check.due("two that are cut each", x.colour(x.thread(1, 8, 2, 9), 1, 2), 95);
        check.due("two that are cut each, ten hours", x.colour(x.thread(1, 9, 2, 9), 10, 2), 98);
        // Behind ten hours the FAST part alone is left: 41 times 439 is 17999, one less than twice 9000.
        ClothBack close = Check.of("stuff a 41 82 0 439 999 1;stuff b 41 82 0 440 999 1;");
        check.due("strength behind ten hours", close.strength(0, 10), 439);
        check.due("17999 over 9000", close.colour(0, 10, 0), 98);
        check.due("35998 over 9000", close.colour(0, 10, 1), 96);
        check.due("18040 over 9000", close.colour(9, 10, 0), 97);
        check.due("36080 over 9000", close.colour(9, 10, 1), 95);
        // One part of 9 times 1000 is just over 9000 once; of 8 it isn't.
        check.due("one part of nine", x.colour(x.thread(2, 1, -1, 0), 0, 2), 98);
        check.due("one part of eight", x.colour(x.thread(2, 1, -1, 0), 0, 1), 99);
    }

    private static void hoursFromAYear() {
        check.sentence("Terms II, promise 8", "HOURS by a STORY in a column from a YEAR on: of each HANG, one behind"
                + " the other from YEAR 0 on, the"
                + " YEARS of it that are not ahead of that YEAR, times the light there:");
        ClothBack x = Check.of("cloth 1 1;story s hang 10 7 0 100 hang 1 50 0 100 hang 5 3 0 100;story t hang 1 1 0"
                + " 0;");
        int[][] due = {{0, 135}, {1, 128}, {9, 72}, {10, 65}, {11, 15}, {12, 12}, {15, 3}, {16, 0}, {17, 0}, {999, 0}};
        for (int[] one : due) {
            check.due("hours(0, 0, " + one[0] + ", 0)", x.hours(0, 0, one[0], 0), one[1]);
            check.due("hours(0, 0, " + one[0] + ", 1)", x.hours(0, 0, one[0], 1), one[1]);
        }
        check.due("hours of one year from 0 on", x.hours(1, 0, 0, 0), 1);
        check.due("hours of one year from 1 on", x.hours(1, 0, 1, 0), 0);
        String most = " hang 400 99 99 100";
        ClothBack y = Check.of("story s" + most + most + most + most + most + most + ";");
        check.due("the most hours", y.hours(0, 3, 0, 0), 237600);
        check.due("the most hours behind", y.hours(0, 3, 0, 1), 237600);
        check.due("from the last year that may be told", y.hours(0, 0, 999, 0), 1401 * 99);
        check.due("from the last of a hang", y.hours(0, 0, 399, 0), 2001 * 99);
        check.due("from the first of the next", y.hours(0, 0, 400, 0), 2000 * 99);
    }

    private static void hoursAcrossColumns() {
        check.sentence("Terms II, promise 8", "left and (right less left) times the column over (columns less 1), cut"
                + " towards 0 (left, if there is"
                + " one column).");
        ClothBack one = Check.of("cloth 1 6;story s hang 1 7 99 0;");
        check.ends("hours, one column", n -> one.hours(0, n, 0, 0), 0, 7, 0, 7, ClothBack.RANGE);
        ClothBack two = Check.of("cloth 2 1;story s hang 1 7 99 0;story t hang 1 99 7 0;");
        check.ends("hours, two columns", n -> two.hours(0, n, 0, 0), 0, 7, 1, 99, ClothBack.RANGE);
        check.ends("hours, two columns, falling", n -> two.hours(1, n, 0, 0), 0, 99, 1, 7, ClothBack.RANGE);
        ClothBack eight = Check.of("cloth 8 1;story s hang 1 0 99 0;story t hang 1 99 0 0;story u hang 1 1 0 0;"
                + "story v hang 1 0 1 0;");
        int[] rising = {0, 14, 28, 42, 56, 70, 84, 99};
        for (int column = 0; column < 8; column++) {
            check.due("hours, rising, column " + column, eight.hours(0, column, 0, 0), rising[column]);
            // What falls is cut as what rises: 99 less it, not less one more.
            check.due("hours, falling, column " + column, eight.hours(1, column, 0, 0), 99 - rising[column]);
            check.due("hours, 1 to 0, column " + column, eight.hours(2, column, 0, 0), column < 7 ? 1 : 0);
            check.due("hours, 0 to 1, column " + column, eight.hours(3, column, 0, 0), column < 7 ? 0 : 1);
        }
        check.ends("hours, eight columns", n -> eight.hours(0, n, 0, 0), 0, 0, 7, 99, ClothBack.RANGE);
    }

    private static void hoursBehind() {
        check.sentence("Terms II, promise 8", "In front; behind: of each HANG that times its part over 100, cut.");
        ClothBack x = Check.of("cloth 1 1;story s hang 1 99 0 0;story t hang 1 99 0 100;story u hang 1 99 0 1;"
                + "story v hang 1 50 0 1 hang 1 50 0 1 hang 3 50 0 1 hang 1 99 0 99;");
        int[][] due = {{0, 99, 0}, {1, 99, 99}, {2, 99, 0}, {3, 349, 99}};
        for (int[] one : due) {
            check.due("in front by " + one[0], x.hours(one[0], 0, 0, 0), one[1]);
            check.due("behind by " + one[0], x.hours(one[0], 0, 0, 1), one[2]);
        }
        // Two of the three years of 50 are 100, of which one comes; one year is 50, of which nothing comes.
        check.due("behind, cut of what is left of a hang", x.hours(3, 0, 3, 1), 99);
        check.due("behind, cut of what is left of a hang", x.hours(3, 0, 4, 1), 98);
    }

    private static void strength() {
        check.sentence("Promise 7", "STRENGTH of a STUFF behind h hours (0 .. 999999); RANGE.");
        ClothBack x = Check.of("stuff a 0 0 0 0 1 9999;stuff b 0 0 0 1000 10 1;");
        check.ends("strength(n, 9)", n -> x.strength(n, 9), 0, 1000, 1, 1000, ClothBack.RANGE);
        check.ends("strength(n, 10)", n -> x.strength(n, 10), 0, 1000, 1, 500, ClothBack.RANGE);
        check.ends("strength(0, n)", n -> x.strength(0, n), 0, 1000, 999999, 0, ClothBack.RANGE);
        check.refuses("strength of no stuffs", n -> Check.of("").strength(n, 0), ClothBack.RANGE, -1, 0, 1);
        ClothBack five = Check.of(LAWS);
        check.ends("strength of the last of five", n -> five.strength(n, 1), 0, 500, 4, 499, ClothBack.RANGE);
    }

    private static void hours() {
        check.sentence("Promise 8", "HOURS by a STORY in a column from a YEAR on (0 .. 999), in front (side 0), behind"
                + " (1); RANGE.");
        ClothBack x = Check.of("cloth 3 1;story s hang 400 1 3 50 hang 400 1 3 50 hang 400 1 3 50;story t hang 1 9 9"
                + " 100;"
                + "story u hang 2 9 9 100;story v hang 3 9 9 100;");
        check.ends("hours by a story", n -> x.hours(n, 0, 0, 0), 0, 1200, 3, 27, ClothBack.RANGE);
        check.ends("hours in a column", n -> x.hours(0, n, 0, 0), 0, 1200, 2, 3600, ClothBack.RANGE);
        check.ends("hours from a year", n -> x.hours(0, 2, n, 0), 0, 3600, 999, 603, ClothBack.RANGE);
        check.ends("hours of a side", n -> x.hours(0, 1, 0, n), 0, 2400, 1, 1200, ClothBack.RANGE);
        check.refuses("hours of no stories", n -> Check.of("").hours(n, 0, 0, 0), ClothBack.RANGE, -1, 0, 1);
    }

    private static void thread() {
        check.sentence("Promise 9", "A THREAD's number by its STUFFS and how much (second NONE: one STUFF, b is not"
                + " asked then): RANGE: no"
                + " such THREAD (also of more STUFFS than most).");
        ClothBack x = Check.of("stuff a 0 0 0 0 1 1;stuff b 0 0 0 0 1 1;stuff c 0 0 0 0 1 1;");
        check.ends("thread(n, 1, -1, 0)", n -> x.thread(n, 1, -1, 0), 0, 0, 2, 18, ClothBack.RANGE);
        check.ends("thread(1, n, -1, 0)", n -> x.thread(1, n, -1, 0), 1, 9, 9, 17, ClothBack.RANGE);
        for (int b : new int[] {Integer.MIN_VALUE, -1, 0, 1, 9, 10, Integer.MAX_VALUE}) {
            check.due("thread(2, 9, -1, " + b + ")", x.thread(2, 9, -1, b), 26);
        }
        check.ends("thread(0, 1, n, 1)", n -> x.thread(0, 1, n, 1), 1, 27, 2, 36, ClothBack.RANGE);
        check.refuses("thread(0, 1, n, 1)", n -> x.thread(0, 1, n, 1), ClothBack.RANGE, -2, 0, 3);
        check.ends("thread(n, 9, 2, 9)", n -> x.thread(n, 9, 2, 9), 0, 27 + 161, 1, 27 + 242, ClothBack.RANGE);
        check.ends("thread(1, n, 2, 1)", n -> x.thread(1, n, 2, 1), 1, 27 + 162, 9, 27 + 234, ClothBack.RANGE);
        check.ends("thread(1, 1, 2, n)", n -> x.thread(1, 1, 2, n), 1, 27 + 162, 9, 27 + 170, ClothBack.RANGE);
        check.due("thread(2, 1, 0, 1): the greater first", x.thread(2, 1, 0, 1), ClothBack.RANGE);
        ClothBack most = Check.of("most 1;stuff a 0 0 0 0 1 1;stuff b 0 0 0 0 1 1;");
        check.due("most 1: thread(1, 9, -1, 0)", most.thread(1, 9, -1, 0), 17);
        check.due("most 1: thread(0, 1, 1, 1)", most.thread(0, 1, 1, 1), ClothBack.RANGE);
        ClothBack both = Check.of("most 2;stuff a 0 0 0 0 1 1;stuff b 0 0 0 0 1 1;");
        check.due("most 2: thread(0, 1, 1, 1)", both.thread(0, 1, 1, 1), 18);
        check.due("most 2: thread(0, 9, 1, 9)", both.thread(0, 9, 1, 9), 98);
        check.due("no stuffs: thread(0, 1, -1, 0)", Check.of("").thread(0, 1, -1, 0), ClothBack.RANGE);
    }

    private static void colour() {
        check.sentence("Promise 10", "COLOUR c of a THREAD behind h hours (0 .. 999999); RANGE.");
        ClothBack x = Check.of("stuff a 90 45 9 1000 10 1;stuff b 9 18 27 0 1 9999;");
        check.ends("colour(n, 0, 0)", n -> x.colour(n, 0, 0), 0, 89, 98, 0, ClothBack.RANGE);
        check.ends("colour(8, n, 0)", n -> x.colour(8, n, 0), 0, 9, 999999, 99, ClothBack.RANGE);
        check.ends("colour(8, 0, n)", n -> x.colour(8, 0, n), 0, 9, 2, 90, ClothBack.RANGE);
        check.due("colour(8, 9, 0)", x.colour(8, 9, 0), 9);
        check.due("colour(8, 10, 0)", x.colour(8, 10, 0), 54);
        ClothBack most = Check.of("most 1;stuff a 90 45 9 1000 10 1;stuff b 9 18 27 0 1 9999;");
        check.ends("most 1: colour(n, 0, 0)", n -> most.colour(n, 0, 0), 0, 89, 17, 90, ClothBack.RANGE);
        check.refuses("no stuffs: colour(n, 0, 0)", n -> Check.of("").colour(n, 0, 0), ClothBack.RANGE, -1, 0, 1);
    }
}
