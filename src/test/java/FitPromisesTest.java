/** Promises 18 to 28: fit, pair, was, grey, mended, lightBack, stories, vat, vats, next, beside. */
public final class FitPromisesTest {
    private static final Check CHECK = new Check("FitPromisesTest");
    // One stuff that takes 90, 45 and 9, halved whole every 10 hours; light 1 a year, a quarter of it behind.
    private static final String ONE = "stuff a 90 45 9 1000 10 1;story s hang 20 1 1 25;";

    public static void main(String[] args) {
        fit();
        fitOfTried();
        fitWithSlack();
        fitOfNothing();
        outOfBounds();
        pair();
        wasAndGrey();
        mended();
        lightBack();
        stories();
        vat();
        vats();
        next();
        beside();
        CHECK.close();
    }

    /** Tells a cell's side as a thread would show it. */
    private static void show(ClothBack x, int step, int cell, int side, int thread, int h) {
        x.look(step, cell, side, x.colour(thread, h, 0), x.colour(thread, h, 1), x.colour(thread, h, 2));
    }

    private static void fitDue(ClothBack x, String why, int cell, int known, int... due) {
        for (int what = 0; what < 4; what++) {
            CHECK.due("18 " + why + ": fit(.., " + what + ")", x.fit(cell, 0, known, what), due[what]);
        }
    }

    private static void fit() {
        ClothBack x = Check.of("cloth 1 2;mended 8;mended 15;" + ONE);
        fitDue(x, "nothing known", 0, 0, 27, 9, 0, 0);
        // Twenty hours in front: a quarter is left; from year 8 on 12: a half; from 15 on 5: the whole.
        show(x, 2, 0, 0, 7, 20);
        fitDue(x, "front alone: 8 quarters, 4 halves, 2 wholes", 0, 2, 3, 3, 1, 15);
        fitDue(x, "not known yet", 0, 1, 27, 9, 0, 0);
        // Behind 5, 3 and 1 hours: wholes.
        show(x, 3, 0, 1, 7, 5);
        fitDue(x, "both sides", 0, 3, 1, 1, 7, 0);
        x.gone(4, 0, 0);
        fitDue(x, "front gone: 8 wholes by any year", 0, 4, 3, 1, 7, 0);
        x.gone(5, 0, 1);
        fitDue(x, "both gone", 0, 5, 27, 9, 0, 0);
        fitDue(x, "the other cell", 1, 999, 27, 9, 0, 0);
        x.look(6, 0, 0, 1, 1, 1);
        fitDue(x, "nothing fits", 0, 6, 0, 0, -1, -1);
    }

    private static void fitOfTried() {
        ClothBack x = Check.of("cloth 1 1;mended 8;mended 15;" + ONE);
        x.gone(1, 0, 0);
        // Ten hours more: an eighth is left of first ones, a quarter from year 8 on, a half from 15 on.
        x.attempt(2, 0, 10, x.colour(7, 30, 0), x.colour(7, 30, 1), x.colour(7, 30, 2));
        fitDue(x, "a hair of a gone front tells", 0, 2, 3, 3, 1, 15);
        // Eighteen hours more: an eighth is left, an eighth, a quarter.
        x.attempt(3, 0, 18, x.colour(7, 30, 0), x.colour(7, 30, 1), x.colour(7, 30, 2));
        fitDue(x, "two hairs that agree", 0, 3, 1, 1, 7, 0);
        x.right(4, 1, 1, 1, 1);
        fitDue(x, "put wrong", 0, 4, 0, 0, -1, -1);
        fitDue(x, "as it was known", 0, 3, 1, 1, 7, 0);
        x.right(4, 1, x.colour(1, 20, 0), x.colour(1, 20, 1), x.colour(1, 20, 2));
        fitDue(x, "put right again at one step: 2 quarters or 4 eighths", 0, 4, 2, 2, 1, 15);
        x.right(5, 0, 99, 99, 99);
        fitDue(x, "the other put wrong", 0, 5, 0, 0, -1, -1);
    }

    private static void fitWithSlack() {
        ClothBack x = Check.of("cloth 1 1;slack 10;stuff a 90 0 0 0 1 9999;story s hang 1 0 0 0;");
        x.look(0, 0, 0, 59, 99, 99);
        fitDue(x, "off by ten at most", 0, 0, 3, 3, 2, 0);
        x.look(0, 0, 0, 58, 99, 99);
        fitDue(x, "off by ten at most, one lower", 0, 0, 2, 2, 3, 0);
        x.look(0, 0, 0, 59, 89, 90);
        fitDue(x, "the other colours too", 0, 0, 3, 3, 2, 0);
        x.look(0, 0, 0, 59, 88, 99);
        fitDue(x, "one of them off", 0, 0, 0, 0, -1, -1);
        ClothBack dark = Check.of("cloth 1 1;slack 4;stuff a 99 0 0 0 1 9999;stuff b 99 0 0 0 1 9999;"
                + "story s hang 1 0 0 0;");
        dark.look(0, 0, 0, 4, 99, 99);
        // 4 shows within slack of all that take 91 or more: nine parts or more, by eleven each.
        fitDue(dark, "never below 0", 0, 0, 2 + 53, 55, 8, 0);
    }

    private static void fitOfNothing() {
        ClothBack x = Check.of("cloth 2 1;story s hang 1 0 0 0;eye e sees 1 1 1 sees 1 1 1 sees 1 1 1;");
        fitDue(x, "no stuffs", 0, 0, 0, 0, -1, -1);
        CHECK.due("19 no stuffs", x.pair(0, 0, 0, 0, 0), ClothBack.NONE);
        CHECK.due("20 no stuffs", x.was(0, 0, 0, 0, true), ClothBack.NONE);
        CHECK.due("21 no stuffs", x.grey(0, 0, 0, 99, 0), 50);
        CHECK.due("22 no stuffs", x.mended(0, 0, 0), ClothBack.NONE);
        CHECK.due("23 no stuffs", x.lightBack(0, 0, 0, 0, true), ClothBack.RANGE);
        CHECK.due("24 no stuffs", x.stories(0), 1);
        CHECK.due("25 no stuffs, upper", x.vat(0, 1, 0, 0, false), 0);
        CHECK.due("25 no stuffs, lower", x.vat(0, 1, 0, 0, true), 1);
        CHECK.due("26 no stuffs", x.vats(0, 0), 0);
        CHECK.due("27 no stuffs", x.next(0, 1), ClothBack.NONE);
        CHECK.due("28 no stuffs", x.beside(0, 0, 0, 0), ClothBack.NONE);
        CHECK.due("32 no stuffs", x.world(4, 1, 0), 0);
        CHECK.due("32 no stuffs, told at its step", x.look(3, 0, 0, 1, 1, 1), ClothBack.RANGE);
        x.look(4, 0, 0, 1, 1, 1);
        CHECK.due("24 no stuffs, something known", x.stories(4), 0);
        CHECK.due("29 no stuffs", x.thrown(0, 0, 0, 0, 3), 147);
        CHECK.due("31 no stuffs", x.bear(0, 1, 0), 400);
    }

    private static void outOfBounds() {
        ClothBack x = Check.of("cloth 2 2;mended 8;" + ONE);
        int[][] off = {{-1, 0, 0}, {4, 0, 0}, {0, -1, 0}, {0, 1, 0}, {0, 0, -1}, {0, 0, 1000}};
        for (int[] one : off) {
            CHECK.due("18", x.fit(one[0], one[1], one[2], 0), ClothBack.RANGE);
            CHECK.due("19", x.pair(one[0], one[1], one[2], 0, 0), ClothBack.RANGE);
            CHECK.due("20", x.was(one[0], one[1], one[2], 0, true), ClothBack.RANGE);
            CHECK.due("21", x.grey(one[0], one[1], one[2], 0, 0), ClothBack.RANGE);
            CHECK.due("22", x.mended(one[0], one[1], one[2]), ClothBack.RANGE);
            CHECK.due("25", x.vat(one[0], 1, one[1], one[2], true), ClothBack.RANGE);
            CHECK.due("28", x.beside(one[0], one[1], one[2], 0), ClothBack.RANGE);
        }
        for (int bad : new int[] {-1, 4, Integer.MAX_VALUE, Integer.MIN_VALUE}) {
            CHECK.due("18 what", x.fit(0, 0, 0, bad), ClothBack.RANGE);
            CHECK.due("19 what", x.pair(0, 0, 0, 0, bad), ClothBack.RANGE);
            CHECK.due("20 colour", x.was(0, 0, 0, bad, true), ClothBack.RANGE);
            CHECK.due("21 colour", x.grey(0, 0, 0, 0, bad), ClothBack.RANGE);
            CHECK.due("23 cell", x.lightBack(bad, 0, 0, 0, true), ClothBack.RANGE);
            CHECK.due("23 side", x.lightBack(0, bad, 0, 0, true), ClothBack.RANGE);
            CHECK.due("25 cell", x.vat(0, bad, 0, 0, true), ClothBack.RANGE);
            CHECK.due("26 story", x.vats(bad, 0), ClothBack.RANGE);
            CHECK.due("27 story", x.next(bad, 1), ClothBack.RANGE);
            CHECK.due("28 what", x.beside(0, 0, 0, bad), ClothBack.RANGE);
        }
        for (int bad : new int[] {-1, 1000, Integer.MAX_VALUE, Integer.MIN_VALUE}) {
            CHECK.due("21 bound", x.grey(0, 0, 0, bad, 0), ClothBack.RANGE);
            CHECK.due("23 thread", x.lightBack(0, 0, bad, 0, true), ClothBack.RANGE);
            CHECK.due("23 known", x.lightBack(0, 0, 0, bad, true), ClothBack.RANGE);
            CHECK.due("24 known", x.stories(bad), ClothBack.RANGE);
            CHECK.due("26 known", x.vats(0, bad), ClothBack.RANGE);
            CHECK.due("27 hours", x.next(0, bad), ClothBack.RANGE);
        }
        CHECK.due("19 i", x.pair(0, 0, 0, -1, 0), ClothBack.RANGE);
        CHECK.due("19 what 2", x.pair(0, 0, 0, 0, 2), ClothBack.RANGE);
        CHECK.due("20 colour 3", x.was(0, 0, 0, 3, true), ClothBack.RANGE);
        CHECK.due("21 bound 100", x.grey(0, 0, 0, 100, 0), ClothBack.RANGE);
        CHECK.due("23 thread 9", x.lightBack(0, 0, 9, 0, true), ClothBack.RANGE);
        CHECK.due("25 one cell", x.vat(3, 3, 0, 0, false), ClothBack.RANGE);
        CHECK.due("27 hours 0", x.next(0, 0), ClothBack.RANGE);
        CHECK.due("28 what 3", x.beside(0, 0, 0, 3), ClothBack.RANGE);
    }

    private static void pair() {
        ClothBack x = Check.of("cloth 1 2;mended 8;mended 15;" + ONE);
        for (int i = 0; i < 27; i++) {
            int[] years = {0, 8, 15};
            CHECK.due("19 thread of " + i, x.pair(1, 0, 0, i, 0), i / 3);
            CHECK.due("19 year of " + i, x.pair(1, 0, 0, i, 1), years[i % 3]);
        }
        CHECK.due("19 there are not so many", x.pair(1, 0, 0, 27, 0), ClothBack.NONE);
        CHECK.due("19 far from so many", x.pair(1, 0, 0, Integer.MAX_VALUE, 1), ClothBack.NONE);
        show(x, 0, 0, 0, 7, 20);
        int[][] due = {{1, 15}, {3, 8}, {7, 0}, {-1, -1}};
        for (int i = 0; i < due.length; i++) {
            CHECK.due("19 thread of fit " + i, x.pair(0, 0, 0, i, 0), due[i][0]);
            CHECK.due("19 year of fit " + i, x.pair(0, 0, 0, i, 1), due[i][1]);
        }
    }

    private static void wasAndGrey() {
        ClothBack x = Check.of("cloth 1 2;mended 8;mended 15;" + ONE);
        show(x, 1, 0, 0, 7, 20);
        // Threads 1, 3, 7 fit: two, four or eight parts of a.
        int[][] span = {{19, 79}, {59, 89}, {91, 97}};
        for (int c = 0; c < 3; c++) {
            CHECK.due("20 least", x.was(0, 0, 1, c, false), span[c][0]);
            CHECK.due("20 greatest", x.was(0, 0, 1, c, true), span[c][1]);
            CHECK.due("21 wide enough", x.grey(0, 0, 1, 60, c), (span[c][0] + span[c][1]) / 2);
            CHECK.due("21 one is wider", x.grey(0, 0, 1, 59, c), 50);
            CHECK.due("21 no bound", x.grey(0, 0, 1, 0, c), 50);
        }
        CHECK.due("20 nothing known, least", x.was(0, 0, 0, 0, false), 9);
        CHECK.due("20 nothing known, greatest", x.was(0, 0, 0, 0, true), 89);
        CHECK.due("21 nothing known", x.grey(0, 0, 0, 80, 1), (54 + 94) / 2);
        x.look(2, 0, 1, 1, 1, 1);
        CHECK.due("20 nothing fits", x.was(0, 0, 2, 0, true), ClothBack.NONE);
        CHECK.due("21 nothing fits", x.grey(0, 0, 2, 99, 0), 50);
        show(x, 3, 1, 0, 6, 0);
        show(x, 3, 1, 1, 6, 0);
        CHECK.due("21 surely one thread", x.grey(1, 0, 3, 0, 0), 29);
        ClothBack two = Check.of("cloth 1 1;slack 5;stuff a 90 0 0 0 1 9999;story s hang 1 0 0 0;");
        two.look(0, 0, 0, 64, 99, 99);
        CHECK.due("21 the middle is cut", two.grey(0, 0, 0, 10, 0), 64);
        CHECK.due("21 just as wide", two.grey(0, 0, 0, 9, 0), 50);
    }

    private static void mended() {
        ClothBack x = Check.of("cloth 1 2;mended 8;mended 15;" + ONE);
        CHECK.due("22 nothing known: some", x.mended(0, 0, 0), 2);
        show(x, 1, 0, 0, 7, 20);
        CHECK.due("22 some", x.mended(0, 0, 1), 2);
        show(x, 2, 0, 1, 7, 5);
        CHECK.due("22 all first", x.mended(0, 0, 2), 0);
        show(x, 3, 0, 1, 3, 0);
        CHECK.due("22 none first", x.mended(0, 0, 3), 1);
        x.look(4, 0, 1, 1, 1, 1);
        CHECK.due("22 nothing fits", x.mended(0, 0, 4), ClothBack.NONE);
        ClothBack y = Check.of("cloth 1 1;" + ONE);
        CHECK.due("22 never mended", y.mended(0, 0, 0), 0);
    }

    private static void lightBack() {
        ClothBack x = Check.of("cloth 1 1;stuff a 90 45 9 1000 10 1;stuff b 90 0 0 500 999 9999;story s hang 1 1 1 1;");
        CHECK.due("23 nothing known", x.lightBack(0, 0, 8, 0, false), ClothBack.NONE);
        show(x, 1, 0, 0, 8, 25);
        CHECK.due("23 least", x.lightBack(0, 0, 8, 1, false), 20);
        CHECK.due("23 greatest", x.lightBack(0, 0, 8, 1, true), 29);
        CHECK.due("23 half so much", x.lightBack(0, 0, 3, 1, false), ClothBack.NONE);
        CHECK.due("23 not known yet", x.lightBack(0, 0, 8, 0, true), ClothBack.NONE);
        CHECK.due("23 the other side", x.lightBack(0, 1, 8, 1, true), ClothBack.NONE);
        x.look(2, 0, 1, 99, 99, 99);
        CHECK.due("23 all is gone from", x.lightBack(0, 1, 8, 2, false), 70);
        CHECK.due("23 to the last hour", x.lightBack(0, 1, 8, 2, true), 1999);
        int b = x.thread(1, 9, -1, 0);
        show(x, 3, 0, 0, b, 0);
        CHECK.due("23 from the first hour", x.lightBack(0, 0, b, 3, false), 0);
        CHECK.due("23 to the last of the whole", x.lightBack(0, 0, b, 3, true), 998);
        show(x, 4, 0, 0, b, 1999);
        CHECK.due("23 the last ones, least", x.lightBack(0, 0, b, 4, false), 1998);
        CHECK.due("23 the last ones, greatest", x.lightBack(0, 0, b, 4, true), 1999);
        show(x, 5, 0, 0, b, 3000);
        CHECK.due("23 past the last hour", x.lightBack(0, 0, b, 5, true), ClothBack.NONE);
        x.gone(6, 0, 0);
        CHECK.due("23 gone", x.lightBack(0, 0, b, 6, true), ClothBack.NONE);
        ClothBack y = Check.of("cloth 1 1;slack 10;stuff a 90 45 9 1000 10 1;story s hang 1 1 1 1;");
        show(y, 1, 0, 0, 8, 30);
        // 88 shows; of 77, 88, 94, 97, 98, 99 every ten hours, the first and the last are more than ten off.
        CHECK.due("23 with slack, least", y.lightBack(0, 0, 8, 1, false), 30);
        CHECK.due("23 with slack, greatest", y.lightBack(0, 0, 8, 1, true), 69);
    }

    private static void stories() {
        ClothBack x = Check.of("cloth 2 1;stuff a 90 45 9 1000 10 1;story s hang 20 1 1 50;story t hang 20 0 0 0;"
                + "story u hang 20 2 2 50;story v hang 20 1 1 50;");
        CHECK.due("24 nothing known", x.stories(0), 15);
        show(x, 1, 0, 0, 7, 20);
        CHECK.due("24 8 quarters or 2 wholes", x.stories(1), 11);
        show(x, 2, 0, 1, 7, 10);
        CHECK.due("24 both sides", x.stories(2), 9);
        show(x, 3, 1, 1, 6, 20);
        CHECK.due("24 a cell that lets another", x.stories(3), 0);
        CHECK.due("24 as known at 2", x.stories(2), 9);
        x.gone(4, 1, 1);
        CHECK.due("24 gone tells nothing", x.stories(4), 9);
        x.attempt(5, 1, 10, 1, 1, 1);
        CHECK.due("24 a hair tells", x.stories(5), 0);
    }

    private static void vat() {
        ClothBack x = Check.of("cloth 2 1;mended 8;mended 15;" + ONE);
        CHECK.due("25 nothing known, upper", x.vat(0, 1, 0, 0, false), 1);
        CHECK.due("25 nothing known, lower", x.vat(0, 1, 0, 0, true), 1);
        show(x, 1, 0, 0, 7, 20);
        CHECK.due("25 three of nine, upper", x.vat(0, 1, 0, 1, false), 1);
        CHECK.due("25 three of nine, lower", x.vat(1, 0, 0, 1, true), 3);
        show(x, 2, 1, 0, 3, 20);
        // Cell 0: 2, 4 or 8 parts; cell 1: 4 parts of first ones, 2 from year 8 on, 1 from 15 on.
        CHECK.due("25 two of four, upper", x.vat(0, 1, 0, 2, false), 1);
        CHECK.due("25 two of four, lower", x.vat(0, 1, 0, 2, true), 2);
        show(x, 3, 1, 1, 3, 5);
        CHECK.due("25 one of three, upper", x.vat(1, 0, 0, 3, false), 1);
        CHECK.due("25 one of three, lower", x.vat(1, 0, 0, 3, true), 3);
        show(x, 4, 0, 1, 7, 5);
        CHECK.due("25 none, upper", x.vat(0, 1, 0, 4, false), 0);
        CHECK.due("25 none, lower", x.vat(0, 1, 0, 4, true), 1);
    }

    private static void vats() {
        ClothBack x = Check.of("cloth 3 3;mended 8;" + ONE);
        int[] threads = {7, 5, 5, 7, 4, 6, 7};
        for (int cell = 0; cell < threads.length; cell++) {
            show(x, cell, cell, 0, threads[cell], 20);
            show(x, cell, cell, 1, threads[cell], 5);
        }
        int[] due = {0, 0, 1, 2, 2, 2, 2};
        for (int known = 0; known < due.length; known++) {
            CHECK.due("26 vats as known at " + known, x.vats(0, known), due[known]);
        }
        x.gone(9, 1, 0);
        CHECK.due("26 one thread by its back, though of any year", x.vats(0, 9), 2);
        x.gone(10, 1, 1);
        CHECK.due("26 not surely any more", x.vats(0, 10), 1);
        ClothBack y = Check.of("cloth 2 1;mended 8;mended 9;stuff a 90 45 9 1000 10 1;story s hang 20 1 1 50;");
        show(y, 0, 0, 0, 8, 0);
        show(y, 0, 1, 0, 8, 0);
        CHECK.due("26 nothing fits", y.vats(0, 0), 0);
        ClothBack z = Check.of("cloth 2 1;mended 18;mended 19;stuff a 90 45 9 1000 10 1;story s hang 20 1 1 50;");
        show(z, 0, 0, 0, 8, 0);
        show(z, 0, 1, 0, 8, 0);
        CHECK.due("26 one thread by two years", z.vats(0, 0), 1);
    }

    private static void next() {
        ClothBack x = Check.of("cloth 2 2;mended 8;mended 15;" + ONE);
        CHECK.due("27 nothing known: the least cell", x.next(0, 5), 0);
        x.gone(1, 0, 0);
        CHECK.due("27 not one that is gone in front", x.next(0, 5), 1);
        show(x, 2, 1, 0, 7, 20);
        // Of cell 1, threads 1, 3, 7 (15, 8, 0): in 5 hours from year 15 on a half is left, of the others as now.
        CHECK.due("27 a hair that parts more", x.next(0, 5), 2);
        show(x, 3, 2, 0, 7, 20);
        show(x, 3, 3, 0, 7, 20);
        CHECK.due("27 parts alike: the least", x.next(0, 5), 1);
        show(x, 4, 1, 1, 7, 5);
        CHECK.due("27 not one that is sure", x.next(0, 5), 2);
        show(x, 4, 2, 1, 7, 5);
        show(x, 4, 3, 1, 7, 5);
        CHECK.due("27 none", x.next(0, 5), ClothBack.NONE);
        x.gone(5, 3, 0);
        CHECK.due("27 none, gone", x.next(0, 999), ClothBack.NONE);
        // A front that nobody looked at isn't gone.
        ClothBack y = Check.of("cloth 1 1;" + ONE);
        y.gone(0, 0, 1);
        CHECK.due("27 gone behind", y.next(0, 1), 0);
    }

    private static void beside() {
        ClothBack x = Check.of("cloth 3 3;stuff a 90 45 9 1000 10 1;story s hang 20 1 1 50;");
        int[] places = {3, 5, 3, 5, 8, 5, 3, 5, 3};
        for (int cell = 0; cell < 9; cell++) {
            CHECK.due("28 places of " + cell, x.beside(cell, 0, 0, 2), places[cell]);
            CHECK.due("28 nothing sure", x.beside(cell, 0, 0, 0), ClothBack.NONE);
            CHECK.due("28 by none", x.beside(cell, 0, 0, 1), 0);
        }
        int[] threads = {7, 6, 5, 4, 7, 5, 6, 4, 5};
        for (int cell = 0; cell < 9; cell++) {
            show(x, cell + 1, cell, 0, threads[cell], 20);
            show(x, cell + 1, cell, 1, threads[cell], 10);
        }
        int[][] due = {{4, 1}, {5, 2}, {5, 1}, {6, 2}, {5, 3}, {5, 2}, {4, 2}, {5, 2}, {4, 1}};
        for (int cell = 0; cell < 9; cell++) {
            CHECK.due("28 thread by " + cell, x.beside(cell, 0, 9, 0), due[cell][0]);
            CHECK.due("28 by how many of " + cell, x.beside(cell, 0, 9, 1), due[cell][1]);
        }
        CHECK.due("28 as known at 1", x.beside(4, 0, 1, 0), 7);
        CHECK.due("28 alike: the least thread", x.beside(4, 0, 4, 0), 4);
        ClothBack y = Check.of("cloth 1 1;" + ONE);
        CHECK.due("28 no place", y.beside(0, 0, 0, 2), 0);
    }
}
