/** What the document says of bounds in "Terms" III and in promises 23 to 28: one test for each sentence. */
public final class BackBoundsTest {
    // Twenty hours in front: a quarter is left; its nine threads all show other colours.
    private static final String SURE = "stuff a 90 45 9 1000 10 1;story s hang 20 1 1 50;";
    private static final String MENDED = "mended 8;mended 15;stuff a 90 45 9 1000 10 1;story s hang 20 1 1 25;";
    // Parts of ten, never less, as it may hang for ever in no light.
    private static final String TENS = "stuff a 90 0 0 0 1 9999;story s hang 20 0 0 0;";

    private static Check check;

    public static void main(String[] args) {
        Check own = new Check("BackBoundsTest");
        all(own);
        own.close();
    }

    static void all(Check to) {
        check = to;
        hoursOfLightBack();
        lightBackBySlack();
        firstOrMended();
        oneVat();
        vatsOfTwo();
        storiesThatMayBe();
        nextOfTwoThreads();
        nextByParts();
        besideOnTheCloth();
        besideByTheMost();
        lightBack();
        stories();
        vat();
        vats();
        next();
        beside();
    }

    private static void show(ClothBack x, int step, int cell, int side, int thread, int h) {
        x.look(step, cell, side, x.colour(thread, h, 0), x.colour(thread, h, 1), x.colour(thread, h, 2));
    }

    private static void lightBackDue(ClothBack x, String why, int thread, int least, int greatest) {
        check.due(why + ", least", x.lightBack(0, 0, thread, 999, false), least);
        check.due(why + ", greatest", x.lightBack(0, 0, thread, 999, true), greatest);
    }

    private static final String LIGHT_BACK = "LIGHT BACK: of a CELL of which the THREAD is told: all hours h 0 .. 1999"
            + " with which a side"
            + " shows what is known, within slack: the least, the greatest.";

    private static void hoursOfLightBack() {
        check.sentence("Terms III, promise 23", LIGHT_BACK);
        ClothBack x = Check.of("cloth 1 1;most 1;stuff a 90 0 0 0 1 1999;stuff b 90 0 0 0 1 2000;stuff c 90 0 0 1000 1"
                + " 1;"
                + "stuff d 90 0 0 0 1 9999;stuff e 90 0 0 0 1 1998;");
        x.look(0, 0, 0, 9, 99, 99);
        lightBackDue(x, "whole until 1998", 8, 0, 1998);
        lightBackDue(x, "whole until the last hour", 17, 0, 1999);
        lightBackDue(x, "whole at hour 0 alone", 26, 0, 0);
        lightBackDue(x, "whole for ever", 35, 0, 1999);
        x.look(0, 0, 0, 54, 99, 99);
        lightBackDue(x, "halved at the last hour", 8, 1999, 1999);
        lightBackDue(x, "halved behind the last hour", 17, ClothBack.NONE, ClothBack.NONE);
        lightBackDue(x, "halved at hour 1 alone", 26, 1, 1);
        lightBackDue(x, "halved at the last but one", 44, 1998, 1999);
        x.look(0, 0, 0, 99, 99, 99);
        lightBackDue(x, "nothing is left from 7 on", 26, 7, 1999);
        lightBackDue(x, "never so little", 8, ClothBack.NONE, ClothBack.NONE);
    }

    private static void lightBackBySlack() {
        check.sentence("Terms III, promise 23", LIGHT_BACK);
        // 49 of each colour for ever.
        for (int c = 0; c < 3; c++) {
            for (int off : new int[] {-3, -2, 0, 2, 3}) {
                ClothBack x = Check.of("cloth 1 1;slack 2;stuff a 50 50 50 0 1 9999;");
                x.look(0, 0, 0, c == 0 ? 49 + off : 49, c == 1 ? 49 + off : 49, c == 2 ? 49 + off : 49);
                boolean isIn = off >= -2 && off <= 2;
                lightBackDue(x, "colour " + c + " off by " + off, 8, isIn ? 0 : ClothBack.NONE,
                        isIn ? 1999 : ClothBack.NONE);
            }
        }
        // It shows 9, 54, 77, 88, 94, 97, 98, 99 every hour.
        int[][] due = {{0, 98, 6, 6}, {1, 98, 5, 1999}, {4, 98, 4, 1999}, {3, 98, 5, 1999}, {1, 10, 0, 0}, {0, 10, -1,
                -1}};
        for (int[] one : due) {
            ClothBack x = Check.of("cloth 1 1;slack " + one[0] + ";stuff a 90 0 0 1000 1 1;");
            x.look(0, 0, 0, one[1], 99, 99);
            lightBackDue(x, "slack " + one[0] + " of " + one[1], 8, one[2], one[3]);
        }
    }

    private static void firstOrMended() {
        check.sentence("Terms III, promise 22", "FIRST or MENDED: whether all that FIT got light from YEAR 0 on (0),"
                + " none (1), or some (2).");
        ClothBack x = Check.of("cloth 1 1;" + MENDED);
        check.due("all pairs of three years: some", x.mended(0, 0, 0), 2);
        show(x, 1, 0, 0, 8, 20);
        check.due("nine quarters from year 0 on alone: all", x.mended(0, 0, 1), 0);
        show(x, 2, 0, 0, 7, 20);
        check.due("eight quarters, four halves, two wholes: some", x.mended(0, 0, 2), 2);
        show(x, 3, 0, 0, 8, 5);
        check.due("nine wholes from 15 on alone: none", x.mended(0, 0, 3), 1);
        show(x, 4, 0, 0, 7, 12);
        check.due("eight halves from 8 on, four wholes from 15 on: none", x.mended(0, 0, 4), 1);
        x.look(5, 0, 0, 0, 0, 0);
        check.due("nothing fits", x.mended(0, 0, 5), ClothBack.NONE);
        check.due("nobody mended: all", Check.of("cloth 1 1;" + SURE).mended(0, 0, 0), 0);
    }

    private static void oddsDue(ClothBack x, String why, int known, int upper, int lower) {
        check.due(why + ", upper", x.vat(0, 1, 0, known, false), upper);
        check.due(why + ", lower", x.vat(0, 1, 0, known, true), lower);
        check.due(why + ", upper, the other way", x.vat(1, 0, 0, known, false), upper);
        check.due(why + ", lower, the other way", x.vat(1, 0, 0, known, true), lower);
    }

    private static void oneVat() {
        check.sentence("Terms III, promise 25", "ONE VAT: two CELLS could be of one, if some THREAD FITS both (by any"
                + " YEARS); ODDS: how many such THREADS, over"
                + " how many FIT one or the other; by least numbers (0 over 1 without any).");
        ClothBack x = Check.of("cloth 2 1;" + MENDED);
        oddsDue(x, "nine over nine", 0, 1, 1);
        show(x, 1, 0, 0, 7, 20);
        oddsDue(x, "three over nine", 1, 1, 3);
        show(x, 2, 1, 0, 3, 20);
        oddsDue(x, "two over four", 2, 1, 2);
        show(x, 3, 0, 0, 7, 20);
        show(x, 3, 0, 1, 7, 5);
        oddsDue(x, "none over four", 3, 0, 1);
        show(x, 4, 1, 0, 7, 5);
        show(x, 4, 1, 1, 7, 1);
        check.due("cell 0 from year 0 on", x.fit(0, 0, 4, 3), 0);
        check.due("cell 1 from year 15 on", x.fit(1, 0, 4, 3), 15);
        oddsDue(x, "one over one, by unlike years", 4, 1, 1);
        x.look(5, 1, 0, 0, 0, 0);
        oddsDue(x, "nothing fits one", 5, 0, 1);
        x.look(6, 0, 0, 0, 0, 0);
        oddsDue(x, "nothing fits both", 6, 0, 1);
        oddsDue(Check.of("story s hang 1 0 0 0;"), "no stuffs", 0, 0, 1);
        ClothBack y = Check.of("cloth 2 1;slack 10;" + TENS);
        y.look(0, 0, 0, 59, 99, 99);
        y.look(0, 1, 0, 48, 99, 99);
        // Three, four, five parts and five, six: one over four. Then four, five, six: two over four.
        oddsDue(y, "one over four", 0, 1, 4);
        y.look(1, 1, 0, 49, 99, 99);
        oddsDue(y, "two over four", 1, 1, 2);
        y.look(2, 1, 0, 58, 99, 99);
        oddsDue(y, "two over three", 2, 2, 3);
    }

    private static void vatsOfTwo() {
        check.sentence("Terms III, promise 26", "VATS: CELLS joined by being surely of the same THREAD (just one FITS"
                + " each, the same): how many there are of"
                + " two CELLS or more.");
        ClothBack x = Check.of("cloth 3 2;" + SURE);
        check.due("none is sure", x.vats(0, 0), 0);
        int[] threads = {8, 7, 8, 8, 7, 6};
        int[] due = {0, 0, 1, 1, 2, 2};
        for (int cell = 0; cell < 6; cell++) {
            show(x, cell + 1, cell, 0, threads[cell], 20);
            check.due("behind cell " + cell, x.vats(0, cell + 1), due[cell]);
        }
        check.due("one cell alone", vatsOf("cloth 1 1;" + SURE, 8), 0);
        check.due("two of one", vatsOf("cloth 2 1;" + SURE, 8, 8), 1);
        check.due("two unlike ones", vatsOf("cloth 2 1;" + SURE, 8, 7), 0);
        check.due("three of one", vatsOf("cloth 1 3;" + SURE, 8, 8, 8), 1);
        check.due("the first thread of all", vatsOf("cloth 1 3;" + SURE, 0, 1, 0), 1);
        // One thread by each of two years is one; two threads are not.
        ClothBack y = Check.of("cloth 2 1;slack 5;mended 1;" + TENS);
        y.look(0, 0, 0, 63, 99, 99);
        y.look(0, 1, 0, 63, 99, 99);
        check.due("one thread, two pairs", y.fit(0, 0, 0, 0) * 10 + y.fit(0, 0, 0, 1), 21);
        check.due("vats by two pairs", y.vats(0, 0), 1);
        y.look(1, 0, 0, 64, 99, 99);
        check.due("vats, but two threads fit one of them", y.vats(0, 1), 0);
        y.look(2, 0, 0, 0, 0, 0);
        y.look(2, 1, 0, 0, 0, 0);
        check.due("vats, but nothing fits both", y.vats(0, 2), 0);
        ClothBack hairs = Check.of("cloth 2 1;" + SURE);
        for (int cell = 0; cell < 2; cell++) {
            hairs.attempt(cell, cell, 9, hairs.colour(8, 20, 0), hairs.colour(8, 20, 1), hairs.colour(8, 20, 2));
        }
        check.due("one is sure by a hair alone", hairs.vats(0, 0), 0);
        check.due("two are sure by hairs alone", hairs.vats(0, 1), 1);
        ClothBack most = Check.of("cloth 8 6;" + SURE);
        for (int cell = 0; cell < 48; cell++) {
            show(most, 0, cell, 0, cell / 2 % 9, 20);
        }
        check.due("all cells of the greatest cloth", most.vats(0, 0), 9);
    }

    private static int vatsOf(String text, int... threads) {
        ClothBack x = Check.of(text);
        for (int cell = 0; cell < threads.length; cell++) {
            show(x, 0, cell, 0, threads[cell], 20);
        }
        return x.vats(0, 0);
    }

    private static void storiesThatMayBe() {
        check.sentence("Terms III, promise 24", "STORIES that may be, as known: those by which each CELL of which"
                + " something is known has some FIT.");
        String text = "cloth 2 1;stuff a 90 45 9 1000 10 1;story s hang 20 1 1 50;story t hang 20 0 0 0;story u hang"
                + " 10 1 1 50;"
                + "story v hang 30 1 1 50;";
        ClothBack x = Check.of(text);
        check.due("nothing is known", x.stories(0), 15);
        // Eight quarters, four halves, two wholes show the same; no eighths do, as sixteen parts can't be.
        show(x, 1, 0, 0, 7, 20);
        check.due("one cell", x.stories(1), 7);
        show(x, 2, 1, 0, 8, 20);
        check.due("nine quarters", x.stories(2), 1);
        x.gone(3, 0, 0);
        check.due("of the first cell nothing is known", x.stories(3), 1);
        show(x, 4, 1, 0, 0, 0);
        check.due("one part whole, two halves or four quarters", x.stories(4), 15);
        x.look(5, 1, 1, 0, 0, 0);
        check.due("none", x.stories(5), 0);
        x.gone(6, 1, 1);
        x.gone(6, 1, 0);
        check.due("nothing is known any more", x.stories(6), 15);
        check.due("as known at 5", x.stories(5), 0);
        x.attempt(7, 1, 1, 0, 0, 0);
        check.due("a hair alone is known: none", x.stories(7), 0);
        check.due("ahead of the hair", x.stories(6), 15);
        ClothBack hair = Check.of(text);
        hair.attempt(0, 0, 10, hair.colour(8, 30, 0), hair.colour(8, 30, 1), hair.colour(8, 30, 2));
        check.due("a hair alone of nine eighths", hair.stories(0), 1);
        check.due("no stories", Check.of("stuff a 9 9 9 0 1 1;").stories(0), 0);
        check.due("one story", Check.of("cloth 1 1;" + SURE).stories(0), 1);
        ClothBack bare = Check.of("story s hang 1 1 1 1;story t hang 1 1 1 1;");
        check.due("no stuffs, nothing known", bare.stories(0), 3);
        bare.look(0, 11, 1, 1, 1, 1);
        check.due("no stuffs, something known", bare.stories(0), 0);
    }

    private static final String NEXT = "NEXT HAIR by a STORY, of told hours: the CELL that isn't GONE in front, with"
            + " two unlike THREADS that FIT"
            + " (all that is known) at least, for which the most pairs that FIT that would show the same colours"
            + " behind so many hours more"
            + " are the least part of all of it (compared as fractions); of alike ones the least CELL.";

    private static void nextOfTwoThreads() {
        check.sentence("Terms III, promise 27", NEXT);
        for (String mended : new String[] {"", "mended 1;"}) {
            ClothBack x = Check.of("cloth 1 1;slack 5;" + mended + TENS);
            check.due("nine threads", x.next(0, 1), 0);
            x.look(999, 0, 0, 64, 99, 99);
            check.due("two threads", x.next(0, 1), 0);
            x.look(999, 0, 0, 63, 99, 99);
            check.due("one thread" + mended, x.next(0, 1), ClothBack.NONE);
            x.look(999, 0, 0, 99, 0, 0);
            check.due("no thread", x.next(0, 1), ClothBack.NONE);
            x.gone(999, 0, 0);
            check.due("gone in front", x.next(0, 1), ClothBack.NONE);
            x.look(999, 0, 0, 64, 99, 99);
            x.gone(999, 0, 1);
            check.due("gone behind", x.next(0, 1), 0);
        }
        check.due("no stuffs", Check.of("story s hang 1 0 0 0;").next(0, 1), ClothBack.NONE);
    }

    private static void nextByParts() {
        check.sentence("Terms III, promise 27", NEXT);
        ClothBack x = Check.of("cloth 2 2;slack 10;mended 1;" + TENS);
        check.due("all alike: the least", x.next(0, 1), 0);
        x.look(0, 0, 0, 58, 99, 99);
        x.look(0, 1, 0, 58, 99, 99);
        x.look(0, 2, 0, 58, 99, 99);
        x.look(0, 3, 0, 58, 99, 99);
        check.due("all 2 of 4: the least", x.next(0, 1), 0);
        x.look(0, 3, 0, 59, 99, 99);
        check.due("2 of 6 is less than 2 of 4", x.next(0, 1), 3);
        x.look(0, 2, 0, 59, 99, 99);
        check.due("2 of 6 twice: the least", x.next(0, 1), 2);
        x.gone(0, 2, 0);
        check.due("all 18 pairs fit what is gone, but there is no hair", x.next(0, 1), 3);
        // In the first column no light comes: each thread by two years, 2 of 4. In the last 15 hours come, or none.
        ClothBack y = Check.of("cloth 2 1;slack 5;mended 1;stuff a 90 0 0 1000 10 1;story s hang 1 0 15 0;");
        y.look(0, 0, 0, 64, 99, 99);
        y.look(0, 1, 0, 44, 99, 99);
        check.due("cell 0 has four pairs", y.fit(0, 0, 0, 0), 4);
        check.due("cell 1 has two pairs", y.fit(1, 0, 0, 0), 2);
        check.due("2 of 4 and 1 of 2 are alike: the least", y.next(0, 1), 0);
        // Behind so many hours that nothing is left of any, all show the same.
        check.due("2 of 2 and 4 of 4 are alike: the least", y.next(0, 999), 0);
        nextByHours();
        nextOfAllPairs();
        sameByEachColour();
        nearColours();
        blackIsTheSame();
        ClothBack z = Check.of("cloth 2 1;slack 5;mended 1;stuff a 90 0 0 1000 10 1;story s hang 1 15 0 0;");
        z.look(0, 0, 0, 44, 99, 99);
        z.look(0, 1, 0, 64, 99, 99);
        check.due("1 of 2 and 2 of 4 are alike: the least", z.next(0, 1), 0);
    }

    /** Hours count from the front's on, and from each pair's own: 15 from year 0, none from year 1 on. */
    private static void nextByHours() {
        ClothBack x = Check.of("cloth 2 1;slack 5;mended 1;stuff a 90 0 0 1000 10 1;story s hang 1 0 15 0;");
        x.look(0, 0, 0, 64, 99, 99);
        x.look(0, 1, 0, 79, 99, 99);
        check.due("cell 0: three or four parts by two years", x.fit(0, 0, 0, 0), 4);
        check.due("cell 1: two parts from year 1 on, or three to five halves", x.fit(1, 0, 0, 0), 4);
        // While four halves and two wholes show the same, cell 1 has 2 of 4 as cell 0 has; else 1 of 4.
        int[][] due = {{1, 0}, {4, 0}, {5, 1}, {9, 1}, {10, 0}, {14, 0}, {15, 1}};
        for (int[] one : due) {
            check.due("next(0, " + one[0] + ")", x.next(0, one[0]), one[1]);
        }
    }

    /** All 3420 pairs that there may be show the same where all has gone in light: then 4 of 5 of another cell are less. */
    private static void nextOfAllPairs() {
        ClothBack x = Check.of("cloth 2 1;slack 20;mended 1;mended 2;mended 3;stuff a 90 0 0 1000 1 1;stuff b 0 90 0"
                + " 1000 1 1;"
                + "stuff c 0 0 90 1000 1 1;stuff d 0 90 90 1000 1 1;stuff e 0 90 9 1000 1 1;story s hang 20 99 0 0;");
        check.due("all of the first cell", x.fit(0, 0, 0, 0), 3420);
        // Three to seven parts of a, alone or with one or two of another, by four years; seven show behind six hours.
        x.look(0, 1, 0, 49, 99, 99);
        check.due("those of the second cell", x.fit(1, 0, 0, 0), 5 * 9 * 4);
        check.due("next(0, 6)", x.next(0, 6), 1);
        check.due("next(0, 7): nothing is left of any", x.next(0, 7), 0);
    }

    /** Two threads that differ in one colour alone don't show the same. */
    private static void sameByEachColour() {
        String[] takes = {"50 0 0", "0 50 0", "0 0 50"};
        for (int c = 0; c < 3; c++) {
            ClothBack x = Check.of("cloth 2 1;slack 4;most 1;stuff a " + takes[c] + " 1000 1 1;stuff b " + takes[c]
                    + " 0 1 9999;story s hang 1 0 0 0;");
            int[] shades = {99, 99, 99};
            x.attempt(0, 0, 20, 99, 99, 99);
            shades[c] = 91;
            x.look(0, 0, 0, shades[0], shades[1], shades[2]);
            x.look(0, 1, 0, shades[0], shades[1], shades[2]);
            x.attempt(0, 1, 20, shades[0], shades[1], shades[2]);
            // Of cell 0 one or two parts of what goes fit, of cell 1 one or two of what stays.
            check.due("least of cell 0", x.fit(0, 0, 0, 2) * 10 + x.fit(0, 0, 0, 0), 2);
            check.due("least of cell 1", x.fit(1, 0, 0, 2) * 10 + x.fit(1, 0, 0, 0), 92);
            check.due("colour " + c + " parts: 1 of 2 is less than 2 of 2", x.next(0, 999), 1);
        }
    }

    /** 88, 99 and 89, 0 are not the same, though joined carelessly they may look so. */
    private static void nearColours() {
        String[] stays = {"11 0 0", "0 11 0"};
        String[] joins = {"10 99 0", "0 10 99"};
        for (int i = 0; i < 2; i++) {
            ClothBack x = Check.of("cloth 2 1;slack 20;most 1;stuff a " + stays[i] + " 0 1 9999;stuff b " + joins[i]
                    + " 0 1 9999;story s hang 1 0 0 0;");
            x.look(0, 0, 0, i == 0 ? 95 : 99, i == 1 ? 95 : 99, 99);
            check.due("all of a and one part of b", x.fit(0, 0, 0, 0), 10);
            check.due("1 of 18 is less than 1 of 10", x.next(0, 1), 1);
        }
    }

    /** All that is black shows the same as well as all that isn't. */
    private static void blackIsTheSame() {
        ClothBack x = Check.of("cloth 2 1;stuff a 99 99 99 0 1 9999;stuff b 99 99 99 0 1 9999;story s hang 1 0 0 0;");
        x.look(0, 0, 0, 0, 0, 0);
        x.look(0, 1, 0, 66, 66, 66);
        check.due("nine parts or more", x.fit(0, 0, 0, 1), 2 + 53);
        check.due("three parts", x.fit(1, 0, 0, 1), 4);
        check.due("55 of 55 and 4 of 4 are alike: the least", x.next(0, 1), 0);
    }

    private static final String GONE = "GONE: what a CELL was by those beside it (8 at most): for each THREAD that is"
            + " surely of one of them (the"
            + " only one that FITS): how many; the one of the most, then the least; its part of all 8 places that are"
            + " on the cloth.";

    private static void besideOnTheCloth() {
        check.sentence("Terms III, promise 28", GONE);
        String[] sizes = {"1 1", "2 1", "1 2", "3 1", "1 3", "2 2", "3 3", "8 6"};
        int[][] due = {{0}, {1, 1}, {1, 1}, {1, 2, 1}, {1, 2, 1}, {3, 3, 3, 3}, {3, 5, 3, 5, 8, 5, 3, 5, 3},
            {3, 5, 5, 5, 5, 5, 5, 3, 5, 8, 8, 8, 8, 8, 8, 5}};
        for (int i = 0; i < sizes.length; i++) {
            ClothBack x = Check.of("cloth " + sizes[i] + ";" + SURE);
            for (int cell = 0; cell < due[i].length; cell++) {
                check.due("places beside " + cell + " of " + sizes[i], x.beside(cell, 0, 0, 2), due[i][cell]);
            }
        }
        // Each cell of nine is sure in turn, and told by all that it lies beside: no row goes over into the next.
        for (int sure = 0; sure < 9; sure++) {
            ClothBack x = Check.of("cloth 3 3;" + SURE);
            show(x, 0, sure, 0, 4, 20);
            for (int cell = 0; cell < 9; cell++) {
                boolean isNear = Math.abs(cell % 3 - sure % 3) < 2 && Math.abs(cell / 3 - sure / 3) < 2;
                boolean isBeside = isNear && cell != sure;
                check.due("thread of " + cell + " beside " + sure, x.beside(cell, 0, 0, 0),
                        isBeside ? 4 : ClothBack.NONE);
                check.due("how many of " + cell + " beside " + sure, x.beside(cell, 0, 0, 1), isBeside ? 1 : 0);
            }
        }
    }

    private static void besideByTheMost() {
        check.sentence("Terms III, promise 28", GONE);
        // The threads of all eight places, then by how many of them, then the thread that is due.
        int[][] threads = {{3, 3, 3, 3, 3, 3, 3, 3, 8, 3}, {8, 8, 8, 3, 3, 3, 3, 3, 5, 3}, {8, 8, 3, 3, 3, 3, 8, 8, 4,
                3},
            {8, 8, 3, 3, 3, 8, 8, 8, 5, 8}, {8, 7, 6, 5, 4, 3, 2, 1, 1, 1}, {1, 2, 3, 4, 5, 6, 7, 0, 1, 0}};
        for (int[] one : threads) {
            ClothBack x = Check.of("cloth 3 3;" + SURE);
            for (int i = 0; i < 8; i++) {
                show(x, 0, i < 4 ? i : i + 1, 0, one[i], 20);
            }
            check.due("thread", x.beside(4, 0, 0, 0), one[9]);
            check.due("by how many", x.beside(4, 0, 0, 1), one[8]);
            check.due("of all places", x.beside(4, 0, 0, 2), 8);
        }
        // Two threads fit what is off by five: then it isn't sure.
        ClothBack y = Check.of("cloth 2 1;slack 5;" + TENS);
        y.look(0, 1, 0, 63, 99, 99);
        y.look(1, 1, 0, 64, 99, 99);
        check.due("one thread fits", y.beside(0, 0, 0, 0), 3);
        check.due("by one", y.beside(0, 0, 0, 1), 1);
        check.due("two threads fit", y.beside(0, 0, 1, 0), ClothBack.NONE);
        check.due("by none", y.beside(0, 0, 1, 1), 0);
    }

    // ---- promises

    private static void lightBack() {
        check.sentence("Promise 23", "LIGHT BACK of a CELL's side by a THREAD's number, as known at a STEP, the least"
                + " (or the greatest) hours; NONE:"
                + " none, or nothing is known of that side; RANGE.");
        ClothBack x = Check.of("cloth 2 2;stuff a 90 45 9 1000 10 1;");
        show(x, 3, 0, 0, 8, 25);
        show(x, 3, 0, 1, 8, 5);
        show(x, 3, 3, 0, 0, 0);
        x.gone(3, 3, 1);
        for (boolean greatest : new boolean[] {false, true}) {
            int nine = greatest ? 9 : 0;
            check.ends("lightBack of a cell", n -> x.lightBack(n, 0, 0, 999, greatest), 0, ClothBack.NONE, 3, nine,
                    ClothBack.RANGE);
            check.ends("lightBack of a side", n -> x.lightBack(0, n, 8, 999, greatest), 0, 20 + nine, 1, nine,
                    ClothBack.RANGE);
            check.ends("lightBack of a thread", n -> x.lightBack(3, 0, n, 999, greatest), 0, nine, 8, ClothBack.NONE,
                    ClothBack.RANGE);
            check.ends("lightBack as known", n -> x.lightBack(0, 0, 8, n, greatest), 0, ClothBack.NONE, 999,
                    20 + nine, ClothBack.RANGE);
            check.due("known at 2", x.lightBack(0, 0, 8, 2, greatest), ClothBack.NONE);
            check.due("known at 3", x.lightBack(0, 0, 8, 3, greatest), 20 + nine);
            check.due("gone", x.lightBack(3, 1, 8, 3, greatest), ClothBack.NONE);
            check.due("nothing is known", x.lightBack(1, 0, 8, 3, greatest), ClothBack.NONE);
            check.refuses("no stuffs", n -> Check.of("").lightBack(0, 0, n, 0, greatest), ClothBack.RANGE, -1, 0, 1);
        }
        x.attempt(4, 1, 5, 9, 54, 90);
        check.due("a hair is no side", x.lightBack(1, 0, 8, 999, true), ClothBack.NONE);
    }

    private static void stories() {
        check.sentence("Promise 24", "STORIES that may be as known at a STEP, as bits; RANGE.");
        ClothBack x = Check.of("cloth 1 1;stuff a 90 45 9 1000 10 1;story s hang 20 1 1 50;story t hang 20 0 0 0;story"
                + " u hang 10 1 1 50;"
                + "story v hang 20 0 0 0;");
        show(x, 500, 0, 0, 8, 0);
        check.ends("stories as known", x::stories, 0, 15, 999, 10, ClothBack.RANGE);
        check.due("stories(499)", x.stories(499), 15);
        check.due("stories(500)", x.stories(500), 10);
        show(x, 501, 0, 0, 8, 20);
        check.due("the first alone", x.stories(501), 1);
        x.look(502, 0, 0, 0, 0, 0);
        check.due("none", x.stories(502), 0);
        check.ends("stories of none", new ClothBack()::stories, 0, 0, 999, 0, ClothBack.RANGE);
    }

    private static void vat() {
        check.sentence("Promise 25", "ODDS of ONE VAT of two unlike CELLS by a STORY as known at a STEP, the upper"
                + " number (or the lower one); RANGE.");
        ClothBack x = Check.of("cloth 2 2;stuff a 90 45 9 1000 10 1;story s hang 20 1 1 50;story t hang 20 0 0 0;");
        show(x, 5, 0, 0, 7, 20);
        show(x, 5, 3, 0, 8, 20);
        for (boolean isLower : new boolean[] {false, true}) {
            int nine = isLower ? 9 : 1;
            check.ends("vat, the first cell", n -> x.vat(n, 1, 0, 999, isLower), 0, nine, 3, nine, ClothBack.RANGE);
            check.ends("vat, the second cell", n -> x.vat(1, n, 0, 999, isLower), 0, nine, 3, nine, ClothBack.RANGE);
            for (int cell = 0; cell < 4; cell++) {
                check.due("vat of one cell " + cell, x.vat(cell, cell, 0, 999, isLower), ClothBack.RANGE);
            }
            check.due("vat(0, 3): none", x.vat(0, 3, 0, 999, isLower), isLower ? 1 : 0);
            check.ends("vat by a story", n -> x.vat(3, 1, n, 999, isLower), 0, nine, 1, isLower ? 1 : 0,
                    ClothBack.RANGE);
            check.ends("vat as known", n -> x.vat(0, 1, 0, n, isLower), 0, 1, 999, nine, ClothBack.RANGE);
            check.due("vat as known at 4", x.vat(0, 3, 0, 4, isLower), 1);
        }
    }

    private static void vats() {
        check.sentence("Promise 26", "VATS by a STORY as known at a STEP; RANGE.");
        ClothBack x = Check.of("cloth 2 1;stuff a 90 45 9 1000 10 1;story s hang 20 1 1 50;story t hang 20 0 0 0;");
        show(x, 7, 0, 0, 8, 20);
        show(x, 8, 1, 0, 8, 20);
        check.ends("vats by a story", n -> x.vats(n, 999), 0, 1, 1, 0, ClothBack.RANGE);
        check.ends("vats as known", n -> x.vats(0, n), 0, 0, 999, 1, ClothBack.RANGE);
        check.due("vats(0, 7)", x.vats(0, 7), 0);
        check.due("vats(0, 8)", x.vats(0, 8), 1);
        check.refuses("no stories", n -> new ClothBack().vats(n, 0), ClothBack.RANGE, -1, 0, 1);
    }

    private static void next() {
        check.sentence("Promise 27", "NEXT HAIR by a STORY, of so many hours (1 .. 999): the CELL; NONE; RANGE.");
        ClothBack x = Check.of("cloth 2 1;mended 8;mended 15;stuff a 90 45 9 1000 10 1;story s hang 20 1 1 25;story t"
                + " hang 20 0 0 0;");
        x.gone(999, 0, 0);
        show(x, 999, 1, 0, 7, 20);
        check.ends("next by a story", n -> x.next(n, 5), 0, 1, 1, ClothBack.NONE, ClothBack.RANGE);
        check.ends("next of so many hours", n -> x.next(0, n), 1, 1, 999, 1, ClothBack.RANGE);
        check.ends("next of none", n -> x.next(1, n), 1, ClothBack.NONE, 999, ClothBack.NONE, ClothBack.RANGE);
        ClothBack last = Check.of("cloth 8 6;" + SURE);
        for (int cell = 0; cell < 47; cell++) {
            last.gone(0, cell, 0);
        }
        check.due("the last cell of all", last.next(0, 1), 47);
        last.gone(0, 47, 0);
        check.due("none of all", last.next(0, 1), ClothBack.NONE);
        check.refuses("no stories", n -> new ClothBack().next(n, 1), ClothBack.RANGE, -1, 0, 1);
    }

    private static void beside() {
        check.sentence("Promise 28", "GONE: of a CELL by a STORY as known at a STEP, what 0: the THREAD's number"
                + " (NONE: there is none), 1: by how"
                + " many of those beside it, 2: how many places beside it there are; RANGE.");
        ClothBack x = Check.of("cloth 3 2;stuff a 90 45 9 1000 10 1;story s hang 20 1 1 50;story t hang 20 0 0 0;");
        show(x, 5, 1, 0, 8, 20);
        check.ends("beside a cell", n -> x.beside(n, 0, 999, 0), 0, 8, 5, 8, ClothBack.RANGE);
        check.due("a cell isn't beside itself", x.beside(1, 0, 999, 0), ClothBack.NONE);
        check.ends("beside by a story", n -> x.beside(0, n, 999, 0), 0, 8, 1, ClothBack.NONE, ClothBack.RANGE);
        check.ends("beside as known", n -> x.beside(0, 0, n, 0), 0, ClothBack.NONE, 999, 8, ClothBack.RANGE);
        check.due("known at 4", x.beside(0, 0, 4, 1), 0);
        check.due("known at 5", x.beside(0, 0, 5, 1), 1);
        check.ends("beside, what", n -> x.beside(0, 0, 999, n), 0, 8, 2, 3, ClothBack.RANGE);
        check.ends("beside one that has none", n -> x.beside(1, 0, 999, n), 0, ClothBack.NONE, 2, 5, ClothBack.RANGE);
        check.refuses("no stories", n -> new ClothBack().beside(0, n, 0, 2), ClothBack.RANGE, -1, 0, 1);
    }
}
