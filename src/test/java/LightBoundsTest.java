/** What the document says of bounds in "Terms" IV and in promises 29 to 33: one test for each sentence. */
public final class LightBoundsTest {
    private static final String SENSES = "eye e sees 1 0 0 sees 0 1 0 sees 0 0 1;";
    private static final String STUFFS = "stuff a 30 20 1 500 10 100;stuff b 1 30 20 500 7 90;stuff c 20 5 40 300 20"
            + " 300;"
            + "stuff d 9 9 9 0 1 9999;stuff e 0 0 60 1000 3 1;";

    private static Check check;

    public static void main(String[] args) {
        Check own = new Check("LightBoundsTest");
        all(own);
        own.close();
    }

    static void all(Check to) {
        check = to;
        lightsThatMayBe();
        wantedByABound();
        bestOfAlikeOnes();
        missedAtItsEnds();
        yearsToBear();
        bearOfCells();
        drawsOfASeed();
        drawsByWhatThereIs();
        worldHasRoom();
        constants();
        thrown();
        cannot();
        bear();
        world();
        count();
    }

    private static void show(ClothBack x, int step, int cell, int side, int thread, int h) {
        x.look(step, cell, side, x.colour(thread, h, 0), x.colour(thread, h, 1), x.colour(thread, h, 2));
    }

    private static void thrownDue(ClothBack x, String why, int bound, int... due) {
        for (int what = 0; what < 4; what++) {
            check.due(why + ", thrown(.., " + what + ")", x.thrown(0, 0, 0, bound, what), due[what]);
        }
    }

    /** A cloth of one cell that nothing fits, so that grey of 50 is wanted of what shows so. */
    private static ClothBack greyCell(String bright, String eye, int a, int b, int c) {
        ClothBack x = Check.of("cloth 1 1;bright " + bright + ";story s hang 1 0 0 0;" + eye);
        x.look(0, 0, 0, a, b, c);
        return x;
    }

    // ---- Terms IV

    private static void lightsThatMayBe() {
        check.sentence("Terms IV, promise 29", "THROWN: an EYE looks at a CELL's front, as it is told, in light of"
                + " three colours a, b, c (by steps of 10, at"
                + " most bright): it sees by each sense the sum over colours of what it takes times (what the CELL"
                + " shows times the light over"
                + " 100, cut).");
        // 25 shows as 50 in light of 200; each step of ten less is 2 or 3 less, cut.
        int[][] due = {{200, 200, 0}, {199, 190, 3}, {190, 190, 3}, {189, 180, 5}, {100, 100, 25}, {20, 20, 45}, {19,
                10, 48},
            {10, 10, 48}, {9, 0, 50}, {1, 0, 50}, {0, 0, 50}};
        for (int[] one : due) {
            for (int c = 0; c < 3; c++) {
                String eye = c == 0 ? "1 0 0" : c == 1 ? "0 1 0" : "0 0 1";
                String bright = c == 0 ? one[0] + " 200 200" : c == 1 ? "200 " + one[0] + " 200" : "200 200 " + one[0];
                ClothBack x = greyCell(bright, "eye e sees " + eye + " sees 0 0 0 sees 0 0 0;", 25, 25, 25);
                check.due("bright " + bright + ": light " + c, x.thrown(0, 0, 0, 0, c), one[1]);
                check.due("bright " + bright + ": MISSED", x.thrown(0, 0, 0, 0, 3), one[2]);
                check.due("bright " + bright + ": no other light", x.thrown(0, 0, 0, 0, (c + 1) % 3), 0);
            }
        }
        // 99 in light of 50 is 49 (cut), in light of 60 is 59; 1 in light of 90 is 0, of 100 is 1, of 200 is 2.
        String first = "eye e sees 1 0 0 sees 0 0 0 sees 0 0 0;";
        thrownDue(greyCell("200 0 0", first, 99, 0, 0), "99", 0, 50, 0, 0, 1);
        thrownDue(greyCell("99 0 0", first, 1, 0, 0), "1, bright 99", 0, 0, 0, 0, 50);
        thrownDue(greyCell("100 0 0", first, 1, 0, 0), "1, bright 100", 0, 100, 0, 0, 49);
        thrownDue(greyCell("200 0 0", first, 1, 0, 0), "1, bright 200", 0, 200, 0, 0, 48);
        // Without a clause the lights go to 100 each.
        ClothBack untold = Check.of("cloth 1 1;story s hang 1 0 0 0;" + SENSES);
        untold.look(0, 0, 0, 25, 25, 25);
        thrownDue(untold, "bright as nobody told it", 0, 100, 100, 100, 25);
    }

    private static void wantedByABound() {
        check.sentence("Terms IV, promise 29", "WANTED: what it would see of the CELL's GREY (by a bound) in light of"
                + " 100 each.");
        // Three or four parts of ten fit 64 by slack: it was 59 or 69, ten wide; the others 99.
        ClothBack x = Check.of("cloth 1 1;slack 5;bright 200 200 200;stuff a 90 0 0 0 1 9999;story s hang 1 0 0"
                + " 0;" + SENSES);
        x.look(0, 0, 0, 64, 99, 99);
        thrownDue(x, "bound 10: 64, 99, 99 are wanted", 10, 100, 100, 100, 0);
        // 50 each: 99 in light of 50 is 49; 64 in light of 80 is 51, in light of 70 is 44.
        thrownDue(x, "bound 9: 50 each are wanted", 9, 80, 50, 50, 1);
        thrownDue(x, "bound 0: 50 each are wanted", 0, 80, 50, 50, 1);
        thrownDue(x, "bound 99", 99, 100, 100, 100, 0);
    }

    private static void bestOfAlikeOnes() {
        check.sentence("Terms IV, promise 29", "BEST: the light with the least greatest difference over the senses;"
                + " then with the least sum of lights; then the"
                + " least a, b.");
        String both = "eye e sees 1 1 0 sees 1 1 0 sees 1 1 0;";
        // 50 shows as half the light: a and b together must be 200, and c is not seen.
        thrownDue(greyCell("200 200 200", both, 50, 50, 50), "the least a", 0, 0, 200, 0, 0);
        thrownDue(greyCell("200 190 200", both, 50, 50, 50), "the least a that b lets", 0, 10, 190, 0, 0);
        thrownDue(greyCell("200 0 200", both, 50, 50, 50), "no b", 0, 200, 0, 0, 0);
        thrownDue(greyCell("100 100 0", both, 50, 50, 50), "one light alone does it", 0, 100, 100, 0, 0);
        String last = "eye e sees 0 1 1 sees 0 1 1 sees 0 1 1;";
        thrownDue(greyCell("200 200 200", last, 50, 50, 50), "the least b", 0, 0, 0, 200, 0);
        String all = "eye e sees 1 1 1 sees 1 1 1 sees 1 1 1;";
        thrownDue(greyCell("200 200 200", all, 50, 50, 50), "the least a, then the least b", 0, 0, 100, 200, 0);
        thrownDue(greyCell("200 200 199", all, 50, 50, 50), "the least a, then the least b that c lets", 0, 0, 110,
                190, 0);
        // The third sense misses 50 in no light of its own: then the others may miss as much.
        thrownDue(greyCell("200 200 0", SENSES, 50, 50, 50), "the least sum", 0, 0, 0, 0, 50);
        thrownDue(greyCell("200 200 10", SENSES, 50, 50, 50), "the least sum for 45", 0, 10, 10, 10, 45);
        // 5 and 2 a step of ten make 100 in many lights; the last of them, a alone, is the least in sum.
        thrownDue(greyCell("200 200 200", both, 50, 20, 7), "the least sum, though the greatest a", 0, 200, 0, 0, 0);
        // 99 and 101 of 100 are missed alike, 99 in light of 100 alone: the sum goes ahead of the least a.
        thrownDue(greyCell("200 200 0", both, 99, 20, 0), "the least sum, though not the least a", 0, 100, 0, 0, 1);
    }

    private static void missedAtItsEnds() {
        check.sentence("Terms IV, promises 29 and 30", "MISSED: that difference.");
        check.due("none", greyCell("100 100 100", SENSES, 50, 50, 50).thrown(0, 0, 0, 0, 3), 0);
        check.due("one", greyCell("100 100 100", SENSES, 49, 50, 50).thrown(0, 0, 0, 0, 3), 1);
        check.due("all of it", greyCell("100 100 100", SENSES, 0, 0, 0).thrown(0, 0, 0, 0, 3), 50);
        check.due("an eye that takes nothing",
                greyCell("0 0 0", "eye e sees 0 0 0 sees 0 0 0 sees 0 0 0;", 0, 0, 0).thrown(0, 0, 0, 0, 3), 0);
        ClothBack most = Check.of("cloth 1 1;bright 0 0 0;stuff a 0 0 0 0 1 1;story s hang 1 0 0 0;"
                + "eye e sees 9 9 9 sees 9 9 9 sees 9 9 9;");
        most.look(0, 0, 0, 99, 99, 99);
        check.due("the most that can be", most.thrown(0, 0, 0, 0, 3), 2673);
        check.due("the greatest of the senses, not their sum",
                greyCell("0 0 0", "eye e sees 1 0 0 sees 0 2 0 sees 0 0 1;", 9, 9, 9).thrown(0, 0, 0, 0, 3), 100);
    }

    private static final String BEAR = "BEAR: in so much light a YEAR (1 .. 99), how many YEARS (0 .. 400) all CELLS"
            + " that have just one pair that"
            + " FITS by a STORY (all that is known) may hang on: the most for which no colour in front (YEARS times"
            + " the light more than now's"
            + " HOURS) is more above now's than a bound.";

    /** A cell of nine parts that never hung in light, of a stuff that halves whole at so many hours. */
    private static ClothBack newCell(int halves) {
        ClothBack x = Check.of("cloth 1 1;stuff a 90 45 9 1000 " + halves + " 1;story s hang 1 0 0 0;");
        show(x, 0, 0, 0, 8, 0);
        return x;
    }

    private static void yearsToBear() {
        check.sentence("Terms IV, promise 31", BEAR);
        int[][] due = {{1, 1, 0}, {1, 99, 0}, {2, 1, 1}, {2, 2, 0}, {99, 98, 1}, {99, 99, 0}, {100, 99, 1}, {198, 99,
                1}, {199, 99, 2},
            {400, 1, 399}, {401, 1, 400}, {402, 1, 400}, {999, 1, 400}, {800, 2, 399}, {801, 2, 400}};
        for (int[] one : due) {
            check.due("halves at " + one[0] + ", light " + one[1], newCell(one[0]).bear(0, one[1], 0), one[2]);
        }
        // 9 becomes 54, 77, 88, 94, 97, 98, 99: by 45, 68, 79, 85, 88, 89, 90 above now's.
        int[][] bounds = {{0, 9}, {44, 9}, {45, 19}, {67, 19}, {68, 29}, {88, 59}, {89, 69}, {90, 400}, {99, 400}};
        for (int[] one : bounds) {
            check.due("halves at 10, bound " + one[0], newCell(10).bear(0, 1, one[0]), one[1]);
        }
        // Each colour alone goes by the bound.
        String[] takes = {"90 0 0", "0 90 0", "0 0 90"};
        for (int c = 0; c < 3; c++) {
            ClothBack x = Check.of("cloth 1 1;stuff a " + takes[c] + " 1000 10 1;story s hang 1 0 0 0;");
            show(x, 0, 0, 0, 8, 0);
            check.due("colour " + c + ", bound 44", x.bear(0, 1, 44), 9);
            check.due("colour " + c + ", bound 45", x.bear(0, 1, 45), 19);
        }
        // Now's hours count: nine of them leave one until it halves.
        ClothBack old = Check.of("cloth 1 1;stuff a 90 45 9 1000 10 1;story s hang 9 1 1 0;");
        show(old, 0, 0, 0, 8, 9);
        check.due("nine hours, light 1", old.bear(0, 1, 0), 0);
        check.due("nine hours, bound 45", old.bear(0, 1, 45), 10);
    }

    private static void bearOfCells() {
        check.sentence("Terms IV, promise 31", BEAR);
        String text = "cloth 3 1;slack 5;stuff a 90 0 0 1000 10 1;story s hang 1 0 0 0;";
        ClothBack x = Check.of(text);
        check.due("nothing is known", x.bear(0, 99, 0), 400);
        x.look(1, 0, 0, 64, 99, 99);
        check.due("two pairs fit", x.bear(0, 99, 0), 400);
        x.look(1, 1, 0, 0, 0, 0);
        check.due("no pair fits", x.bear(0, 99, 0), 400);
        x.look(1, 0, 0, 63, 99, 99);
        check.due("just one pair", x.bear(0, 1, 0), 9);
        x.look(1, 1, 0, 13, 99, 99);
        x.gone(1, 2, 0);
        // Four parts were 59, and rise by 20 to 79; nine were 9, and rise by 45.
        check.due("two cells, bound 20: the lesser", x.bear(0, 1, 20), 9);
        check.due("two cells, bound 45", x.bear(0, 1, 45), 19);
        x.gone(1, 1, 0);
        check.due("one cell again, bound 20", x.bear(0, 1, 20), 19);
        // Now's hours are those from the pair's own year on: from 15 on five of twenty, so five more until it halves.
        ClothBack late = Check.of("cloth 1 1;mended 8;mended 15;stuff a 90 45 9 1000 10 1;story s hang 20 1 1 25;");
        show(late, 0, 0, 0, 8, 5);
        check.due("the pair's year", late.fit(0, 0, 0, 3), 15);
        check.due("just one pair of a later year", late.bear(0, 1, 0), 4);
        // One thread, but by two years: it isn't just one pair.
        ClothBack two = Check.of("mended 1;" + text);
        two.look(0, 0, 0, 63, 99, 99);
        check.due("one thread", two.fit(0, 0, 0, 1), 1);
        check.due("two pairs of one thread", two.bear(0, 99, 0), 400);
    }

    /** The draws of a WORLD, written out once more. */
    private static final class Draws {
        private long s;

        Draws(int seed) {
            s = seed;
        }

        int of(int n) {
            s = (1103515245L * s + 12345L) % 2147483648L;
            return (int) (s / 65536 % n);
        }

        int thread(ClothBack x, int stuffs, int most) {
            int first = of(stuffs);
            int a = of(9) + 1;
            if (of(3) != 0 || stuffs < 2 || most < 2) {
                return x.thread(first, a, ClothBack.NONE, 0);
            }
            int drawn = of(stuffs - 1);
            int second = drawn < first ? drawn : drawn + 1;
            int b = of(9) + 1;
            return first < second ? x.thread(first, a, second, b) : x.thread(second, b, first, a);
        }
    }

    /** Two objects share what is asked, as one answers 512 calls alone. */
    private static void worldDue(String text, int seed) {
        ClothBack x = Check.of(text);
        ClothBack law = Check.of(text);
        int columns = law.told(0);
        int stuffs = law.told(4);
        int most = law.told(3);
        int menders = law.told(7);
        int cells = columns * law.told(1);
        check.due("world of " + seed, x.world(0, seed, 0), 2 * cells);
        Draws draws = new Draws(seed);
        for (int cell = 0; cell < cells; cell++) {
            int thread = draws.thread(law, stuffs, most);
            int place = draws.of(1 + menders);
            int year = place == 0 ? 0 : law.told(19 + place);
            for (int side = 0; side < 2; side++) {
                int h = law.hours(0, cell % columns, year, side);
                for (int c = 0; c < 3; c++) {
                    check.due("seed " + seed + ", cell " + cell + ", side " + side, x.shows(cell, side, 0, c),
                            law.colour(thread, h, c));
                }
            }
        }
    }

    private static void drawsOfASeed() {
        check.sentence("Terms IV, promise 32", "A WORLD by a seed, by a STORY: s becomes (1103515245 times s and"
                + " 12345) modulo 2147483648 each time; what is drawn"
                + " of n is s over 65536 (cut), modulo n.");
        check.due("0 draws of 32768", new Draws(0).of(32768), 0);
        check.due("the greatest seed draws of 32768", new Draws(Integer.MAX_VALUE).of(32768), 15929);
        String text = "cloth 3 2;mended 3;mended 9;" + STUFFS + "story s hang 20 1 5 50;";
        for (int seed : new int[] {0, 1, 2, 65535, 65536, 1073741823, 1073741824, 2147483646, 2147483647}) {
            worldDue(text, seed);
        }
        // Seed 0 draws 0, 21468, 9988, 22117: stuff 0, 21468 of 9 is 3 (and 1), 9988 of 3 is 1, one stuff alone.
        ClothBack x = Check.of("cloth 1 1;" + STUFFS + "story s hang 1 0 0 0;");
        x.world(0, 0, 0);
        check.due("seed 0: four parts of stuff 0", x.fit(0, 0, 0, 2), x.thread(0, 4, -1, 0));
    }

    private static void drawsByWhatThereIs() {
        check.sentence("Terms IV, promise 32", "For each CELL: a STUFF is drawn, how much of 9, and 1; a number of 3:"
                + " if that is 0 and there are two STUFFS and most"
                + " is 2, a second one of all less one (those from the first one on are the next), how much likewise;"
                + " a YEAR of (1 and as many"
                + " as were mended).");
        String[] stuffs = {"stuff a 30 20 1 500 10 100;", "stuff a 30 20 1 500 10 100;stuff b 1 30 20 500 7 90;",
                STUFFS};
        String[] menders = {"", "mended 3;", "mended 3;mended 9;mended 15;"};
        for (String some : stuffs) {
            for (String mended : menders) {
                for (int most = 1; most < 3; most++) {
                    for (int seed = 1; seed < 9; seed++) {
                        worldDue("cloth 3 2;most " + most + ";" + mended + some + "story s hang 20 1 5 50;",
                                seed * 7654321);
                    }
                }
            }
        }
        worldDue("cloth 1 1;" + STUFFS + "story s hang 20 1 5 50;", 77);
        worldDue("cloth 8 5;" + STUFFS + "story s hang 20 1 5 50;", 77);
    }

    private static ClothBack withLooks(String text, int many) {
        ClothBack x = Check.of(text);
        for (int i = 0; i < many; i++) {
            x.look(3, 0, 0, 1, 1, 1);
        }
        return x;
    }

    private static void worldHasRoom() {
        check.sentence("Terms IV, promise 32", "Then both sides are told as LOOKS at a STEP, front and behind, CELL by"
                + " CELL, as long as there is room (without"
                + " STUFFS nothing).");
        String greatest = "cloth 8 6;" + STUFFS + "story s hang 20 1 5 50;";
        int[][] due = {{0, 90, 45, 45}, {1, 89, 45, 44}, {2, 88, 44, 44}, {88, 2, 1, 1}, {89, 1, 1, 0}, {90, 0, 0, 0}};
        for (int[] one : due) {
            ClothBack x = withLooks(greatest, one[0]);
            check.due("world behind " + one[0], x.world(3, 5, 0), one[1]);
            check.due("count(1)", x.count(1), 90);
            check.due("the first front that has no room", x.shows(one[2], 0, 3, 0), one[2] == 0 ? 1 : ClothBack.NONE);
            check.due("the first back that has no room", x.shows(one[3], 1, 3, 0), ClothBack.NONE);
            check.due("the last front is told", one[2] == 0 || x.shows(one[2] - 1, 0, 3, 0) >= 0 ? 1 : 0, 1);
            check.due("the last back is told", one[3] == 0 || x.shows(one[3] - 1, 1, 3, 0) >= 0 ? 1 : 0, 1);
            check.due("look behind that", x.look(3, 0, 0, 1, 1, 1), ClothBack.FULL);
        }
        ClothBack forty = withLooks("cloth 8 5;" + STUFFS + "story s hang 20 1 5 50;", 10);
        check.due("eighty behind ten", forty.world(3, 5, 0), 80);
        ClothBack bare = withLooks("story s hang 20 1 5 50;", 2);
        check.due("without stuffs", bare.world(3, 5, 0), 0);
        check.due("count(1) without stuffs", bare.count(1), 2);
        check.due("one stuff", withLooks("cloth 1 1;stuff a 1 1 1 0 1 1;story s hang 1 0 0 0;", 2).world(3, 5, 0), 2);
        // A WORLD that has no room is told at its STEP all the same: nothing may be told ahead of it.
        ClothBack full = withLooks(greatest, 90);
        check.due("world at 7 without room", full.world(7, 5, 0), 0);
        check.due("attempt at 6", full.attempt(6, 0, 1, 1, 1, 1), ClothBack.RANGE);
        check.due("attempt at 7", full.attempt(7, 0, 1, 1, 1, 1), 0);
    }

    private static void constants() {
        check.sentence("Terms IV", "`NONE = -1`: There is none.");
        check.due("NONE", ClothBack.NONE, -1);
        check.sentence("Terms IV", "`RANGE = -2`: A number that can't be.");
        check.due("RANGE", ClothBack.RANGE, -2);
        check.sentence("Terms IV", "`FULL = -3`: No room.");
        check.due("FULL", ClothBack.FULL, -3);
        check.sentence("Terms IV", "`STATE = -4`: Not as things are.");
        check.due("STATE", ClothBack.STATE, -4);
    }

    // ---- promises

    /** Cell 0 was 9, 54, 90 and shows that; cell 1 nothing fits; cell 2 is gone; of cell 3 the back alone is known. */
    private static ClothBack fourCells() {
        ClothBack x = Check.of("cloth 2 2;stuff a 90 45 9 1000 10 1;story s hang 20 0 0 0;story t hang 20 9 9"
                + " 0;" + SENSES
                + "eye f sees 9 9 9 sees 0 0 0 sees 0 0 0;");
        show(x, 2, 0, 0, 8, 0);
        x.look(2, 1, 0, 0, 0, 0);
        x.gone(2, 2, 0);
        show(x, 999, 3, 1, 8, 0);
        return x;
    }

    private static void thrown() {
        check.sentence("Promise 29", "THROWN on a CELL for an EYE, by a STORY, a bound, all that is known, what 0 .."
                + " 2: the light, 3: MISSED; NONE: the"
                + " front isn't known, or GONE; RANGE.");
        ClothBack x = fourCells();
        check.ends("thrown on a cell", n -> x.thrown(n, 0, 0, 0, 3), 0, 0, 3, ClothBack.NONE, ClothBack.RANGE);
        check.due("thrown on what is gone", x.thrown(2, 0, 0, 0, 3), ClothBack.NONE);
        check.ends("thrown for an eye", n -> x.thrown(1, n, 0, 0, 3), 0, 50, 1, 1350, ClothBack.RANGE);
        check.ends("thrown by a story", n -> x.thrown(0, 0, n, 0, 3), 0, 0, 1, 41, ClothBack.RANGE);
        check.ends("thrown by a bound", n -> x.thrown(0, 0, 0, n, 3), 0, 0, 99, 0, ClothBack.RANGE);
        check.ends("thrown, what", n -> x.thrown(0, 0, 0, 0, n), 0, 100, 3, 0, ClothBack.RANGE);
        check.ends("thrown on none, what", n -> x.thrown(3, 0, 0, 0, n), 0, ClothBack.NONE, 3, ClothBack.NONE,
                ClothBack.RANGE);
        check.due("a light that can be none", x.thrown(1, 0, 0, 0, 0), 0);
        show(x, 999, 2, 0, 8, 0);
        check.due("what is known last", x.thrown(2, 0, 0, 0, 3), 0);
        check.refuses("no eyes", n -> Check.of("story s hang 1 0 0 0;").thrown(0, n, 0, 0, 0), ClothBack.RANGE, -1, 0,
                1);
        check.refuses("no stories", n -> Check.of(SENSES).thrown(0, 0, n, 0, 0), ClothBack.RANGE, -1, 0, 1);
    }

    private static void cannot() {
        check.sentence("Promise 30", "For how many CELLS whose front is known MISSED is more than a number (0 .."
                + " 9999), for an EYE, by a STORY, a bound,"
                + " all that is known; RANGE.");
        ClothBack x = fourCells();
        check.ends("cannot for an eye", n -> x.cannot(n, 0, 0, 50), 0, 0, 1, 1, ClothBack.RANGE);
        check.ends("cannot by a story", n -> x.cannot(0, n, 0, 0), 0, 1, 1, 2, ClothBack.RANGE);
        check.ends("cannot by a bound", n -> x.cannot(0, 0, n, 0), 0, 1, 99, 1, ClothBack.RANGE);
        check.ends("cannot by a number", n -> x.cannot(0, 0, 0, n), 0, 1, 9999, 0, ClothBack.RANGE);
        check.due("more than 49", x.cannot(0, 0, 0, 49), 1);
        check.due("more than 50", x.cannot(0, 0, 0, 50), 0);
        check.due("more than 40, by a story that fits none", x.cannot(0, 1, 0, 40), 2);
        check.due("more than 41, by a story that fits none", x.cannot(0, 1, 0, 41), 1);
        check.due("more than 1349", x.cannot(1, 0, 0, 1349), 1);
        check.due("more than 1350", x.cannot(1, 0, 0, 1350), 0);
        ClothBack none = Check.of("story s hang 1 0 0 0;" + SENSES);
        check.due("no front is known", none.cannot(0, 0, 0, 0), 0);
        for (int cell = 0; cell < 12; cell++) {
            none.look(0, cell, 0, 0, 0, 0);
        }
        check.due("all cells, more than 49", none.cannot(0, 0, 0, 49), 12);
        check.due("all cells, more than 50", none.cannot(0, 0, 0, 50), 0);
        check.refuses("no eyes", n -> Check.of("story s hang 1 0 0 0;").cannot(n, 0, 0, 0), ClothBack.RANGE, -1, 0, 1);
        check.refuses("no stories", n -> Check.of(SENSES).cannot(0, n, 0, 0), ClothBack.RANGE, -1, 0, 1);
    }

    private static void bear() {
        check.sentence("Promise 31", "BEAR by a STORY, in light, by a bound (0 .. 99): YEARS; RANGE.");
        ClothBack x = fourCells();
        check.ends("bear by a story", n -> x.bear(n, 1, 0), 0, 9, 1, 400, ClothBack.RANGE);
        check.ends("bear in light", n -> x.bear(0, n, 0), 1, 9, 99, 0, ClothBack.RANGE);
        check.ends("bear by a bound", n -> x.bear(0, 1, n), 0, 9, 99, 400, ClothBack.RANGE);
        check.ends("bear of no cell", n -> x.bear(1, n, 0), 1, 400, 99, 400, ClothBack.RANGE);
        check.refuses("no stories", n -> new ClothBack().bear(n, 1, 0), ClothBack.RANGE, -1, 0, 1);
    }

    /** Steps up to 5, and a slot that keeps less. */
    private static ClothBack inUse() {
        ClothBack x = fiveSteps();
        x.attempt(5, 0, 1, 1, 1, 1);
        return x;
    }

    private static ClothBack fiveSteps() {
        ClothBack x = Check.of("cloth 2 2;stuff a 90 45 9 1000 10 1;story s hang 20 0 0 0;story t hang 20 9 9 0;");
        x.keep(1);
        x.look(4, 0, 0, 1, 2, 3);
        return x;
    }

    private static void world() {
        check.sentence("Promise 32", "A WORLD by a seed (0 .. 2147483647), a STORY, told at a STEP: how many LOOKS"
                + " were told; RANGE.");
        check.ends("world at a step", n -> inUse().world(n, 1, 0), 5, 8, 999, 8, ClothBack.RANGE);
        check.ends("world by a story", n -> inUse().world(5, 1, n), 0, 8, 1, 8, ClothBack.RANGE);
        for (int seed : new int[] {0, 1, 2147483646, 2147483647}) {
            check.due("world by seed " + seed, inUse().world(5, seed, 0), 8);
        }
        for (int seed : new int[] {-1, -2, -2147483647, Integer.MIN_VALUE}) {
            check.keepsAll("world by seed " + seed, LightBoundsTest::inUse, x -> x.world(7, seed, 0), ClothBack.RANGE);
        }
        for (int step : new int[] {-1, 0, 4, 1000, Integer.MIN_VALUE, Integer.MAX_VALUE}) {
            check.keepsAll("world at " + step, LightBoundsTest::inUse, x -> x.world(step, 1, 0), ClothBack.RANGE);
        }
        for (int story : new int[] {-1, 2, Integer.MIN_VALUE, Integer.MAX_VALUE}) {
            check.keepsAll("world by story " + story, LightBoundsTest::inUse, x -> x.world(7, 1, story),
                    ClothBack.RANGE);
        }
        ClothBack x = inUse();
        x.world(6, 1, 0);
        check.due("not known at 5", x.shows(3, 1, 5, 0), ClothBack.NONE);
        check.due("known at 6", x.shows(3, 1, 6, 0) >= 0 ? 1 : 0, 1);
        check.due("look at 5 behind it", x.look(5, 0, 0, 1, 1, 1), ClothBack.RANGE);
        check.due("look at 6 behind it", x.look(6, 0, 0, 1, 1, 1), 10);
        check.refuses("no stories", n -> new ClothBack().world(0, 1, n), ClothBack.RANGE, -1, 0, 1);
    }

    private static void count() {
        check.sentence("Promise 33", "What 0: clauses of the CLOTH, 1: LOOKS, 2: TRIED, 3: puttings RIGHT, 4: how many"
                + " THREADS there are, 5: bytes of THE"
                + " TAPE. NONE for others.");
        ClothBack none = new ClothBack();
        check.ends("count of a new object", none::count, 0, 0, 5, 0, ClothBack.NONE);
        ClothBack x = Check.of("mended 1;mended 2;mended 3;" + STUFFS);
        for (int i = 0; i < 90; i++) {
            x.look(0, 0, 0, 1, 1, 1);
        }
        for (int i = 0; i < 20; i++) {
            x.attempt(0, 0, 1, 1, 1, 1);
        }
        for (int i = 0; i < 20; i++) {
            x.right(0, i, 1, 1, 1);
        }
        x.look(0, 0, 0, 1, 1, 1);
        x.attempt(0, 0, 1, 1, 1, 1);
        x.right(0, 0, 1, 1, 1);
        for (int i = 0; i < 46; i++) {
            x.feed(0, 0, 0, 0, 0);
        }
        int[] due = {8, 90, 20, 20, 855, 900};
        check.ends("count of what is full", x::count, 0, 8, 5, 900, ClothBack.NONE);
        for (int what = 0; what < due.length; what++) {
            check.due("count(" + what + ")", x.count(what), due[what]);
        }
    }
}
