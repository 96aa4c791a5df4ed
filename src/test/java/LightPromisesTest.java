/** Promises 29 to 33: thrown, cannot, bear, world, count. */
public final class LightPromisesTest {
    private static final Check CHECK = new Check("LightPromisesTest");
    private static final String EYE = "eye e sees 1 0 0 sees 0 1 0 sees 0 0 1;";

    public static void main(String[] args) {
        thrown();
        thrownOnGrey();
        thrownByOrder();
        cannot();
        bear();
        world();
        worldByHand();
        worldHasRoom();
        count();
        CHECK.close();
    }

    private static void thrownDue(ClothBack x, String why, int cell, int eye, int bound, int... due) {
        for (int what = 0; what < 4; what++) {
            CHECK.due("29 " + why + ": thrown(.., " + what + ")", x.thrown(cell, eye, 0, bound, what), due[what]);
        }
    }

    private static void thrown() {
        ClothBack x = Check.of("cloth 2 1;bright 100 200 95;stuff a 90 45 9 1000 10 1;story s hang 20 1 1 50;" + EYE);
        thrownDue(x, "front isn't known", 0, 0, 0, -1, -1, -1, -1);
        x.look(0, 0, 1, 54, 77, 95);
        thrownDue(x, "behind alone is known", 0, 0, 0, -1, -1, -1, -1);
        // Ten hours behind, twenty in front: 9 parts. It was 9, 54, 90 and shows 77, 88, 97.
        x.look(0, 0, 1, 54, 77, 95);
        x.look(0, 0, 0, x.colour(8, 20, 0), x.colour(8, 20, 1), x.colour(8, 20, 2));
        CHECK.due("29 it was", x.was(0, 0, 0, 0, false), 9);
        CHECK.due("29 it shows", x.shows(0, 0, 0, 0), 77);
        // 77 in light of 10 is 7, of 20 is 15; 88 in light of 60 is 52; 97 in light of 90 is 87.
        thrownDue(x, "one sense a colour: 3 is missed, so less light does as well", 0, 0, 0, 10, 60, 90, 3);
        x.gone(1, 0, 0);
        thrownDue(x, "gone", 0, 0, 0, -1, -1, -1, -1);
        int[][] off = {{-1, 0, 0, 0, 0}, {2, 0, 0, 0, 0}, {0, -1, 0, 0, 0}, {0, 1, 0, 0, 0}, {0, 0, -1, 0, 0},
            {0, 0, 1, 0, 0}, {0, 0, 0, -1, 0}, {0, 0, 0, 100, 0}, {0, 0, 0, 0, -1}, {0, 0, 0, 0, 4}};
        for (int[] one : off) {
            CHECK.due("29 out of bounds", x.thrown(one[0], one[1], one[2], one[3], one[4]), ClothBack.RANGE);
        }
    }

    private static void thrownOnGrey() {
        ClothBack x = Check.of("cloth 1 1;bright 200 200 200;stuff a 90 45 9 1000 10 1;story s hang 20 1 1 50;"
                + "eye d sees 0 0 0 sees 0 0 0 sees 0 0 0;eye e sees 2 0 0 sees 0 3 0 sees 0 0 9;");
        x.look(0, 0, 0, 25, 30, 99);
        // Nothing fits, so grey of 50 each. 9 is missed by the third sense at best, so the others may miss it too:
        // twice 47 (25 in light of 190) and three times 48 (30 in light of 160) are the first that do.
        thrownDue(x, "grey", 0, 1, 99, 190, 160, 50, 9);
        thrownDue(x, "an eye that takes nothing", 0, 0, 99, 0, 0, 0, 0);
    }

    private static void thrownByOrder() {
        ClothBack x = Check.of("cloth 1 1;story s hang 1 0 0 0;eye e sees 1 1 1 sees 0 0 0 sees 1 1 1;");
        x.look(0, 0, 0, 90, 90, 90);
        // 150 is wanted; 90 in light gives 9 a step of ten: 17 steps make 153, 16 make 144. 153 is nearer.
        thrownDue(x, "the least sum, then the least a, b", 0, 0, 0, 0, 70, 100, 3);
        // 100 is wanted of 5 and 2 a step: many lights make it, the first of them in far more light.
        ClothBack y = Check.of("cloth 1 1;bright 200 200 200;story s hang 1 0 0 0;eye e sees 1 1 0 sees 0 0 0 sees 1 1 0;");
        y.look(0, 0, 0, 50, 20, 7);
        thrownDue(y, "a later light of a lesser sum", 0, 0, 0, 200, 0, 0, 0);
    }

    private static void cannot() {
        ClothBack x = Check.of("cloth 3 1;bright 200 200 200;stuff a 90 45 9 1000 10 1;story s hang 20 1 1 50;"
                + "eye e sees 2 0 0 sees 0 3 0 sees 0 0 9;");
        CHECK.due("30 no front is known", x.cannot(0, 0, 99, 0), 0);
        x.look(0, 0, 0, 25, 30, 99);
        x.look(0, 1, 0, 0, 0, 0);
        x.look(0, 2, 1, 0, 0, 0);
        CHECK.due("30 both", x.cannot(0, 0, 99, 8), 2);
        CHECK.due("30 more than 9", x.cannot(0, 0, 99, 9), 1);
        CHECK.due("30 black: 450 is missed", x.cannot(0, 0, 99, 449), 1);
        CHECK.due("30 not more than 450", x.cannot(0, 0, 99, 450), 0);
        x.gone(1, 1, 0);
        CHECK.due("30 gone", x.cannot(0, 0, 99, 0), 1);
        int[][] off = {{-1, 0, 0, 0}, {1, 0, 0, 0}, {0, -1, 0, 0}, {0, 1, 0, 0}, {0, 0, -1, 0}, {0, 0, 100, 0},
            {0, 0, 0, -1}, {0, 0, 0, 10000}};
        for (int[] one : off) {
            CHECK.due("30 out of bounds", x.cannot(one[0], one[1], one[2], one[3]), ClothBack.RANGE);
        }
        CHECK.due("30 the most that may be missed", x.cannot(0, 0, 0, 9999), 0);
    }

    private static void bear() {
        ClothBack x = Check.of("cloth 2 1;mended 8;stuff a 90 45 9 1000 10 1;story s hang 20 1 1 25;");
        CHECK.due("31 no cell is sure", x.bear(0, 99, 0), 400);
        x.look(0, 0, 0, x.colour(7, 20, 0), x.colour(7, 20, 1), x.colour(7, 20, 2));
        CHECK.due("31 two pairs are not just one", x.bear(0, 99, 0), 400);
        x.look(0, 0, 1, x.colour(7, 5, 0), x.colour(7, 5, 1), x.colour(7, 5, 2));
        CHECK.due("31 fits", x.fit(0, 0, 0, 0), 1);
        // 79 now; 89 ten hours on, 95 twenty, 97 thirty, 98 forty, 99 fifty.
        int[][] due = {{1, 0, 9}, {1, 9, 9}, {1, 10, 19}, {1, 15, 19}, {1, 16, 29}, {1, 20, 400}, {3, 10, 6}, {99, 10, 0},
            {20, 19, 2}, {99, 99, 400}};
        for (int[] one : due) {
            CHECK.due("31 bear(0, " + one[0] + ", " + one[1] + ")", x.bear(0, one[0], one[1]), one[2]);
        }
        x.look(1, 1, 0, x.colour(7, 0, 0), x.colour(7, 0, 1), x.colour(7, 0, 2));
        CHECK.due("31 a cell that nothing fits", x.bear(0, 1, 10), 19);
        x.look(1, 1, 0, x.colour(7, 12, 0), x.colour(7, 12, 1), x.colour(7, 12, 2));
        x.look(1, 1, 1, x.colour(7, 3, 0), x.colour(7, 3, 1), x.colour(7, 3, 2));
        CHECK.due("31 a mended cell has its own hours", x.fit(1, 0, 1, 3), 8);
        // 59 now by twelve hours; 79 eight hours on.
        CHECK.due("31 all cells", x.bear(0, 1, 10), 7);
        int[][] off = {{-1, 1, 0}, {1, 1, 0}, {0, 0, 0}, {0, 100, 0}, {0, 1, -1}, {0, 1, 100}};
        for (int[] one : off) {
            CHECK.due("31 out of bounds", x.bear(one[0], one[1], one[2]), ClothBack.RANGE);
        }
    }

    private static void world() {
        ClothBack x = Check.of("cloth 2 2;stuff a 90 45 9 1000 10 1;story s hang 20 1 1 50;");
        int[][] off = {{-1, 0, 0}, {1000, 0, 0}, {0, -1, 0}, {0, Integer.MIN_VALUE, 0}, {0, 0, -1}, {0, 0, 1}};
        for (int[] one : off) {
            CHECK.due("32 out of bounds", x.world(one[0], one[1], one[2]), ClothBack.RANGE);
        }
        CHECK.due("32 nothing was told", x.count(1), 0);
        CHECK.due("32 the greatest seed", x.world(3, Integer.MAX_VALUE, 0), 8);
        CHECK.due("32 told at a step", x.shows(0, 0, 2, 0), ClothBack.NONE);
        CHECK.due("32 told at a step", x.shows(3, 1, 3, 0) >= 0 ? 1 : 0, 1);
        CHECK.due("32 all cells may be", x.stories(3), 1);
        CHECK.due("32 again behind it", x.world(3, 0, 0), 8);
    }

    private static int next(long[] s, int n) {
        s[0] = (1103515245L * s[0] + 12345L) % 2147483648L;
        return (int) (s[0] / 65536 % n);
    }

    /** The draws written out once more beside the calls, so that their order is held. */
    private static void worldByHand() {
        String text = "cloth 4 2;mended 3;mended 9;stuff a 30 20 1 500 10 100;stuff b 1 30 20 500 7 90;"
                + "stuff c 20 5 40 300 20 300;story s hang 20 1 5 50;";
        int twos = 0;
        int swapped = 0;
        for (int seed = 0; seed < 60; seed++) {
            ClothBack x = Check.of(text + (seed % 10 == 9 ? "most 1;" : ""));
            CHECK.due("32 world", x.world(seed, seed * 1000003, 0), 16);
            long[] s = {seed * 1000003L};
            for (int cell = 0; cell < 8; cell++) {
                int first = next(s, 3);
                int a = next(s, 9) + 1;
                int thread = x.thread(first, a, ClothBack.NONE, 0);
                if (next(s, 3) == 0 && seed % 10 != 9) {
                    int drawn = next(s, 2);
                    int second = drawn < first ? drawn : drawn + 1;
                    int b = next(s, 9) + 1;
                    thread = first < second ? x.thread(first, a, second, b) : x.thread(second, b, first, a);
                    twos++;
                    swapped += first > second ? 1 : 0;
                }
                int[] years = {0, 3, 9};
                int year = years[next(s, 3)];
                for (int side = 0; side < 2; side++) {
                    for (int c = 0; c < 3; c++) {
                        int h = x.hours(0, cell % 4, year, side);
                        CHECK.due("32 seed " + seed + " cell " + cell, x.shows(cell, side, seed, c),
                                x.colour(thread, h, c));
                    }
                }
            }
        }
        CHECK.holds("32 threads of two were drawn, in both orders", twos > 50 && swapped > 10);
    }

    private static void worldHasRoom() {
        ClothBack x = Check.of("cloth 8 6;stuff a 90 45 9 1000 10 1;story s hang 20 1 1 50;");
        CHECK.due("32 as long as there is room", x.world(0, 5, 0), 90);
        CHECK.due("32 the last that has room", x.shows(44, 1, 0, 0) >= 0 ? 1 : 0, 1);
        CHECK.due("32 the first that has none", x.shows(45, 0, 0, 0), ClothBack.NONE);
        CHECK.due("32 no room", x.world(0, 5, 0), 0);
        CHECK.due("11 full at this step", x.look(0, 0, 0, 1, 1, 1), ClothBack.FULL);
        CHECK.due("32 no room, at a later step", x.world(7, 5, 0), 0);
        CHECK.due("32 that has no room is told at its step: world", x.world(6, 5, 0), ClothBack.RANGE);
        CHECK.due("32 that has no room is told at its step: look", x.look(6, 0, 0, 1, 1, 1), ClothBack.RANGE);
        CHECK.due("32 that has no room is told at its step: gone", x.gone(6, 0, 0), ClothBack.RANGE);
        CHECK.due("32 that has no room is told at its step: attempt", x.attempt(6, 0, 1, 1, 1, 1), ClothBack.RANGE);
        CHECK.due("11 full at that step", x.look(7, 0, 0, 1, 1, 1), ClothBack.FULL);
        CHECK.due("32 one that is refused", x.world(9, -1, 0), ClothBack.RANGE);
        CHECK.due("32 that is refused isn't told", x.attempt(7, 0, 1, 1, 1, 1), 0);
        ClothBack y = Check.of("cloth 8 6;stuff a 90 45 9 1000 10 1;story s hang 20 1 1 50;");
        y.look(0, 47, 0, 1, 1, 1);
        CHECK.due("32 one room less", y.world(0, 5, 0), 89);
        CHECK.due("32 front alone", y.shows(44, 0, 0, 0) >= 0 ? 1 : 0, 1);
        CHECK.due("32 behind has no room", y.shows(44, 1, 0, 0), ClothBack.NONE);
    }

    private static void count() {
        ClothBack x = Check.of("cloth 2 2;stuff a 90 45 9 1000 10 1;");
        x.look(0, 0, 0, 1, 1, 1);
        x.gone(0, 0, 0);
        x.look(0, 1, 0, 1, 1, 1);
        x.attempt(0, 0, 1, 1, 1, 1);
        x.attempt(0, 0, 1, 1, 1, 1);
        x.right(0, 1, 1, 1, 1);
        x.feed(0, 0, 0, 0, 0);
        int[] due = {2, 3, 2, 1, 9, 20};
        for (int what = 0; what < due.length; what++) {
            CHECK.due("33 count(" + what + ")", x.count(what), due[what]);
        }
        for (int what : new int[] {-1, 6, Integer.MIN_VALUE, Integer.MAX_VALUE}) {
            CHECK.due("33 count(" + what + ")", x.count(what), ClothBack.NONE);
        }
        CHECK.due("33 NONE", ClothBack.NONE, -1);
        CHECK.due("33 RANGE", ClothBack.RANGE, -2);
        CHECK.due("33 FULL", ClothBack.FULL, -3);
        CHECK.due("33 STATE", ClothBack.STATE, -4);
    }
}
