/** Promises 11 to 17: look, gone, attempt, right, shows, keep, take. */
public final class LookPromisesTest {
    private static final Check CHECK = new Check("LookPromisesTest");
    private static final String TEXT = "cloth 3 2;stuff a 90 0 45 600 10 100;story s hang 10 8 1 50;";

    public static void main(String[] args) {
        look();
        gone();
        looksAreFull();
        steps();
        attempt();
        right();
        shows();
        keepAndTake();
        CHECK.close();
    }

    private static void look() {
        ClothBack x = Check.of(TEXT);
        CHECK.due("11 look", x.look(0, 0, 0, 0, 99, 5), 1);
        CHECK.due("11 look behind", x.look(0, 5, 1, 1, 2, 3), 2);
        int[][] off = {{-1, 0, 0, 0, 0, 0}, {1000, 0, 0, 0, 0, 0}, {0, -1, 0, 0, 0, 0}, {0, 6, 0, 0, 0, 0},
            {0, 0, -1, 0, 0, 0}, {0, 0, 2, 0, 0, 0}, {0, 0, 0, -1, 0, 0}, {0, 0, 0, 100, 0, 0}, {0, 0, 0, 0, -1, 0},
            {0, 0, 0, 0, 100, 0}, {0, 0, 0, 0, 0, -1}, {0, 0, 0, 0, 0, 100}};
        for (int[] one : off) {
            CHECK.due("11 look out of bounds", x.look(one[0], one[1], one[2], one[3], one[4], one[5]), ClothBack.RANGE);
        }
        CHECK.due("11 what was refused isn't told", x.count(1), 2);
        CHECK.due("11 the last step", x.look(999, 0, 0, 0, 0, 0), 3);
    }

    private static void gone() {
        ClothBack x = Check.of(TEXT);
        x.look(3, 2, 0, 7, 8, 9);
        CHECK.due("12 gone", x.gone(4, 2, 0), 2);
        int[][] off = {{3, 0, 0}, {1000, 0, 0}, {4, -1, 0}, {4, 6, 0}, {4, 0, -1}, {4, 0, 2}};
        for (int[] one : off) {
            CHECK.due("12 gone out of bounds", x.gone(one[0], one[1], one[2]), ClothBack.RANGE);
        }
        CHECK.due("12 gone shows", x.shows(2, 0, 4, 1), -5);
        CHECK.due("12 gone shows ahead of it", x.shows(2, 0, 3, 1), 8);
        CHECK.due("12 the other side", x.shows(2, 1, 4, 1), ClothBack.NONE);
        CHECK.due("12 it may show again", x.look(4, 2, 0, 1, 2, 3), 3);
        CHECK.due("12 it shows again", x.shows(2, 0, 4, 1), 2);
    }

    private static void looksAreFull() {
        ClothBack x = Check.of(TEXT);
        for (int i = 1; i <= 90; i++) {
            CHECK.due("11 look " + i, i % 2 == 0 ? x.look(i, 0, 0, 1, 1, 1) : x.gone(i, 1, 0), i);
        }
        CHECK.due("11 the 91st", x.look(90, 0, 0, 1, 1, 1), ClothBack.FULL);
        CHECK.due("12 the 91st", x.gone(95, 0, 0), ClothBack.FULL);
        CHECK.due("11 RANGE goes ahead of FULL", x.look(89, 0, 0, 1, 1, 1), ClothBack.RANGE);
        CHECK.due("12 RANGE goes ahead of FULL", x.gone(90, 6, 0), ClothBack.RANGE);
        CHECK.due("11 a refused look is no step", x.attempt(90, 0, 1, 1, 1, 1), 0);
        CHECK.due("33 count(1)", x.count(1), 90);
    }

    private static void steps() {
        ClothBack x = Check.of(TEXT);
        x.look(10, 0, 0, 1, 1, 1);
        CHECK.due("11 a step never falls", x.look(9, 0, 0, 1, 1, 1), ClothBack.RANGE);
        CHECK.due("13 a step never falls", x.attempt(9, 0, 1, 1, 1, 1), ClothBack.RANGE);
        CHECK.due("13 attempt", x.attempt(12, 0, 1, 1, 1, 1), 0);
        CHECK.due("11 nor behind an attempt", x.look(11, 0, 0, 1, 1, 1), ClothBack.RANGE);
        CHECK.due("14 a step never falls", x.right(11, 0, 1, 1, 1), ClothBack.RANGE);
        CHECK.due("14 right", x.right(14, 0, 1, 1, 1), 1);
        CHECK.due("12 nor behind a putting right", x.gone(13, 0, 0), ClothBack.RANGE);
        CHECK.due("32 a step never falls", x.world(13, 1, 0), ClothBack.RANGE);
        CHECK.due("32 world", x.world(15, 1, 0), 12);
        CHECK.due("12 nor behind a world", x.gone(14, 0, 0), ClothBack.RANGE);
        CHECK.due("12 at the same step", x.gone(15, 0, 0), 14);
    }

    private static void attempt() {
        ClothBack x = Check.of(TEXT);
        for (int i = 0; i < 20; i++) {
            CHECK.due("13 attempt " + i, x.attempt(i, i % 6, i == 0 ? 999 : 1, 0, 99, 4), i);
        }
        CHECK.due("13 the 21st", x.attempt(20, 0, 1, 1, 1, 1), ClothBack.FULL);
        CHECK.due("13 RANGE goes ahead of FULL", x.attempt(20, 0, 0, 1, 1, 1), ClothBack.RANGE);
        CHECK.due("33 count(2)", x.count(2), 20);
        CHECK.due("33 tries are no looks", x.count(1), 0);
        ClothBack y = Check.of(TEXT);
        int[][] off = {{-1, 0, 1, 0, 0, 0}, {1000, 0, 1, 0, 0, 0}, {0, -1, 1, 0, 0, 0}, {0, 6, 1, 0, 0, 0},
            {0, 0, 0, 0, 0, 0}, {0, 0, 1000, 0, 0, 0}, {0, 0, -5, 0, 0, 0}, {0, 0, 1, -1, 0, 0}, {0, 0, 1, 0, 100, 0},
            {0, 0, 1, 0, 0, 100}};
        for (int[] one : off) {
            CHECK.due("13 attempt out of bounds", y.attempt(one[0], one[1], one[2], one[3], one[4], one[5]),
                    ClothBack.RANGE);
        }
        CHECK.due("33 count(2)", y.count(2), 0);
    }

    private static void right() {
        ClothBack x = Check.of(TEXT);
        CHECK.due("14 right of none", x.right(0, 0, 1, 1, 1), ClothBack.RANGE);
        x.attempt(1, 0, 5, 1, 1, 1);
        x.attempt(1, 0, 6, 1, 1, 1);
        int[][] off = {{0, 0, 1, 1, 1}, {1000, 0, 1, 1, 1}, {1, -1, 1, 1, 1}, {1, 2, 1, 1, 1}, {1, 0, -1, 1, 1},
            {1, 0, 1, 100, 1}, {1, 0, 1, 1, 100}};
        for (int[] one : off) {
            CHECK.due("14 right out of bounds", x.right(one[0], one[1], one[2], one[3], one[4]), ClothBack.RANGE);
        }
        CHECK.due("14 right 0", x.right(2, 0, 1, 1, 1), 1);
        CHECK.due("14 right 1", x.right(2, 1, 1, 1, 1), 1);
        for (int i = 2; i < 20; i++) {
            CHECK.due("14 right 0 again", x.right(i, 0, 1, 1, 1), i);
        }
        CHECK.due("33 count(3)", x.count(3), 20);
        CHECK.due("14 the 21st in all", x.right(20, 1, 1, 1, 1), ClothBack.FULL);
        CHECK.due("14 RANGE goes ahead of FULL", x.right(20, 2, 1, 1, 1), ClothBack.RANGE);
        CHECK.due("33 count(2)", x.count(2), 2);
    }

    private static void shows() {
        ClothBack x = Check.of(TEXT);
        x.look(5, 3, 0, 10, 20, 30);
        x.look(5, 3, 0, 11, 21, 31);
        x.look(7, 3, 0, 12, 22, 32);
        x.look(8, 3, 1, 13, 23, 33);
        CHECK.due("15 nothing is known", x.shows(3, 0, 4, 0), ClothBack.NONE);
        CHECK.due("15 the latest of one step", x.shows(3, 0, 5, 0), 11);
        CHECK.due("15 as known at 6", x.shows(3, 0, 6, 1), 21);
        CHECK.due("15 as known at 7", x.shows(3, 0, 7, 2), 32);
        CHECK.due("15 ahead of the latest step", x.shows(3, 0, 999, 2), 32);
        CHECK.due("15 behind", x.shows(3, 1, 999, 2), 33);
        CHECK.due("15 another cell", x.shows(2, 0, 999, 2), ClothBack.NONE);
        int[][] off = {{-1, 0, 0, 0}, {6, 0, 0, 0}, {0, -1, 0, 0}, {0, 2, 0, 0}, {0, 0, -1, 0}, {0, 0, 1000, 0},
            {0, 0, 0, -1}, {0, 0, 0, 3}};
        for (int[] one : off) {
            CHECK.due("15 shows out of bounds", x.shows(one[0], one[1], one[2], one[3]), ClothBack.RANGE);
        }
    }

    private static void keepAndTake() {
        ClothBack x = Check.of(TEXT);
        CHECK.due("17 an empty slot", x.take(2), ClothBack.STATE);
        CHECK.due("16 keep of nothing", x.keep(2), 0);
        x.look(3, 0, 0, 1, 2, 3);
        x.attempt(3, 0, 5, 4, 5, 6);
        x.right(4, 0, 7, 8, 9);
        CHECK.due("16 keep", x.keep(0), 1);
        x.look(5, 0, 0, 11, 12, 13);
        x.right(6, 0, 17, 18, 19);
        x.attempt(7, 1, 5, 4, 5, 6);
        CHECK.due("16 keep", x.keep(1), 2);
        CHECK.due("17 take", x.take(0), 1);
        CHECK.due("17 looks", x.shows(0, 0, 999, 0), 1);
        CHECK.due("17 tried", x.count(2), 1);
        CHECK.due("17 put right", x.count(3), 1);
        CHECK.due("17 the step", x.look(3, 0, 1, 1, 1, 1), ClothBack.RANGE);
        CHECK.due("17 a slot keeps its own", x.look(4, 0, 0, 21, 22, 23), 2);
        CHECK.due("17 take again", x.take(0), 1);
        CHECK.due("17 looks again", x.shows(0, 0, 999, 0), 1);
        CHECK.due("17 take the other", x.take(1), 2);
        CHECK.due("17 its looks", x.shows(0, 0, 999, 0), 11);
        CHECK.due("17 its tried", x.count(2), 2);
        CHECK.due("17 its puttings right", x.count(3), 2);
        CHECK.due("17 its step", x.gone(6, 0, 0), ClothBack.RANGE);
        CHECK.due("17 take nothing", x.take(2), 0);
        CHECK.due("17 its step is 0", x.look(0, 0, 0, 1, 1, 1), 1);
        int[] off = {-1, 3, Integer.MAX_VALUE, Integer.MIN_VALUE};
        for (int slot : off) {
            CHECK.due("16 keep(" + slot + ")", x.keep(slot), ClothBack.RANGE);
            CHECK.due("17 take(" + slot + ")", x.take(slot), ClothBack.RANGE);
        }
    }
}
