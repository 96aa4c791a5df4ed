/** Promises 7 to 10: strength, hours, thread, colour. */
public final class LawPromisesTest {
    private static final Check CHECK = new Check("LawPromisesTest");
    private static final String TEXT = "cloth 5 2;mended 4;stuff a 90 0 45 600 10 100;stuff b 10 99 0 0 1 9999;"
            + "stuff c 99 99 99 1000 3 1;story s hang 10 8 1 50 hang 5 0 99 33;story t hang 400 99 99 100;";

    public static void main(String[] args) {
        strength();
        hours();
        hoursOfOneColumn();
        thread();
        threadOfOneStuff();
        colour();
        CHECK.close();
    }

    private static void strength() {
        ClothBack x = Check.of(TEXT);
        int[][] due = {{0, 0, 1000}, {0, 9, 1000}, {0, 10, 700}, {0, 20, 550}, {0, 30, 475}, {0, 40, 437}, {0, 99, 401},
            {0, 100, 200}, {0, 999999, 0}, {1, 9998, 1000}, {1, 9999, 500}, {1, 999999, 0}, {2, 2, 1000}, {2, 3, 500},
            {2, 27, 1}, {2, 30, 0}, {2, 96, 0}, {2, 97, 0}, {0, 320, 50}, {0, 640, 6}};
        for (int[] one : due) {
            CHECK.due("7 strength(" + one[0] + ", " + one[1] + ")", x.strength(one[0], one[1]), one[2]);
        }
        int[][] off = {{-1, 0}, {3, 0}, {0, -1}, {0, 1000000}, {Integer.MAX_VALUE, 0}, {0, Integer.MIN_VALUE}};
        for (int[] one : off) {
            CHECK.due("7 strength(" + one[0] + ", " + one[1] + ")", x.strength(one[0], one[1]), ClothBack.RANGE);
        }
    }

    private static void hours() {
        ClothBack x = Check.of(TEXT);
        // Light of the first hang: 8, 8-1 (7/4 cut), 8-3, 8-5, 1; of the second: 0, 24, 49, 74, 99.
        int[][] due = {{0, 0, 0, 0, 80}, {0, 1, 0, 0, 70 + 120}, {0, 2, 0, 0, 50 + 245}, {0, 3, 0, 0, 30 + 370},
            {0, 4, 0, 0, 10 + 495}, {0, 0, 0, 1, 40}, {0, 1, 0, 1, 35 + 39}, {0, 2, 0, 1, 25 + 80}, {0, 4, 0, 1, 5 + 163},
            {0, 0, 4, 0, 48}, {0, 1, 4, 0, 42 + 120}, {0, 1, 9, 0, 7 + 120}, {0, 1, 9, 1, 3 + 39}, {0, 1, 10, 0, 120},
            {0, 1, 11, 0, 96}, {0, 1, 14, 0, 24}, {0, 1, 15, 0, 0}, {0, 1, 999, 0, 0}, {0, 4, 12, 1, 98},
            {1, 4, 0, 0, 39600}, {1, 4, 0, 1, 39600}, {1, 0, 399, 1, 99}};
        for (int[] one : due) {
            CHECK.due("8 hours(" + one[0] + ", " + one[1] + ", " + one[2] + ", " + one[3] + ")",
                    x.hours(one[0], one[1], one[2], one[3]), one[4]);
        }
        int[][] off = {{-1, 0, 0, 0}, {2, 0, 0, 0}, {0, -1, 0, 0}, {0, 5, 0, 0}, {0, 0, -1, 0}, {0, 0, 1000, 0},
            {0, 0, 0, -1}, {0, 0, 0, 2}};
        for (int[] one : off) {
            CHECK.due("8 hours out of bounds", x.hours(one[0], one[1], one[2], one[3]), ClothBack.RANGE);
        }
    }

    private static void hoursOfOneColumn() {
        ClothBack x = Check.of("cloth 1 6;story s hang 3 7 99 10;");
        CHECK.due("8 hours(0, 0, 0, 0) of one column", x.hours(0, 0, 0, 0), 21);
        CHECK.due("8 hours(0, 0, 0, 1) of one column", x.hours(0, 0, 0, 1), 2);
        CHECK.due("8 hours(0, 1, 0, 0) of one column", x.hours(0, 1, 0, 0), ClothBack.RANGE);
    }

    private static void thread() {
        ClothBack x = Check.of(TEXT);
        CHECK.due("33 count(4)", x.count(4), 27 + 243);
        int number = 0;
        for (int stuff = 0; stuff < 3; stuff++) {
            for (int a = 1; a < 10; a++) {
                CHECK.due("9 thread(" + stuff + ", " + a + ")", x.thread(stuff, a, -1, 77), number);
                number++;
            }
        }
        for (int first = 0; first < 3; first++) {
            for (int a = 1; a < 10; a++) {
                for (int second = first + 1; second < 3; second++) {
                    for (int b = 1; b < 10; b++) {
                        CHECK.due("9 thread of two", x.thread(first, a, second, b), number);
                        number++;
                    }
                }
            }
        }
        int[][] off = {{-1, 1, -1, 1}, {3, 1, -1, 1}, {0, 0, -1, 1}, {0, 10, -1, 1}, {0, 1, 0, 1}, {1, 1, 0, 1},
            {0, 1, 3, 1}, {0, 1, -2, 1}, {0, 1, 1, 0}, {0, 1, 1, 10}, {-1, 1, 1, 1}, {0, 1, Integer.MIN_VALUE, 1},
            {Integer.MAX_VALUE, 1, -1, 1}};
        for (int[] one : off) {
            CHECK.due("9 thread out of bounds", x.thread(one[0], one[1], one[2], one[3]), ClothBack.RANGE);
        }
    }

    private static void threadOfOneStuff() {
        ClothBack x = Check.of(TEXT + "most 1;");
        CHECK.due("33 count(4) with most 1", x.count(4), 27);
        CHECK.due("9 thread(2, 9) with most 1", x.thread(2, 9, -1, 0), 26);
        CHECK.due("9 thread of two with most 1", x.thread(0, 1, 1, 1), ClothBack.RANGE);
        CHECK.due("10 colour(27, ..) with most 1", x.colour(27, 0, 0), ClothBack.RANGE);
        ClothBack full = Check.of("stuff a 0 0 0 0 1 1;stuff b 0 0 0 0 1 1;stuff c 0 0 0 0 1 1;stuff d 0 0 0 0 1 1;"
                + "stuff e 0 0 0 0 1 1;");
        CHECK.due("33 count(4) of five stuffs", full.count(4), 855);
        CHECK.due("9 the last of all threads", full.thread(3, 9, 4, 9), 854);
        CHECK.due("10 colour of the last", full.colour(854, 0, 2), 99);
    }

    private static void colour() {
        ClothBack x = Check.of(TEXT);
        int ninthA = x.thread(0, 9, -1, 0);
        CHECK.due("10 a whole", x.colour(ninthA, 0, 0), 9);
        CHECK.due("10 a whole, what it doesn't take", x.colour(ninthA, 0, 1), 99);
        CHECK.due("10 a whole, third", x.colour(ninthA, 0, 2), 54);
        CHECK.due("10 a behind 10 hours", x.colour(ninthA, 10, 0), 36);
        CHECK.due("10 a behind 40 hours", x.colour(ninthA, 40, 2), 99 - 45 * 437 / 1000);
        int both = x.thread(0, 2, 1, 5);
        // Each part is cut alone: 2*45*437/9000 = 4, 5*0 = 0; 2*90*437/9000 = 8, 5*10*1000/9000 = 5.
        CHECK.due("10 two stuffs, cut each", x.colour(both, 40, 2), 95);
        CHECK.due("10 two stuffs, cut each", x.colour(both, 40, 0), 99 - 8 - 5);
        int dark = x.thread(0, 9, 2, 9);
        CHECK.due("10 never below 0", x.colour(dark, 0, 0), 0);
        CHECK.due("10 the most hours", x.colour(dark, 999999, 0), 99);
        int[][] off = {{-1, 0, 0}, {270, 0, 0}, {0, -1, 0}, {0, 1000000, 0}, {0, 0, -1}, {0, 0, 3}};
        for (int[] one : off) {
            CHECK.due("10 colour out of bounds", x.colour(one[0], one[1], one[2]), ClothBack.RANGE);
        }
        CHECK.due("10 the last thread", x.colour(269, 0, 0), x.colour(x.thread(1, 9, 2, 9), 0, 0));
    }
}
