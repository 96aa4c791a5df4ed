import java.util.function.Supplier;

/** What the document says of bounds in "Terms" II of CELLS, and in promises 11 to 17: one test for each sentence. */
public final class LookBoundsTest {
    // Three columns with light of 0, 10 and 20; a stuff that halves every ten hours.
    private static final String TEXT = "cloth 3 2;stuff a 90 45 9 1000 10 1;story s hang 1 0 20 50;";

    private static Check check;

    public static void main(String[] args) {
        Check own = new Check("LookBoundsTest");
        all(own);
        own.close();
    }

    static void all(Check to) {
        check = to;
        cellsAndSides();
        goneShowsNothing();
        steps();
        hairs();
        look();
        gone();
        attempt();
        right();
        shows();
        keep();
        take();
    }

    /** Steps up to 5; LOOKS, a hair that was put right, one kept slot. */
    private static ClothBack inUse() {
        ClothBack x = Check.of(TEXT);
        x.look(2, 0, 0, 9, 54, 90);
        x.keep(1);
        x.look(3, 1, 0, 54, 77, 95);
        x.gone(4, 2, 1);
        x.attempt(4, 0, 5, 9, 54, 90);
        x.right(5, 0, 10, 55, 91);
        return x;
    }

    private static ClothBack withLooks(int many) {
        ClothBack x = Check.of(TEXT);
        for (int i = 0; i < many; i++) {
            x.look(5, i % 6, i / 6 % 2, i, 1, 2);
        }
        return x;
    }

    private static ClothBack withTried(int many, int rights) {
        ClothBack x = Check.of(TEXT);
        for (int i = 0; i < many; i++) {
            x.attempt(5, i % 6, 1, i, 1, 2);
        }
        for (int i = 0; i < rights; i++) {
            x.right(5, i % 2, i, 1, 2);
        }
        return x;
    }

    /** A number of a telling on both sides of both its ends, each told to a new object; what is refused isn't told. */
    private interface Telling {
        int tell(ClothBack x, int n);
    }

    private static void tellingEnds(String call, Supplier<ClothBack> made, Telling telling, int least, int most,
            int answer) {
        check.ends(call, n -> telling.tell(made.get(), n), least, answer, most, answer, ClothBack.RANGE);
        for (int n : new int[] {least - 1, most + 1, Integer.MIN_VALUE, Integer.MAX_VALUE}) {
            check.keepsAll(call + " by " + n, made, x -> telling.tell(x, n), ClothBack.RANGE);
        }
    }

    // ---- Terms II

    private static void cellsAndSides() {
        check.sentence("Terms II, promises 11 and 15", "A CELL (numbered columns times row, and column) shows three"
                + " colours in FRONT (side 0) and BEHIND (1),"
                + " 0 .. 99 each;");
        int[][] sizes = {{1, 1}, {8, 6}, {1, 6}, {8, 1}, {3, 2}};
        for (int[] size : sizes) {
            String text = "cloth " + size[0] + " " + size[1] + ";";
            check.ends("look at a cell of " + text, n -> Check.of(text).look(0, n, 0, 1, 2, 3), 0, 1,
                    size[0] * size[1] - 1, 1,
                    ClothBack.RANGE);
        }
        check.ends("look at a side", n -> Check.of(TEXT).look(0, 0, n, 1, 2, 3), 0, 1, 1, 1, ClothBack.RANGE);
        for (int shade : new int[] {0, 99}) {
            ClothBack x = Check.of(TEXT);
            x.look(0, 5, 1, shade, shade, shade);
            for (int c = 0; c < 3; c++) {
                check.due("shows(5, 1, 0, " + c + ")", x.shows(5, 1, 0, c), shade);
                check.due("shows(5, 0, 0, " + c + ")", x.shows(5, 0, 0, c), ClothBack.NONE);
            }
        }
        // By its number a cell lies in a column: nine parts are whole in the first, halved in the second, then again.
        for (int cell = 0; cell < 6; cell++) {
            for (int column = 0; column < 3; column++) {
                ClothBack x = Check.of(TEXT);
                x.look(0, cell, 0, x.colour(8, column * 10, 0), x.colour(8, column * 10, 1), x.colour(8, column * 10,
                        2));
                check.due("fit of cell " + cell + " as in column " + column, x.fit(cell, 0, 0, 0),
                        cell % 3 == column ? 1 : 0);
            }
        }
        ClothBack last = Check.of(TEXT);
        last.look(0, 2, 0, 77, 88, 97);
        last.look(0, 3, 0, 9, 54, 90);
        check.due("the last of a row: fit(2, 0, 0, 2)", last.fit(2, 0, 0, 2), 8);
        check.due("the first of the next: fit(3, 0, 0, 2)", last.fit(3, 0, 0, 2), 8);
    }

    private static void goneShowsNothing() {
        check.sentence("Terms II, promises 12 and 15", "or it is GONE (no colour);");
        ClothBack x = Check.of(TEXT);
        x.look(0, 0, 0, 9, 54, 90);
        x.look(0, 0, 1, 9, 54, 90);
        x.gone(1, 0, 0);
        for (int c = 0; c < 3; c++) {
            check.due("shows(0, 0, 1, " + c + ")", x.shows(0, 0, 1, c), -5);
            check.due("shows(0, 0, 0, " + c + "): ahead of it", x.shows(0, 0, 0, c) > 0 ? 1 : 0, 1);
        }
        check.due("shows(0, 1, 1, 0): the other side", x.shows(0, 1, 1, 0), 9);
        check.due("shows(1, 0, 1, 0): nothing is known", x.shows(1, 0, 1, 0), ClothBack.NONE);
        check.refuses("a colour of -5 can't be told", n -> Check.of(TEXT).look(0, 0, 0, n, n, n), ClothBack.RANGE, -5);
        check.due("gone of what nobody looked at", x.gone(1, 5, 1), 4);
        check.due("shows(5, 1, 1, 2)", x.shows(5, 1, 1, 2), -5);
        check.due("look at what was gone", x.look(1, 5, 1, 0, 0, 0), 5);
        check.due("shows(5, 1, 1, 2)", x.shows(5, 1, 1, 2), 0);
    }

    private static void steps() {
        check.sentence("Terms II, promises 11 to 14 and 32", "told at a STEP of telling (0 .. 999, never falling; at"
                + " most 90 LOOKS), the latest one known of a CELL"
                + " and side counts.");
        tellingEnds("look at a step", () -> Check.of(TEXT), (x, n) -> x.look(n, 0, 0, 1, 2, 3), 0, 999, 1);
        tellingEnds("look at a step behind 5", LookBoundsTest::inUse, (x, n) -> x.look(n, 0, 0, 1, 2, 3), 5, 999, 4);
        tellingEnds("gone at a step behind 5", LookBoundsTest::inUse, (x, n) -> x.gone(n, 0, 0), 5, 999, 4);
        tellingEnds("attempt at a step behind 5", LookBoundsTest::inUse, (x, n) -> x.attempt(n, 0, 1, 1, 2, 3), 5,
                999, 1);
        tellingEnds("right at a step behind 5", LookBoundsTest::inUse, (x, n) -> x.right(n, 0, 1, 2, 3), 5, 999, 2);
        tellingEnds("world at a step behind 5", LookBoundsTest::inUse, (x, n) -> x.world(n, 1, 0), 5, 999, 12);
        ClothBack late = Check.of(TEXT);
        check.due("look at 998", late.look(998, 0, 0, 1, 2, 3), 1);
        check.due("look at 999", late.look(999, 0, 0, 4, 5, 6), 2);
        check.due("look at 999 again", late.look(999, 0, 0, 7, 8, 9), 3);
        check.due("look at 998 behind that", late.look(998, 0, 0, 1, 1, 1), ClothBack.RANGE);
        int[][] known = {{0, -1}, {997, -1}, {998, 1}, {999, 7}};
        for (int[] one : known) {
            check.due("shows as known at " + one[0], late.shows(0, 0, one[0], 0), one[1]);
        }
        for (int looks : new int[] {88, 89}) {
            check.due("look behind " + looks, withLooks(looks).look(5, 0, 0, 1, 2, 3), looks + 1);
            check.due("gone behind " + looks, withLooks(looks).gone(5, 0, 0), looks + 1);
        }
        check.keepsAll("look behind 90", () -> withLooks(90), x -> x.look(6, 0, 0, 1, 2, 3), ClothBack.FULL);
        check.keepsAll("gone behind 90", () -> withLooks(90), x -> x.gone(6, 0, 0), ClothBack.FULL);
    }

    private static void hairs() {
        check.sentence("Terms II, promises 13 and 14", "TRIED: a hair of a CELL's front under a lamp for so many hours"
                + " (1 .. 999) more: three colours; at most"
                + " 20, told likewise, perhaps put RIGHT later (20 times in all).");
        tellingEnds("attempt of so many hours", LookBoundsTest::inUse, (x, n) -> x.attempt(5, 0, n, 1, 2, 3), 1, 999,
                1);
        for (int tried : new int[] {18, 19}) {
            check.due("attempt behind " + tried, withTried(tried, 0).attempt(5, 0, 1, 1, 2, 3), tried);
        }
        check.keepsAll("attempt behind 20", () -> withTried(20, 0), x -> x.attempt(6, 0, 1, 1, 2, 3), ClothBack.FULL);
        for (int rights : new int[] {18, 19}) {
            check.due("right behind " + rights, withTried(2, rights).right(5, 0, 1, 2, 3), (rights + 1) / 2 + 1);
        }
        check.keepsAll("right behind 20", () -> withTried(2, 20), x -> x.right(6, 0, 1, 2, 3), ClothBack.FULL);
        check.keepsAll("right of another behind 20", () -> withTried(20, 20), x -> x.right(6, 19, 1, 2, 3),
                ClothBack.FULL);
        // Hours more than the front's: 9 and 10 behind none part what halves at ten; under 999 nothing is left.
        int[][] due = {{1, 9}, {9, 9}, {10, 54}, {999, 99}};
        for (int[] one : due) {
            ClothBack x = Check.of(TEXT);
            int h = one[0];
            check.due("colour behind " + h, x.colour(8, h, 0), one[1]);
            x.attempt(0, 0, h, x.colour(8, h, 0), x.colour(8, h, 1), x.colour(8, h, 2));
            check.due("fit of a hair of " + h + " hours: nine parts or any", x.pair(0, 0, 0, x.fit(0, 0, 0, 0) - 1,
                    0), 8);
            check.due("fit of a hair of " + h + " hours", x.fit(0, 0, 0, 1), h == 999 ? 9 : 1);
        }
        // In the last column twenty hours are in front, ten behind: a hair goes on from the front.
        ClothBack front = Check.of(TEXT);
        front.attempt(0, 2, 10, front.colour(8, 30, 0), front.colour(8, 30, 1), front.colour(8, 30, 2));
        check.due("a hair of the front: thirty hours", front.fit(2, 0, 0, 2), 8);
        manyHairs();
        // At the step of its putting right the new colours count, ahead of that the old ones.
        ClothBack y = Check.of(TEXT);
        y.attempt(3, 0, 9, 9, 54, 90);
        y.right(7, 0, 19, 59, 91);
        int[][] known = {{2, 9}, {3, 1}, {6, 1}, {7, 1}};
        int[] least = {0, 8, 8, 7};
        for (int i = 0; i < known.length; i++) {
            check.due("fit(0, 0, " + known[i][0] + ", 1)", y.fit(0, 0, known[i][0], 1), known[i][1]);
            check.due("fit(0, 0, " + known[i][0] + ", 2)", y.fit(0, 0, known[i][0], 2), least[i]);
        }
    }

    /** Twenty hairs, of twenty cells; each fits by its own colours, or by those that it was put right to. */
    private static void manyHairs() {
        ClothBack x = Check.of("cloth 4 5;stuff a 90 45 9 0 1 9999;story s hang 1 0 0 0;");
        for (int k = 0; k < 20; k++) {
            x.attempt(k, 19 - k, 1, x.colour(k % 9, 0, 0), x.colour(k % 9, 0, 1), x.colour(k % 9, 0, 2));
        }
        for (int i = 0; i < 20; i++) {
            int k = i < 10 ? 19 - i : 10 + i - 10;
            int thread = i < 10 ? 8 : 7;
            x.right(20 + i, k, x.colour(thread, 0, 0), x.colour(thread, 0, 1), x.colour(thread, 0, 2));
        }
        for (int k = 0; k < 20; k++) {
            int cell = 19 - k;
            check.due("hair " + k + " isn't known yet", x.fit(cell, 0, k - 1 < 0 ? 0 : k - 1, 1), k == 0 ? 1 : 9);
            check.due("hair " + k + " as it was told", x.fit(cell, 0, 19, 2), k % 9);
            check.due("hair " + k + " ahead of its putting right", x.fit(cell, 0, k < 10 ? 999 : 38 - k, 2), k % 9);
            if (k >= 10) {
                check.due("hair " + k + " put right", x.fit(cell, 0, 39 - k, 2), 8);
                check.due("hair " + k + " ahead of the second time", x.fit(cell, 0, 19 + k, 2), 8);
                check.due("hair " + k + " put right again", x.fit(cell, 0, 20 + k, 2), 7);
                check.due("hair " + k + " at last", x.fit(cell, 0, 999, 2), 7);
            }
        }
    }

    // ---- promises

    private static void look() {
        check.sentence("Promise 11", "A CELL's side shows three colours, told at a STEP: how many LOOKS there are;"
                + " RANGE; FULL.");
        tellingEnds("look at a cell", LookBoundsTest::inUse, (x, n) -> x.look(5, n, 0, 1, 2, 3), 0, 5, 4);
        tellingEnds("look at a side", LookBoundsTest::inUse, (x, n) -> x.look(5, 0, n, 1, 2, 3), 0, 1, 4);
        tellingEnds("look by a", LookBoundsTest::inUse, (x, n) -> x.look(5, 0, 0, n, 2, 3), 0, 99, 4);
        tellingEnds("look by b", LookBoundsTest::inUse, (x, n) -> x.look(5, 0, 0, 1, n, 3), 0, 99, 4);
        tellingEnds("look by c", LookBoundsTest::inUse, (x, n) -> x.look(5, 0, 0, 1, 2, n), 0, 99, 4);
        ClothBack x = Check.of("cloth 1 1;");
        for (int i = 1; i <= 90; i++) {
            check.due("look " + i, x.look(0, 0, 0, i, 0, 0), i);
        }
        check.due("look 91", x.look(0, 0, 0, 91, 0, 0), ClothBack.FULL);
        check.due("shows: the last that was told", x.shows(0, 0, 0, 0), 90);
        check.due("count(1)", x.count(1), 90);
        check.due("look 91 that can't be", x.look(0, 1, 0, 1, 0, 0), ClothBack.RANGE);
    }

    private static void gone() {
        check.sentence("Promise 12", "A CELL's side is GONE, told at a STEP: how many LOOKS there are; RANGE; FULL.");
        tellingEnds("gone of a cell", LookBoundsTest::inUse, (x, n) -> x.gone(5, n, 0), 0, 5, 4);
        tellingEnds("gone of a side", LookBoundsTest::inUse, (x, n) -> x.gone(5, 0, n), 0, 1, 4);
        ClothBack x = Check.of("cloth 1 1;");
        for (int i = 1; i < 90; i++) {
            check.due("gone " + i, x.gone(0, 0, 0), i);
        }
        check.due("look 90", x.look(0, 0, 0, 7, 0, 0), 90);
        check.due("gone 91", x.gone(0, 0, 0), ClothBack.FULL);
        check.due("shows: the last that was told", x.shows(0, 0, 0, 0), 7);
        check.due("gone 91 that can't be", x.gone(0, 0, 2), ClothBack.RANGE);
    }

    private static void attempt() {
        check.sentence("Promise 13", "A hair of a CELL was TRIED: its number; RANGE; FULL.");
        tellingEnds("attempt of a cell", LookBoundsTest::inUse, (x, n) -> x.attempt(5, n, 1, 1, 2, 3), 0, 5, 1);
        tellingEnds("attempt by a", LookBoundsTest::inUse, (x, n) -> x.attempt(5, 0, 1, n, 2, 3), 0, 99, 1);
        tellingEnds("attempt by b", LookBoundsTest::inUse, (x, n) -> x.attempt(5, 0, 1, 1, n, 3), 0, 99, 1);
        tellingEnds("attempt by c", LookBoundsTest::inUse, (x, n) -> x.attempt(5, 0, 1, 1, 2, n), 0, 99, 1);
        ClothBack x = withLooks(90);
        for (int i = 0; i < 20; i++) {
            check.due("attempt " + i + ", though looks are full", x.attempt(5, 0, 1, 1, 2, 3), i);
        }
        check.due("the 21st attempt", x.attempt(5, 0, 1, 1, 2, 3), ClothBack.FULL);
        check.due("count(2)", x.count(2), 20);
        check.due("the 21st that can't be", x.attempt(5, 0, 1000, 1, 2, 3), ClothBack.RANGE);
    }

    private static void right() {
        check.sentence("Promise 14", "One of these is put RIGHT (the colours): how often it was; RANGE; FULL: the 21st"
                + " in all.");
        Supplier<ClothBack> three = () -> withTried(3, 0);
        tellingEnds("right of one of three", three, (x, n) -> x.right(5, n, 1, 2, 3), 0, 2, 1);
        tellingEnds("right by a", LookBoundsTest::inUse, (x, n) -> x.right(5, 0, n, 2, 3), 0, 99, 2);
        tellingEnds("right by b", LookBoundsTest::inUse, (x, n) -> x.right(5, 0, 1, n, 3), 0, 99, 2);
        tellingEnds("right by c", LookBoundsTest::inUse, (x, n) -> x.right(5, 0, 1, 2, n), 0, 99, 2);
        check.keepsAll("right, though nothing was tried", () -> withLooks(3), x -> x.right(5, 0, 1, 2, 3),
                ClothBack.RANGE);
        ClothBack x = withTried(20, 0);
        for (int i = 1; i < 20; i++) {
            check.due("right of the last, " + i, x.right(5, 19, 1, 2, 3), i);
        }
        check.due("right of the first, the 20th in all", x.right(5, 0, 1, 2, 3), 1);
        check.due("the 21st in all", x.right(5, 0, 1, 2, 3), ClothBack.FULL);
        check.due("the 21st that can't be", x.right(5, 20, 1, 2, 3), ClothBack.RANGE);
        check.due("count(3)", x.count(3), 20);
        ClothBack one = withTried(1, 0);
        for (int i = 1; i <= 20; i++) {
            check.due("right of one alone, " + i, one.right(5, 0, 1, 2, 3), i);
        }
        check.due("right of one alone, 21", one.right(5, 0, 1, 2, 3), ClothBack.FULL);
    }

    private static void shows() {
        check.sentence("Promise 15", "What a CELL's side shows as known at a STEP, COLOUR c; NONE: nothing is known,"
                + " or it is GONE (-5);"
                + " RANGE.");
        ClothBack x = Check.of(TEXT);
        x.look(0, 0, 0, 0, 1, 2);
        x.look(999, 5, 1, 97, 98, 99);
        check.ends("shows of a cell's front", n -> x.shows(n, 0, 999, 0), 0, 0, 5, -1, ClothBack.RANGE);
        check.ends("shows of a cell's back", n -> x.shows(n, 1, 999, 0), 0, -1, 5, 97, ClothBack.RANGE);
        check.ends("shows of a side", n -> x.shows(5, n, 999, 0), 0, -1, 1, 97, ClothBack.RANGE);
        check.ends("shows as known", n -> x.shows(5, 1, n, 0), 0, -1, 999, 97, ClothBack.RANGE);
        check.due("shows as known at 998", x.shows(5, 1, 998, 0), ClothBack.NONE);
        check.due("shows of cell 0 as known at 0", x.shows(0, 0, 0, 2), 2);
        check.ends("shows of a colour", n -> x.shows(5, 1, 999, n), 0, 97, 2, 99, ClothBack.RANGE);
        x.gone(999, 5, 1);
        check.ends("shows of what is gone", n -> x.shows(5, 1, 999, n), 0, -5, 2, -5, ClothBack.RANGE);
        check.ends("shows of what is gone, by the step", n -> x.shows(5, 1, n, 0), 0, -1, 999, -5, ClothBack.RANGE);
    }

    private static void keep() {
        check.sentence("Promise 16", "A SLOT (0 .. 2) keeps LOOKS, TRIED, what was put RIGHT and the STEP: how many"
                + " LOOKS; RANGE.");
        tellingEnds("keep in a slot", LookBoundsTest::inUse, ClothBack::keep, 0, 2, 3);
        check.due("keep of nothing", new ClothBack().keep(0), 0);
        check.due("keep of 90", withLooks(90).keep(2), 90);
        // All that there may be is kept, and a slot holds the latest that was kept in it.
        ClothBack x = withTried(20, 20);
        for (int i = 0; i < 90; i++) {
            x.look(9, i % 6, 0, i, 1, 2);
        }
        check.due("keep of all", x.keep(0), 90);
        Check.tape(x, "slack 3;");
        check.due("keep in another", x.keep(1), 90);
        check.due("the tape isn't kept", x.end(0), 0);
        x.take(0);
        check.due("count(1)", x.count(1), 90);
        check.due("count(2)", x.count(2), 20);
        check.due("count(3)", x.count(3), 20);
        check.due("look behind that", x.look(9, 0, 0, 1, 2, 3), ClothBack.FULL);
        check.due("look ahead of its step", x.look(8, 0, 0, 1, 2, 3), ClothBack.RANGE);
        ClothBack y = inUse();
        check.due("keep over what was kept", y.keep(1), 3);
        check.due("take", y.take(1), 3);
        // What is told later in the same places doesn't come into the slot, nor what is told behind a take.
        ClothBack full = kept(true);
        ClothBack alone = kept(false);
        check.due("take of all", full.take(0), alone.take(0));
        check.due("hairs that nobody put right", full.fit(0, 0, 0, 2), 8);
        check.due("hairs that were put right", full.fit(3, 0, 0, 2), 7);
        check.holds("a slot keeps its own", Portrait.of(full).equals(Portrait.of(alone)));
    }

    /** All that there may be, kept in slot 0; then, if it is to be so, the same places are told otherwise. */
    private static ClothBack kept(boolean isOverwritten) {
        ClothBack x = Check.of(TEXT);
        x.keep(1);
        for (int turn = 0; turn < (isOverwritten ? 2 : 1); turn++) {
            for (int i = 0; i < 90; i++) {
                x.look(turn, 1 + i % 2, i / 6 % 2, i, 99 - i, 2 * turn);
            }
            // Hairs of cell 0 tell nine parts (or three), those of cell 3 are put right to eight (or two).
            for (int i = 0; i < 20; i++) {
                x.attempt(turn, i < 10 ? 0 : 3, 1, 9 + 60 * turn, 54 + 30 * turn, 90 + 6 * turn);
            }
            for (int i = 0; i < 20; i++) {
                x.right(turn, 10 + i % 10, 19 + 60 * turn, 59 + 30 * turn, 91 + 6 * turn);
            }
            x.keep(turn == 0 ? 0 : 2);
            x.take(1);
        }
        x.keep(2);
        return x;
    }

    private static void take() {
        check.sentence("Promise 17", "These become as a SLOT keeps them: how many LOOKS; RANGE; STATE: it is empty.");
        for (int slot = 0; slot < 3; slot++) {
            int own = slot;
            check.keepsAll("take of an empty slot", () -> withLooks(4), x -> x.take(own), ClothBack.STATE);
            ClothBack x = withTried(1, 1);
            x.keep(slot);
            x.look(7, 0, 0, 1, 2, 3);
            x.attempt(8, 0, 1, 1, 2, 3);
            x.right(8, 1, 1, 2, 3);
            for (int other = 0; other < 3; other++) {
                if (other != slot) {
                    check.due("take of slot " + other + " by keep of " + slot, x.take(other), ClothBack.STATE);
                }
            }
            check.due("take of slot " + slot, x.take(slot), 0);
            check.due("count(2)", x.count(2), 1);
            check.due("count(3)", x.count(3), 1);
            check.due("shows(0, 0, 999, 0)", x.shows(0, 0, 999, 0), ClothBack.NONE);
            check.due("the step: look(4, ..)", x.look(4, 0, 0, 1, 2, 3), ClothBack.RANGE);
            check.due("the step: look(5, ..)", x.look(5, 0, 0, 1, 2, 3), 1);
        }
        for (int slot : new int[] {-1, 3, Integer.MIN_VALUE, Integer.MAX_VALUE}) {
            check.keepsAll("take(" + slot + ")", LookBoundsTest::inUse, x -> x.take(slot), ClothBack.RANGE);
        }
        ClothBack y = inUse();
        check.due("take of a slot that keeps nothing known", keptEmpty(y), 0);
        check.due("the step is 0 again", y.look(0, 0, 0, 1, 2, 3), 1);
        check.due("rights are none again: attempt", y.attempt(0, 0, 1, 1, 2, 3), 0);
        check.due("rights are none again: right", y.right(0, 0, 1, 2, 3), 1);
    }

    private static int keptEmpty(ClothBack x) {
        Check.cloth(x, TEXT);
        x.keep(2);
        x.look(999, 0, 0, 1, 2, 3);
        return x.take(2);
    }
}
