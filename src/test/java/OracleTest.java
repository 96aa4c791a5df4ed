import java.util.Random;

/** Long runs of calls drawn by fixed seeds: ClothBack and Oracle must answer alike, call by call. */
public final class OracleTest {
    private static final int CALLS = 440;

    private final Check check;
    private final Random random;
    private final ClothBack x = new ClothBack();
    private final Oracle o = new Oracle();
    private final Texts texts;
    private final int run;
    private int calls = 0;

    private OracleTest(Check check, int run) {
        this.check = check;
        this.run = run;
        this.random = new Random(run);
        this.texts = new Texts(random, run % 9 == 8);
    }

    public static void main(String[] args) {
        int from = args.length > 0 ? Integer.parseInt(args[0]) : 0;
        int to = args.length > 1 ? Integer.parseInt(args[1]) : 120;
        Check check = new Check("OracleTest");
        for (int run = from; run < to && check.wrong() < 40; run++) {
            new OracleTest(check, run).goOn();
        }
        check.close();
    }

    private void same(String call, int got, int want) {
        calls++;
        check.due("run " + run + ", call " + calls + ": " + call, got, want);
    }

    private void goOn() {
        if (random.nextInt(8) > 0) {
            tellText(texts.whole());
        }
        int asked = 0;
        while (calls < CALLS && check.wrong() == 0) {
            int kind = random.nextInt(100);
            if (kind < 2 && ++asked < 3) {
                tellText(random.nextBoolean() ? texts.whole() : texts.broken());
            } else if (kind < 8) {
                tellText(texts.broken());
            } else if (kind < 25) {
                tell();
            } else if (kind < 40) {
                askCloth();
            } else if (kind < 75) {
                askFit();
            } else if (kind < 90) {
                askMany();
            } else {
                askLight();
            }
        }
    }

    private void tellText(String text) {
        if (random.nextInt(4) > 0) {
            same("end(0)", x.end(0), o.end(0));
        }
        for (int from = 0; from < text.length(); from += 20) {
            int[] w = new int[5];
            for (int i = 0; i < 20; i++) {
                int b = from + i < text.length() ? text.charAt(from + i) : 32;
                w[i / 4] = w[i / 4] << 8 | b;
            }
            same("feed", x.feed(w[0], w[1], w[2], w[3], w[4]), o.feed(w));
        }
        int n = random.nextInt(5) > 0 ? text.length() : random.nextInt(920) - 10;
        same("end(" + n + ")", x.end(n), o.end(n));
        same("count(5)", x.count(5), o.count(5));
        same("cloth() of " + text, x.cloth(), o.cloth());
        for (int what = -1; what < 3; what++) {
            same("fault(" + what + ") of " + text, x.fault(what), o.fault(what));
        }
        if (random.nextInt(4) == 0) {
            for (int what = 0; what < 6; what++) {
                same("count(" + what + ")", x.count(what), o.count(what));
            }
        }
    }

    // ---- drawn arguments: mostly good ones, at times just off their bounds or far from them

    private int of(int least, int most) {
        int kind = random.nextInt(60);
        if (kind == 0) {
            return least - 1;
        }
        if (kind == 1) {
            return most + 1;
        }
        if (kind == 2) {
            int[] far = {Integer.MIN_VALUE, Integer.MAX_VALUE, -1, -2, 1000000, -1000};
            return far[random.nextInt(far.length)];
        }
        if (kind == 3) {
            return least;
        }
        if (kind == 4) {
            return most;
        }
        return most < least ? least : least + random.nextInt(most - least + 1);
    }

    private int cell() {
        return of(0, o.columns * o.rows - 1);
    }

    private int story() {
        return of(0, o.tales.size() - 1);
    }

    private int known() {
        return random.nextInt(3) == 0 ? of(0, 999) : Math.max(0, o.step - random.nextInt(4));
    }

    private int step() {
        return random.nextInt(30) == 0 ? of(0, 999) : Math.min(999, o.step + random.nextInt(3));
    }

    private int[] shades() {
        return new int[] {of(0, 99), of(0, 99), of(0, 99)};
    }

    /** Colours that some pair that fits would show under a lamp, at times a little off. */
    private int[] likely(int cell, int side, int hours) {
        boolean can = cell >= 0 && cell < o.columns * o.rows && !o.tales.isEmpty() && !o.threads.isEmpty();
        if (!can || random.nextInt(8) == 0) {
            return shades();
        }
        int story = random.nextInt(o.tales.size());
        var pairs = o.pairs(cell, story, 999);
        Oracle.Pair pair = pairs.isEmpty()
                ? new Oracle.Pair(random.nextInt(o.threads.size()), 0) : pairs.get(random.nextInt(pairs.size()));
        int h = o.lit(story, cell % o.columns, pair.year(), side) + hours;
        int[] shades = new int[3];
        for (int c = 0; c < 3; c++) {
            int off = random.nextInt(3) == 0 ? random.nextInt(2 * o.slack + 1) - o.slack : 0;
            shades[c] = Math.max(0, Math.min(99, o.shade(o.threads.get(pair.thread()), h, c) + off));
        }
        return shades;
    }

    // ---- calls

    private void tell() {
        int told = step();
        int cell = cell();
        int side = of(0, 1);
        switch (random.nextInt(12)) {
            case 0, 1, 2, 3 -> {
                int[] s = likely(cell, side == 1 ? 1 : 0, 0);
                same("look(" + told + ", " + cell + ", " + side + ", " + s[0] + ", " + s[1] + ", " + s[2] + ")",
                        x.look(told, cell, side, s[0], s[1], s[2]), o.look(told, cell, side, s));
            }
            case 4 -> same("gone(" + told + ", " + cell + ", " + side + ")", x.gone(told, cell, side),
                    o.look(told, cell, side, null));
            case 5, 6 -> {
                int hours = random.nextBoolean() ? of(1, 60) : of(1, 999);
                int[] s = likely(cell, 0, hours);
                same("attempt(" + told + ", " + cell + ", " + hours + ", ..)",
                        x.attempt(told, cell, hours, s[0], s[1], s[2]), o.attempt(told, cell, hours, s));
            }
            case 7 -> {
                int k = of(0, o.tried.size() - 1);
                boolean can = k >= 0 && k < o.tried.size();
                int[] s = can ? likely(o.tried.get(k).cell(), 0, o.tried.get(k).hours()) : shades();
                same("right(" + told + ", " + k + ", ..)", x.right(told, k, s[0], s[1], s[2]), o.right(told, k, s));
            }
            case 8 -> {
                int slot = of(0, 2);
                same("keep(" + slot + ")", x.keep(slot), o.keep(slot));
            }
            case 9 -> {
                int slot = of(0, 2);
                same("take(" + slot + ")", x.take(slot), o.take(slot));
            }
            default -> {
                int seed = random.nextInt(5) == 0 ? of(0, Integer.MAX_VALUE - 1) : random.nextInt(Integer.MAX_VALUE);
                int story = story();
                same("world(" + told + ", " + seed + ", " + story + ")", x.world(told, seed, story),
                        o.world(told, seed, story));
            }
        }
    }

    private void askCloth() {
        int h = random.nextInt(3) == 0 ? of(0, 999999) : of(0, 3000);
        switch (random.nextInt(6)) {
            case 0 -> {
                int what = of(0, 45);
                same("told(" + what + ")", x.told(what), o.told(what));
            }
            case 1 -> {
                int stuff = of(0, o.stuffs.size() - 1);
                same("strength(" + stuff + ", " + h + ")", x.strength(stuff, h), o.strength(stuff, h));
            }
            case 2 -> {
                int story = story();
                int column = of(0, o.columns - 1);
                int year = random.nextBoolean() ? of(0, 999) : of(0, 60);
                int side = of(0, 1);
                same("hours(" + story + ", " + column + ", " + year + ", " + side + ")",
                        x.hours(story, column, year, side), o.hours(story, column, year, side));
            }
            case 3 -> {
                int first = of(0, o.stuffs.size() - 1);
                int a = of(1, 9);
                int second = of(-1, o.stuffs.size() - 1);
                int b = of(1, 9);
                same("thread(" + first + ", " + a + ", " + second + ", " + b + ")", x.thread(first, a, second, b),
                        o.thread(first, a, second, b));
            }
            case 4 -> {
                int thread = of(0, o.threads.size() - 1);
                int c = of(0, 2);
                same("colour(" + thread + ", " + h + ", " + c + ")", x.colour(thread, h, c), o.colour(thread, h, c));
            }
            default -> {
                int what = of(0, 5);
                same("count(" + what + ")", x.count(what), o.count(what));
            }
        }
    }

    private void askFit() {
        int cell = cell();
        int story = story();
        int known = known();
        int c = of(0, 2);
        boolean flag = random.nextBoolean();
        String at = "(" + cell + ", " + story + ", " + known + ", ";
        switch (random.nextInt(7)) {
            case 0 -> {
                int what = of(0, 3);
                same("fit" + at + what + ")", x.fit(cell, story, known, what), o.fit(cell, story, known, what));
            }
            case 1 -> {
                int i = random.nextBoolean() ? of(0, 3) : of(0, 4 * o.threads.size());
                int what = of(0, 1);
                same("pair" + at + i + ", " + what + ")", x.pair(cell, story, known, i, what),
                        o.pair(cell, story, known, i, what));
            }
            case 2 -> same("was" + at + c + ", " + flag + ")", x.was(cell, story, known, c, flag),
                    o.was(cell, story, known, c, flag));
            case 3 -> {
                int bound = of(0, 99);
                same("grey" + at + bound + ", " + c + ")", x.grey(cell, story, known, bound, c),
                        o.grey(cell, story, known, bound, c));
            }
            case 4 -> same("mended" + at, x.mended(cell, story, known), o.mended(cell, story, known));
            case 5 -> {
                int side = of(0, 1);
                int thread = of(0, o.threads.size() - 1);
                boolean can = cell >= 0 && cell < o.columns * o.rows && story >= 0 && story < o.tales.size();
                if (can && random.nextBoolean()) {
                    var pairs = o.pairs(cell, story, known);
                    thread = pairs.isEmpty() ? thread : pairs.get(random.nextInt(pairs.size())).thread();
                }
                same("lightBack(" + cell + ", " + side + ", " + thread + ", " + known + ", " + flag + ")",
                        x.lightBack(cell, side, thread, known, flag), o.lightBack(cell, side, thread, known, flag));
            }
            default -> {
                int side = of(0, 1);
                same("shows(" + cell + ", " + side + ", " + known + ", " + c + ")", x.shows(cell, side, known, c),
                        o.shows(cell, side, known, c));
            }
        }
    }

    private void askMany() {
        int cell = cell();
        int story = story();
        int known = known();
        switch (random.nextInt(5)) {
            case 0 -> same("stories(" + known + ")", x.stories(known), o.stories(known));
            case 1 -> {
                int other = cell();
                boolean flag = random.nextBoolean();
                same("vat(" + cell + ", " + other + ", " + story + ", " + known + ", " + flag + ")",
                        x.vat(cell, other, story, known, flag), o.vat(cell, other, story, known, flag));
            }
            case 2 -> same("vats(" + story + ", " + known + ")", x.vats(story, known), o.vats(story, known));
            case 3 -> {
                int hours = random.nextBoolean() ? of(1, 30) : of(1, 999);
                same("next(" + story + ", " + hours + ")", x.next(story, hours), o.next(story, hours));
            }
            default -> {
                int what = of(0, 2);
                same("beside(" + cell + ", " + story + ", " + known + ", " + what + ")",
                        x.beside(cell, story, known, what), o.beside(cell, story, known, what));
            }
        }
    }

    private void askLight() {
        int cell = cell();
        int eye = of(0, o.eyes.size() - 1);
        int story = story();
        int bound = of(0, 99);
        switch (random.nextInt(4)) {
            case 0, 1 -> {
                int what = of(0, 3);
                same("thrown(" + cell + ", " + eye + ", " + story + ", " + bound + ", " + what + ")",
                        x.thrown(cell, eye, story, bound, what), o.thrown(cell, eye, story, bound, what));
            }
            case 2 -> {
                int light = of(1, 99);
                int by = random.nextBoolean() ? bound : of(0, 12);
                same("bear(" + story + ", " + light + ", " + by + ")", x.bear(story, light, by),
                        o.bear(story, light, by));
            }
            default -> {
                if (random.nextInt(3) == 0) {
                    int missed = random.nextBoolean() ? of(0, 9999) : of(0, 40);
                    same("cannot(" + eye + ", " + story + ", " + bound + ", " + missed + ")",
                            x.cannot(eye, story, bound, missed), o.cannot(eye, story, bound, missed));
                }
            }
        }
    }

    /** Texts of cloths, whole ones and ones with something amiss. */
    private static final class Texts {
        private final Random random;
        private final boolean isLarge;

        Texts(Random random, boolean isLarge) {
            this.random = random;
            this.isLarge = isLarge;
        }

        private int to(int most) {
            return random.nextInt(most + 1);
        }

        private String gap() {
            String[] gaps = {" ", " ", " ", " ", "\n", "  "};
            return gaps[random.nextInt(gaps.length)];
        }

        private String name(int i) {
            String[] names = {"a", "hang", "stuff", "indigo", "weldweld", "sees", "z", "cloth"};
            return names[i % names.length];
        }

        String whole() {
            StringBuilder text = new StringBuilder();
            if (to(5) > 0) {
                int columns = isLarge ? 4 + to(4) : 1 + to(3);
                int rows = isLarge ? 2 + to(4) : 1 + to(2);
                add(text, "cloth", columns, rows);
            }
            if (to(2) > 0) {
                add(text, "slack", to(2) > 0 ? to(3) : to(20));
            }
            int year = 0;
            for (int i = to(3); i > 0; i--) {
                year += 1 + (to(2) > 0 ? to(20) : to(200));
                add(text, "mended", year);
            }
            if (to(3) == 0) {
                add(text, "most", 1 + to(1));
            }
            if (to(1) == 0) {
                add(text, "bright", to(200), to(200), to(200));
            }
            int stuffs = to(12) == 0 ? 0 : isLarge ? 3 + to(2) : 1 + to(2);
            for (int i = 0; i < stuffs; i++) {
                add(text, "stuff " + name(i), to(99), to(3) == 0 ? 0 : to(99), to(99),
                        to(5) == 0 ? to(1) * 1000 : to(1000), 1 + (to(1) == 0 ? to(40) : to(998)),
                        1 + (to(1) == 0 ? to(300) : to(9998)));
            }
            int tales = to(12) == 0 ? 0 : 1 + to(3);
            for (int i = 0; i < tales; i++) {
                text.append("story").append(gap()).append(name(7 - i));
                for (int hang = to(3) == 0 ? to(5) : to(1); hang >= 0; hang--) {
                    add(text.append(gap()), "hang", 1 + (to(4) == 0 ? to(399) : to(30)), to(2) == 0 ? to(99) : to(9),
                            to(2) == 0 ? to(99) : to(9), to(100));
                    text.setLength(text.lastIndexOf(";"));
                }
                text.append(";");
            }
            int eyes = to(3) == 0 ? to(2) : 1;
            for (int i = 0; i < eyes; i++) {
                text.append("eye ").append(name(i + 3));
                for (int row = 0; row < 3; row++) {
                    text.append(gap()).append("sees ").append(to(9)).append(gap()).append(to(9)).append(gap())
                            .append(to(9));
                }
                text.append(gap()).append(";").append(to(3) == 0 ? "\n" : "");
            }
            return text.length() > 880 ? "cloth 2 2;" : text.toString();
        }

        private void add(StringBuilder text, String first, int... numbers) {
            text.append(first);
            for (int n : numbers) {
                text.append(gap()).append(to(20) == 0 && n < 1000 ? "0" : "").append(n);
            }
            text.append(to(9) == 0 ? " ;" : ";");
            text.append(to(3) == 0 ? gap() : "");
        }

        String broken() {
            StringBuilder text = new StringBuilder(whole());
            for (int i = to(2); i >= 0 && text.length() > 0; i--) {
                int at = random.nextInt(text.length());
                switch (to(6)) {
                    case 0 -> text.setLength(at);
                    case 1 -> text.deleteCharAt(at);
                    case 2 -> text.insert(at, (char) random.nextInt(256));
                    case 3 -> text.setCharAt(at, "09az;A \n\t{`/:".charAt(to(12)));
                    case 4 -> text.insert(at, to(1) == 0 ? "9" : "b");
                    case 5 -> {
                        int from = text.lastIndexOf(";", at) + 1;
                        int past = text.indexOf(";", at) + 1;
                        if (past > from) {
                            text.insert(to(1) == 0 ? from : text.length(), text.substring(from, past));
                        }
                    }
                    default -> {
                        String all = text.toString();
                        text.append(all.replace('a', 'q').replace('e', (char) ('e' + to(1))));
                    }
                }
            }
            text.setLength(Math.min(900, text.length()));
            return text.toString();
        }
    }
}
