import java.util.ArrayList;
import java.util.HashMap;
import java.util.HashSet;
import java.util.List;
import java.util.Map;
import java.util.Set;
import java.util.TreeMap;
import java.util.regex.Matcher;
import java.util.regex.Pattern;

/**
 * The document told once more, as slowly and plainly as can be, in another way than ClothBack is built: it tries
 * every hour, every thread and every light, and keeps nothing between calls. OracleTest holds both to one another.
 */
final class Oracle {
    record Stuff(int[] takes, int fast, int fastHours, int slowHours) { }

    record Hang(int years, int left, int right, int part) { }

    record Thread(int first, int a, int second, int b) { }

    record Pair(int thread, int year) { }

    record Look(int told, int cell, int side, int[] shades) { }

    record Tried(int told, int cell, int hours, int[] shades) { }

    record Right(int told, int k, int[] shades) { }

    record Kept(List<Look> looks, List<Tried> tried, List<Right> rights, int step) { }

    int columns = 4;
    int rows = 3;
    int slack = 0;
    int most = 2;
    int clauses = 0;
    int[] bright = {100, 100, 100};
    List<Integer> menders = new ArrayList<>();
    List<Stuff> stuffs = new ArrayList<>();
    List<List<Hang>> tales = new ArrayList<>();
    List<int[][]> eyes = new ArrayList<>();
    List<Thread> threads = new ArrayList<>();
    int faultKind = 0;
    int faultPlace = -1;

    StringBuilder tape = new StringBuilder();
    List<Look> looks = new ArrayList<>();
    List<Tried> tried = new ArrayList<>();
    List<Right> rights = new ArrayList<>();
    int step = 0;
    Kept[] slots = new Kept[3];

    // ---- the tape and the cloth

    int feed(int[] words) {
        if (tape.length() + 20 > 900) {
            return -3;
        }
        for (int word : words) {
            for (int shift = 24; shift >= 0; shift -= 8) {
                tape.append((char) (word >>> shift & 255));
            }
        }
        return tape.length();
    }

    int end(int n) {
        if (n < 0 || n > tape.length()) {
            return -1;
        }
        tape.setLength(n);
        return n;
    }

    private static final class Fault extends RuntimeException {
        private static final long serialVersionUID = 1L;
        final int kind;
        final int place;

        Fault(int kind, int place) {
            this.kind = kind;
            this.place = place;
        }
    }

    private static final Pattern TOKEN = Pattern.compile("[ \n]*([a-z]+|[0-9]+|;|[\\x00-\\xff]|$)", Pattern.DOTALL);

    /** Reads by a list of tokens made ahead: whether a token is good is asked only when it is come to. */
    private final class Reader {
        final List<String> tokens = new ArrayList<>();
        final List<Integer> places = new ArrayList<>();
        int at = 0;

        Reader(String text) {
            Matcher matcher = TOKEN.matcher(text);
            int from = 0;
            while (from < text.length()) {
                matcher.region(from, text.length());
                if (!matcher.lookingAt()) {
                    throw new IllegalStateException("the pattern takes any byte");
                }
                if (!matcher.group(1).isEmpty()) {
                    tokens.add(matcher.group(1));
                    places.add(matcher.start(1));
                }
                from = matcher.end();
            }
            tokens.add("");
            places.add(text.length());
        }

        Fault fault(int kind) {
            return new Fault(kind, places.get(at));
        }

        String word() {
            String token = tokens.get(at);
            if (!token.matches("[a-z]{1,8}")) {
                throw fault(1);
            }
            return token;
        }

        void exactly(String what) {
            if (!tokens.get(at).equals(what)) {
                throw fault(1);
            }
            at++;
        }

        int number(int least, int greatest) {
            String token = tokens.get(at);
            if (!token.matches("[0-9]{1,4}")) {
                throw fault(1);
            }
            int n = Integer.parseInt(token);
            if (n < least || n > greatest) {
                throw fault(2);
            }
            at++;
            return n;
        }

        void name(Set<String> names) {
            String name = word();
            if (!names.add(name)) {
                throw fault(3);
            }
            at++;
        }

        void room(int has, int may) {
            if (has >= may) {
                throw fault(4);
            }
        }
    }

    int cloth() {
        String text = tape.toString();
        tape.setLength(0);
        faultKind = 0;
        faultPlace = -1;
        Oracle draft = new Oracle();
        try {
            draft.readAll(draft.new Reader(text));
        } catch (Fault fault) {
            faultKind = fault.kind;
            faultPlace = fault.place;
            return -1;
        }
        columns = draft.columns;
        rows = draft.rows;
        slack = draft.slack;
        most = draft.most;
        clauses = draft.clauses;
        bright = draft.bright;
        menders = draft.menders;
        stuffs = draft.stuffs;
        tales = draft.tales;
        eyes = draft.eyes;
        looks = new ArrayList<>();
        tried = new ArrayList<>();
        rights = new ArrayList<>();
        step = 0;
        slots = new Kept[3];
        litBefore.clear();
        numberThreads();
        return clauses;
    }

    private void readAll(Reader r) {
        Set<String> once = new HashSet<>();
        Set<String> stuffNames = new HashSet<>();
        Set<String> taleNames = new HashSet<>();
        Set<String> eyeNames = new HashSet<>();
        while (!r.tokens.get(r.at).isEmpty()) {
            String word = r.word();
            switch (word) {
                case "cloth", "slack", "most", "bright" -> {
                    if (!once.add(word)) {
                        throw r.fault(3);
                    }
                }
                case "mended" -> r.room(menders.size(), 3);
                case "stuff" -> r.room(stuffs.size(), 5);
                case "story" -> r.room(tales.size(), 4);
                case "eye" -> r.room(eyes.size(), 2);
                default -> throw r.fault(1);
            }
            r.at++;
            switch (word) {
                case "cloth" -> {
                    columns = r.number(1, 8);
                    rows = r.number(1, 6);
                }
                case "slack" -> slack = r.number(0, 20);
                case "most" -> most = r.number(1, 2);
                case "bright" -> bright = new int[] {r.number(0, 200), r.number(0, 200), r.number(0, 200)};
                case "mended" -> menders.add(
                        r.number(menders.isEmpty() ? 1 : menders.get(menders.size() - 1) + 1, 999));
                case "stuff" -> {
                    r.name(stuffNames);
                    int[] takes = {r.number(0, 99), r.number(0, 99), r.number(0, 99)};
                    stuffs.add(new Stuff(takes, r.number(0, 1000), r.number(1, 999), r.number(1, 9999)));
                }
                case "story" -> {
                    r.name(taleNames);
                    List<Hang> hangs = new ArrayList<>();
                    do {
                        if (r.tokens.get(r.at).equals("hang")) {
                            r.room(hangs.size(), 6);
                        }
                        r.exactly("hang");
                        hangs.add(new Hang(r.number(1, 400), r.number(0, 99), r.number(0, 99), r.number(0, 100)));
                    } while (r.tokens.get(r.at).equals("hang"));
                    tales.add(hangs);
                }
                default -> {
                    r.name(eyeNames);
                    int[][] eye = new int[3][3];
                    for (int[] row : eye) {
                        r.exactly("sees");
                        for (int c = 0; c < 3; c++) {
                            row[c] = r.number(0, 9);
                        }
                    }
                    eyes.add(eye);
                }
            }
            r.exactly(";");
            clauses++;
        }
    }

    private void numberThreads() {
        threads = new ArrayList<>();
        for (int s = 0; s < stuffs.size(); s++) {
            for (int a = 1; a <= 9; a++) {
                threads.add(new Thread(s, a, -1, 0));
            }
        }
        for (int s = 0; most == 2 && s < stuffs.size(); s++) {
            for (int a = 1; a <= 9; a++) {
                for (int t = s + 1; t < stuffs.size(); t++) {
                    for (int b = 1; b <= 9; b++) {
                        threads.add(new Thread(s, a, t, b));
                    }
                }
            }
        }
    }

    int fault(int what) {
        return what == 0 ? faultKind : what == 1 ? faultPlace : -1;
    }

    int told(int what) {
        int[] plain = {columns, rows, slack, most, stuffs.size(), tales.size(), eyes.size(), menders.size()};
        if (what >= 0 && what < 8) {
            return plain[what];
        }
        if (what >= 10 && what < 13) {
            return bright[what - 10];
        }
        if (what >= 20 && what < 20 + menders.size()) {
            return menders.get(what - 20);
        }
        if (what >= 30 && what < 30 + tales.size()) {
            return tales.get(what - 30).size();
        }
        if (what >= 40 && what < 40 + tales.size()) {
            return tales.get(what - 40).stream().mapToInt(Hang::years).sum();
        }
        return -1;
    }

    // ---- laws

    private static boolean in(int n, int least, int greatest) {
        return least <= n && n <= greatest;
    }

    private static int halve(int part, int times) {
        int left = part;
        for (int i = 0; i < times && left > 0; i++) {
            left = left / 2;
        }
        return left;
    }

    private int power(int stuff, int h) {
        Stuff s = stuffs.get(stuff);
        return halve(s.fast, h / s.fastHours) + halve(1000 - s.fast, h / s.slowHours);
    }

    int strength(int stuff, int h) {
        return in(stuff, 0, stuffs.size() - 1) && in(h, 0, 999999) ? power(stuff, h) : -2;
    }

    private final Map<List<Integer>, Integer> litBefore = new HashMap<>();

    int lit(int story, int column, int year, int side) {
        return litBefore.computeIfAbsent(List.of(story, column, year, side), k -> litSlowly(story, column, year, side));
    }

    /** Year by year, so that what is ahead of a year is left out one by one. */
    private int litSlowly(int story, int column, int year, int side) {
        int sum = 0;
        int now = 0;
        for (Hang hang : tales.get(story)) {
            int light = hang.left;
            if (columns > 1) {
                int slope = (hang.right - hang.left) * column;
                light += slope >= 0 ? slope / (columns - 1) : -(-slope / (columns - 1));
            }
            int got = 0;
            for (int y = 0; y < hang.years; y++) {
                if (now >= year) {
                    got += light;
                }
                now++;
            }
            sum += side == 0 ? got : got * hang.part / 100;
        }
        return sum;
    }

    int hours(int story, int column, int year, int side) {
        boolean good = in(story, 0, tales.size() - 1) && in(column, 0, columns - 1) && in(year, 0, 999)
                && in(side, 0, 1);
        return good ? lit(story, column, year, side) : -2;
    }

    int thread(int first, int a, int second, int b) {
        int found = threads.indexOf(new Thread(first, a, second, second == -1 ? 0 : b));
        return found < 0 ? -2 : found;
    }

    int shade(Thread t, int h, int c) {
        int left = 99 - t.a * stuffs.get(t.first).takes[c] * power(t.first, h) / 9000;
        if (t.second >= 0) {
            left -= t.b * stuffs.get(t.second).takes[c] * power(t.second, h) / 9000;
        }
        return left < 0 ? 0 : left;
    }

    int colour(int thread, int h, int c) {
        boolean good = in(thread, 0, threads.size() - 1) && in(h, 0, 999999) && in(c, 0, 2);
        return good ? shade(threads.get(thread), h, c) : -2;
    }

    // ---- looks

    private boolean cell(int cell) {
        return in(cell, 0, columns * rows - 1);
    }

    private static boolean shades(int[] shades) {
        return in(shades[0], 0, 99) && in(shades[1], 0, 99) && in(shades[2], 0, 99);
    }

    int look(int told, int cell, int side, int[] shades) {
        if (!in(told, step, 999) || !cell(cell) || !in(side, 0, 1) || shades != null && !shades(shades)) {
            return -2;
        }
        if (looks.size() == 90) {
            return -3;
        }
        looks.add(new Look(told, cell, side, shades));
        step = told;
        return looks.size();
    }

    int attempt(int told, int cell, int hours, int[] shades) {
        if (!in(told, step, 999) || !cell(cell) || !in(hours, 1, 999) || !shades(shades)) {
            return -2;
        }
        if (tried.size() == 20) {
            return -3;
        }
        tried.add(new Tried(told, cell, hours, shades));
        step = told;
        return tried.size() - 1;
    }

    int right(int told, int k, int[] shades) {
        if (!in(told, step, 999) || !in(k, 0, tried.size() - 1) || !shades(shades)) {
            return -2;
        }
        if (rights.size() == 20) {
            return -3;
        }
        rights.add(new Right(told, k, shades));
        step = told;
        return (int) rights.stream().filter(r -> r.k == k).count();
    }

    private Look latest(int cell, int side, int known) {
        Look latest = null;
        for (Look look : looks) {
            if (look.cell == cell && look.side == side && look.told <= known) {
                latest = look;
            }
        }
        return latest;
    }

    int shows(int cell, int side, int known, int c) {
        if (!cell(cell) || !in(side, 0, 1) || !in(known, 0, 999) || !in(c, 0, 2)) {
            return -2;
        }
        Look look = latest(cell, side, known);
        return look == null ? -1 : look.shades == null ? -5 : look.shades[c];
    }

    int keep(int slot) {
        if (!in(slot, 0, 2)) {
            return -2;
        }
        slots[slot] = new Kept(new ArrayList<>(looks), new ArrayList<>(tried), new ArrayList<>(rights), step);
        return looks.size();
    }

    int take(int slot) {
        if (!in(slot, 0, 2)) {
            return -2;
        }
        Kept kept = slots[slot];
        if (kept == null) {
            return -4;
        }
        looks = new ArrayList<>(kept.looks);
        tried = new ArrayList<>(kept.tried);
        rights = new ArrayList<>(kept.rights);
        step = kept.step;
        return looks.size();
    }

    // ---- what fits

    private boolean asks(int cell, int story, int known) {
        return cell(cell) && in(story, 0, tales.size() - 1) && in(known, 0, 999);
    }

    private boolean near(Thread thread, int h, int[] shades) {
        for (int c = 0; c < 3; c++) {
            if (Math.abs(shade(thread, h, c) - shades[c]) > slack) {
                return false;
            }
        }
        return true;
    }

    private boolean side(int cell, int side, int known) {
        Look look = latest(cell, side, known);
        return look != null && look.shades != null;
    }

    private boolean anything(int cell, int known) {
        return side(cell, 0, known) || side(cell, 1, known)
                || tried.stream().anyMatch(t -> t.cell == cell && t.told <= known);
    }

    private int[] now(int k, int known) {
        int[] shades = tried.get(k).shades;
        for (Right right : rights) {
            if (right.k == k && right.told <= known) {
                shades = right.shades;
            }
        }
        return shades;
    }

    private List<Integer> years() {
        List<Integer> years = new ArrayList<>();
        years.add(0);
        years.addAll(menders);
        return years;
    }

    List<Pair> pairs(int cell, int story, int known) {
        List<Pair> pairs = new ArrayList<>();
        int column = cell % columns;
        for (int t = 0; t < threads.size(); t++) {
            Thread thread = threads.get(t);
            for (int year : years()) {
                int front = lit(story, column, year, 0);
                int behind = lit(story, column, year, 1);
                boolean fits = true;
                if (side(cell, 0, known)) {
                    fits = near(thread, front, latest(cell, 0, known).shades);
                }
                if (fits && side(cell, 1, known)) {
                    fits = near(thread, behind, latest(cell, 1, known).shades);
                }
                for (int k = 0; fits && k < tried.size(); k++) {
                    Tried hair = tried.get(k);
                    if (hair.cell == cell && hair.told <= known) {
                        fits = near(thread, front + hair.hours, now(k, known));
                    }
                }
                if (fits) {
                    pairs.add(new Pair(t, year));
                }
            }
        }
        return pairs;
    }

    private Set<Integer> threadsOf(List<Pair> pairs) {
        Set<Integer> set = new HashSet<>();
        pairs.forEach(p -> set.add(p.thread));
        return set;
    }

    int fit(int cell, int story, int known, int what) {
        if (!asks(cell, story, known) || !in(what, 0, 3)) {
            return -2;
        }
        List<Pair> pairs = pairs(cell, story, known);
        if (what == 0) {
            return pairs.size();
        }
        if (what == 1) {
            return threadsOf(pairs).size();
        }
        if (pairs.isEmpty()) {
            return -1;
        }
        return what == 2 ? pairs.get(0).thread : pairs.get(0).year;
    }

    int pair(int cell, int story, int known, int i, int what) {
        if (!asks(cell, story, known) || i < 0 || !in(what, 0, 1)) {
            return -2;
        }
        List<Pair> pairs = pairs(cell, story, known);
        if (i >= pairs.size()) {
            return -1;
        }
        return what == 0 ? pairs.get(i).thread : pairs.get(i).year;
    }

    private int[] span(List<Pair> pairs, int c) {
        int least = 1000;
        int greatest = -1;
        for (Pair p : pairs) {
            int was = shade(threads.get(p.thread), 0, c);
            least = Math.min(least, was);
            greatest = Math.max(greatest, was);
        }
        return new int[] {least, greatest};
    }

    int was(int cell, int story, int known, int c, boolean greatest) {
        if (!asks(cell, story, known) || !in(c, 0, 2)) {
            return -2;
        }
        List<Pair> pairs = pairs(cell, story, known);
        return pairs.isEmpty() ? -1 : span(pairs, c)[greatest ? 1 : 0];
    }

    private int middle(List<Pair> pairs, int bound, int c) {
        if (pairs.isEmpty()) {
            return 50;
        }
        for (int d = 0; d < 3; d++) {
            if (span(pairs, d)[1] - span(pairs, d)[0] > bound) {
                return 50;
            }
        }
        return (span(pairs, c)[0] + span(pairs, c)[1]) / 2;
    }

    int grey(int cell, int story, int known, int bound, int c) {
        if (!asks(cell, story, known) || !in(bound, 0, 99) || !in(c, 0, 2)) {
            return -2;
        }
        return middle(pairs(cell, story, known), bound, c);
    }

    int mended(int cell, int story, int known) {
        if (!asks(cell, story, known)) {
            return -2;
        }
        List<Pair> pairs = pairs(cell, story, known);
        if (pairs.isEmpty()) {
            return -1;
        }
        if (pairs.stream().allMatch(p -> p.year == 0)) {
            return 0;
        }
        return pairs.stream().noneMatch(p -> p.year == 0) ? 1 : 2;
    }

    int lightBack(int cell, int side, int thread, int known, boolean greatest) {
        if (!cell(cell) || !in(side, 0, 1) || !in(thread, 0, threads.size() - 1) || !in(known, 0, 999)) {
            return -2;
        }
        int found = -1;
        for (int h = 0; side(cell, side, known) && h < 2000; h++) {
            if ((greatest || found < 0) && near(threads.get(thread), h, latest(cell, side, known).shades)) {
                found = h;
            }
        }
        return found;
    }

    int stories(int known) {
        if (!in(known, 0, 999)) {
            return -2;
        }
        int bits = 0;
        for (int story = 0; story < tales.size(); story++) {
            boolean may = true;
            for (int cell = 0; cell < columns * rows; cell++) {
                may = may && (!anything(cell, known) || !pairs(cell, story, known).isEmpty());
            }
            bits |= may ? 1 << story : 0;
        }
        return bits;
    }

    int vat(int a, int b, int story, int known, boolean isLower) {
        if (!asks(a, story, known) || !cell(b) || a == b) {
            return -2;
        }
        Set<Integer> both = threadsOf(pairs(a, story, known));
        Set<Integer> either = new HashSet<>(both);
        Set<Integer> others = threadsOf(pairs(b, story, known));
        both.retainAll(others);
        either.addAll(others);
        int upper = both.size();
        int lower = either.size();
        if (upper == 0) {
            lower = 1;
        }
        for (int d = lower; d > 1; d--) {
            if (upper % d == 0 && lower % d == 0) {
                upper /= d;
                lower /= d;
            }
        }
        return isLower ? lower : upper;
    }

    private int only(int cell, int story, int known) {
        Set<Integer> set = threadsOf(pairs(cell, story, known));
        return set.size() == 1 ? set.iterator().next() : -1;
    }

    int vats(int story, int known) {
        if (!in(story, 0, tales.size() - 1) || !in(known, 0, 999)) {
            return -2;
        }
        Map<Integer, Integer> cells = new HashMap<>();
        for (int cell = 0; cell < columns * rows; cell++) {
            cells.merge(only(cell, story, known), 1, Integer::sum);
        }
        cells.remove(-1);
        return (int) cells.values().stream().filter(n -> n >= 2).count();
    }

    int next(int story, int hours) {
        if (!in(story, 0, tales.size() - 1) || !in(hours, 1, 999)) {
            return -2;
        }
        int best = -1;
        long bestUpper = 0;
        long bestLower = 1;
        for (int cell = 0; cell < columns * rows; cell++) {
            Look front = latest(cell, 0, 999);
            List<Pair> pairs = pairs(cell, story, 999);
            if (front != null && front.shades == null || threadsOf(pairs).size() < 2) {
                continue;
            }
            Map<String, Integer> alike = new HashMap<>();
            for (Pair p : pairs) {
                int h = lit(story, cell % columns, p.year, 0) + hours;
                Thread t = threads.get(p.thread);
                alike.merge(shade(t, h, 0) + " " + shade(t, h, 1) + " " + shade(t, h, 2), 1, Integer::sum);
            }
            long upper = alike.values().stream().mapToInt(n -> n).max().getAsInt();
            if (best < 0 || upper * bestLower < bestUpper * pairs.size()) {
                best = cell;
                bestUpper = upper;
                bestLower = pairs.size();
            }
        }
        return best;
    }

    int beside(int cell, int story, int known, int what) {
        if (!asks(cell, story, known) || !in(what, 0, 2)) {
            return -2;
        }
        int places = 0;
        TreeMap<Integer, Integer> many = new TreeMap<>();
        for (int other = 0; other < columns * rows; other++) {
            int across = Math.abs(other % columns - cell % columns);
            int down = Math.abs(other / columns - cell / columns);
            if (Math.max(across, down) == 1) {
                places++;
                many.merge(only(other, story, known), 1, Integer::sum);
            }
        }
        many.remove(-1);
        int best = -1;
        int bestMany = 0;
        for (Map.Entry<Integer, Integer> e : many.entrySet()) {
            if (e.getValue() > bestMany) {
                best = e.getKey();
                bestMany = e.getValue();
            }
        }
        return what == 0 ? best : what == 1 ? bestMany : places;
    }

    // ---- light and years

    private static int sees(int[] row, int[] shown, int[] light) {
        int sum = 0;
        for (int c = 0; c < 3; c++) {
            sum += row[c] * (shown[c] * light[c] / 100);
        }
        return sum;
    }

    /** The best light and what is missed, by trying all and sorting them by the document's order. */
    private int[] best(int cell, int eye, int story, int bound) {
        List<Pair> pairs = pairs(cell, story, 999);
        int[] grey = {middle(pairs, bound, 0), middle(pairs, bound, 1), middle(pairs, bound, 2)};
        int[] front = latest(cell, 0, 999).shades;
        int[] best = null;
        for (int c = bright[2] / 10 * 10; c >= 0; c -= 10) {
            for (int b = bright[1] / 10 * 10; b >= 0; b -= 10) {
                for (int a = bright[0] / 10 * 10; a >= 0; a -= 10) {
                    int missed = 0;
                    for (int[] row : eyes.get(eye)) {
                        int wanted = sees(row, grey, new int[] {100, 100, 100});
                        missed = Math.max(missed, Math.abs(wanted - sees(row, front, new int[] {a, b, c})));
                    }
                    int[] one = {missed, a + b + c, a, b, c};
                    if (best == null || java.util.Arrays.compare(one, best) < 0) {
                        best = one;
                    }
                }
            }
        }
        return new int[] {best[2], best[3], best[4], best[0]};
    }

    int thrown(int cell, int eye, int story, int bound, int what) {
        if (!cell(cell) || !in(eye, 0, eyes.size() - 1) || !in(story, 0, tales.size() - 1) || !in(bound, 0, 99)
                || !in(what, 0, 3)) {
            return -2;
        }
        return side(cell, 0, 999) ? best(cell, eye, story, bound)[what] : -1;
    }

    int cannot(int eye, int story, int bound, int missed) {
        if (!in(eye, 0, eyes.size() - 1) || !in(story, 0, tales.size() - 1) || !in(bound, 0, 99)
                || !in(missed, 0, 9999)) {
            return -2;
        }
        int many = 0;
        for (int cell = 0; cell < columns * rows; cell++) {
            if (side(cell, 0, 999) && best(cell, eye, story, bound)[3] > missed) {
                many++;
            }
        }
        return many;
    }

    int bear(int story, int light, int bound) {
        if (!in(story, 0, tales.size() - 1) || !in(light, 1, 99) || !in(bound, 0, 99)) {
            return -2;
        }
        int most = 0;
        List<Pair> only = new ArrayList<>();
        List<Integer> now = new ArrayList<>();
        for (int cell = 0; cell < columns * rows; cell++) {
            List<Pair> pairs = pairs(cell, story, 999);
            if (pairs.size() == 1) {
                only.add(pairs.get(0));
                now.add(lit(story, cell % columns, pairs.get(0).year, 0));
            }
        }
        for (int years = 0; years <= 400; years++) {
            boolean may = true;
            for (int i = 0; i < only.size(); i++) {
                Thread t = threads.get(only.get(i).thread);
                for (int c = 0; c < 3; c++) {
                    may = may && shade(t, now.get(i) + years * light, c) - shade(t, now.get(i), c) <= bound;
                }
            }
            most = may ? years : most;
        }
        return most;
    }

    private long seed;

    private int draw(int n) {
        seed = java.math.BigInteger.valueOf(seed).multiply(java.math.BigInteger.valueOf(1103515245L))
                .add(java.math.BigInteger.valueOf(12345L)).mod(java.math.BigInteger.valueOf(2147483648L)).longValue();
        return (int) ((seed / 65536) % n);
    }

    int world(int told, int from, int story) {
        if (!in(told, step, 999) || from < 0 || !in(story, 0, tales.size() - 1)) {
            return -2;
        }
        seed = from;
        step = told;
        int before = looks.size();
        for (int cell = 0; !stuffs.isEmpty() && cell < columns * rows; cell++) {
            int s = draw(stuffs.size());
            int a = 1 + draw(9);
            Thread thread = new Thread(s, a, -1, 0);
            if (draw(3) == 0 && stuffs.size() >= 2 && most == 2) {
                List<Integer> others = new ArrayList<>();
                for (int t = 0; t < stuffs.size(); t++) {
                    if (t != s) {
                        others.add(t);
                    }
                }
                int t = others.get(draw(others.size()));
                int b = 1 + draw(9);
                thread = s < t ? new Thread(s, a, t, b) : new Thread(t, b, s, a);
            }
            int year = years().get(draw(1 + menders.size()));
            for (int side = 0; side < 2; side++) {
                int h = lit(story, cell % columns, year, side);
                look(told, cell, side, new int[] {shade(thread, h, 0), shade(thread, h, 1), shade(thread, h, 2)});
            }
        }
        return looks.size() - before;
    }

    int count(int what) {
        int[] all = {clauses, looks.size(), tried.size(), rights.size(), threads.size(), tape.length()};
        return in(what, 0, 5) ? all[what] : -1;
    }
}
