/** All that later calls show of an object, by some 200 calls; the object is of no use behind that. */
final class Portrait {
    private static final int[] STEPS = {0, 1, 2, 3, 4, 5, 6, 7, 8, 9, 10, 11, 12, 997, 998, 999};

    private final ClothBack x;
    private final StringBuilder text = new StringBuilder();

    private Portrait(ClothBack x) {
        this.x = x;
    }

    static String of(ClothBack x) {
        Portrait portrait = new Portrait(x);
        portrait.cloth();
        portrait.looks();
        portrait.fits();
        portrait.step();
        portrait.slots();
        portrait.tape();
        return portrait.text.toString();
    }

    private void say(String what, int... answers) {
        text.append(what);
        for (int answer : answers) {
            text.append(' ').append(answer);
        }
        text.append('\n');
    }

    private void cloth() {
        say("fault", x.fault(0), x.fault(1));
        for (int from = 0; from < 50; from += 10) {
            say("told " + from, x.told(from), x.told(from + 1), x.told(from + 2), x.told(from + 3));
        }
        say("told 4", x.told(4), x.told(5), x.told(6), x.told(7));
        say("count", x.count(0), x.count(4), x.count(5));
        say("law", x.strength(0, 7), x.hours(0, 0, 0, 0), x.colour(0, 7, 0));
    }

    private void looks() {
        say("looks", x.count(1), x.count(2), x.count(3));
        for (int cell = 0; cell < 6; cell++) {
            for (int side = 0; side < 2; side++) {
                say("shows", x.shows(cell, side, 999, 0), x.shows(cell, side, 999, 1), x.shows(cell, side, 999, 2));
            }
        }
    }

    private void fits() {
        say("stories", x.stories(0), x.stories(999));
        for (int cell = 0; cell < 4; cell++) {
            say("fit", x.fit(cell, 0, 999, 0), x.fit(cell, 0, 999, 2), x.fit(cell, 0, 0, 0));
        }
    }

    /** The first STEP at which something may be told is the latest one. */
    private void step() {
        int i = 0;
        int answer = x.gone(STEPS[i], 0, 1);
        while (answer == ClothBack.RANGE && i < STEPS.length - 1) {
            i++;
            answer = x.gone(STEPS[i], 0, 1);
        }
        say("step", STEPS[i], answer);
    }

    private void slots() {
        for (int slot = 0; slot < 3; slot++) {
            int kept = x.take(slot);
            say("slot", slot, kept);
            if (kept != ClothBack.STATE) {
                say("of it", x.count(2), x.count(3), x.shows(0, 0, 999, 0), x.fit(0, 0, 999, 0));
                step();
            }
        }
    }

    private void tape() {
        say("tape", x.count(5), x.cloth(), x.fault(0), x.fault(1), x.told(2), x.told(3), x.count(0));
    }
}
