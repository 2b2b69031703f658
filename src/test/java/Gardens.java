/** Gardens with which many tests begin, and what stands in them. */
final class Gardens {
    private Gardens() {
    }

    /** Sections of which nothing has grown. */
    static FlushGarden sections(int count) {
        FlushGarden g = new FlushGarden();
        for (int i = 0; i < count; i++) {
            g.section(1 + i, i % 3);
        }
        return g;
    }

    /** Sections of the shade 0, each with 2 times its area of every size and of hard ones. */
    static FlushGarden grown(int... areas) {
        FlushGarden g = new FlushGarden();
        for (int area : areas) {
            g.section(area, 0);
        }
        g.pass(5, 0, 5);
        return g;
    }

    /** Sections of the shade 2 and the blight 6, each with its area of every size, and 4 times that of hard ones. */
    static FlushGarden blighted(int... areas) {
        FlushGarden g = new FlushGarden();
        for (int area : areas) {
            g.section(area, 2);
        }
        g.pass(4, 3, 6);
        return g;
    }

    /** Lots of 8 hard shoots, 40 units and the water 120 each, all of section 0. */
    static FlushGarden green(int count) {
        FlushGarden g = grown(9);
        g.pass(5, 0, 15);
        for (int lot = 0; lot < count; lot++) {
            g.pluck(0, 3, 1);
        }
        return g;
    }

    /** Those lots with the chem 2, the water 58 and the break 5. */
    static FlushGarden rolled(int count) {
        FlushGarden g = green(count);
        for (int lot = 0; lot < count; lot++) {
            g.wither(lot, 2, 3);
            g.roll(lot, 5);
        }
        return g;
    }

    /** Those lots made, with the water 2 and the notes 1, 1 and 1. */
    static FlushGarden fired(int count) {
        FlushGarden g = rolled(count);
        for (int lot = 0; lot < count; lot++) {
            g.fire(lot, 2, 14);
        }
        return g;
    }

    /** Two of those lots at most, and all others mixed of them. */
    static FlushGarden made(int count) {
        FlushGarden g = fired(Math.min(2, count));
        for (int lot = 2; lot < count; lot++) {
            g.mix(0, 1, 1, 1);
        }
        return g;
    }

    /** All of them offered with the reserve 1. */
    static FlushGarden offered(int count) {
        FlushGarden g = made(count);
        for (int lot = 0; lot < count; lot++) {
            g.offer(lot, 1);
        }
        return g;
    }

    static final int LOTS_OF_EACH_STATE = 13;

    /**
     * Lots of each state, all of the chem 2 but for the mixed one: 0 green, 1 green and killed, 2 rolled, 3 rolled and
     * killed, 4 made, 5 made and killed, 6 gone (joined to 7), 7 green, 8 gone (sorted), 9 to 11 made with the grades
     * 0 to 2, 12 made and mixed.
     */
    static FlushGarden ofEachState() {
        FlushGarden g = green(9);
        for (int lot = 0; lot < 9; lot++) {
            g.wither(lot, 2, 3);
        }
        for (int lot : new int[] {1, 3, 5}) {
            g.kill(lot);
        }
        for (int lot : new int[] {2, 3, 4, 5, 8}) {
            g.roll(lot, 5);
        }
        for (int lot : new int[] {4, 5, 8}) {
            g.fire(lot, 1, 30);
        }
        g.join(7, 6);
        g.sort(8);
        g.mix(4, 1, 5, 1);
        return g;
    }

    /** A new lot of 8 shoots, fired without a burn till it is made: all fine by the standard 1, none by 3. */
    private static void addMade(FlushGarden g, int standard, int chem, int breaks, int ox) {
        int lot = g.pluck(0, standard, 1);
        g.wither(lot, chem, 3);
        for (int left = breaks; left > 0; left -= 5) {
            g.roll(lot, Math.min(5, left));
        }
        for (int left = ox; left > 0; left -= 20) {
            g.rest(lot, Math.min(20, left), 1);
        }
        while (g.ofLot(lot, 0) != 2) {
            g.fire(lot, 1, 1);
        }
    }

    /** Two lots that are alike but for BODY. */
    static FlushGarden apartInBody() {
        FlushGarden g = grown(9);
        addMade(g, 1, 12, 1, 23);
        addMade(g, 1, 12, 21, 23);
        notes("apart in BODY", g, 0, 2, 9, 9);
        notes("apart in BODY", g, 1, 9, 9, 9);
        return g;
    }

    /** Two lots that are alike but for BRISK. */
    static FlushGarden apartInBrisk() {
        FlushGarden g = grown(9);
        addMade(g, 3, 12, 18, 0);
        addMade(g, 1, 6, 9, 30);
        notes("apart in BRISK", g, 0, 6, 1, 6);
        notes("apart in BRISK", g, 1, 6, 9, 6);
        return g;
    }

    /** Two lots that are mostly apart in AROMA. */
    static FlushGarden apartInAroma() {
        FlushGarden g = grown(9);
        addMade(g, 3, 2, 9, 30);
        addMade(g, 1, 12, 18, 0);
        notes("apart in AROMA", g, 0, 6, 4, 1);
        notes("apart in AROMA", g, 1, 6, 6, 9);
        return g;
    }

    static void section(String when, FlushGarden g, int section, int... want) {
        for (int what = 0; what < want.length; what++) {
            Due.is(when + ": ofSection(" + section + ", " + what + ")", g.ofSection(section, what), want[what]);
        }
    }

    static void lot(String when, FlushGarden g, int lot, int... want) {
        for (int what = 0; what < want.length; what++) {
            Due.is(when + ": ofLot(" + lot + ", " + what + ")", g.ofLot(lot, what), want[what]);
        }
    }

    static void notes(String when, FlushGarden g, int lot, int body, int brisk, int aroma) {
        Due.is(when + ": BODY of " + lot, g.note(lot, 0), body);
        Due.is(when + ": BRISK of " + lot, g.note(lot, 1), brisk);
        Due.is(when + ": AROMA of " + lot, g.note(lot, 2), aroma);
    }
}
