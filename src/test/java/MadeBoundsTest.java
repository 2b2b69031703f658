import java.io.IOException;

/** The boundaries of promises 13, 14, 22, 23, 30 and 31: lots that are made, and what they were made of. */
public final class MadeBoundsTest {
    private static final int STATE = 0;
    private static final int DRY = 1;
    private static final int FINE = 2;
    private static final int GRADE = 9;
    private static final int TAINTED = 11;
    private static final int RESERVE = 13;

    private static final int MADE = 2;
    private static final int GONE = 3;

    private static void rollTo(FlushGarden g, int lot, int breaks) {
        for (int left = breaks; left > 0; left -= 5) {
            g.roll(lot, Math.min(5, left));
        }
    }

    private static void restTo(FlushGarden g, int lot, int ox) {
        for (int left = ox; left > 0; left -= 20) {
            g.rest(lot, Math.min(20, left), 1);
        }
    }

    /** A lot 0 of so many units (19, 20, 39 or 40) of the section 0, and much to pluck of the section 1. */
    private static FlushGarden madeOf(int units, int breaks) {
        switch (units) {
            case 19: return madeOf(units, breaks, 1, 1, 2, 0, 1, 0, 1, 0, 1, 0, 1);
            case 20: return madeOf(units, breaks, 1, 1, 2, 0, 0, 1, 2, 0, 1, 0, 1);
            case 39: return madeOf(units, breaks, 3, 1, 2, 0, 1, 0, 1);
            default: return madeOf(units, breaks, 2, 3);
        }
    }

    /** That lot is joined of what is plucked by these standards; at a 0 a day goes by. */
    private static FlushGarden madeOf(int units, int breaks, int area, int... standards) {
        FlushGarden g = Gardens.blighted(area, 9);
        for (int standard : standards) {
            if (standard == 0) {
                g.pass(4, 3, 1);
            } else {
                g.pluck(0, standard, 1);
            }
        }
        for (int lot = 1; lot < g.many(2); lot++) {
            g.join(0, lot);
        }
        g.wither(0, 9, 3);
        rollTo(g, 0, breaks);
        g.fire(0, 1, 30);
        g.pass(4, 3, 20);
        Due.is("UNITS of the section 0", g.ofLot(0, 14), units);
        Due.is("STATE", g.ofLot(0, STATE), MADE);
        return g;
    }

    private static FlushGarden filled(FlushGarden g, int lots) {
        for (int lot = g.many(2); lot < lots; lot++) {
            g.pluck(1, 3, 1);
        }
        return g;
    }

    // ---- promise 13

    @Says("there is no such LOT")
    static void promise13_noSuchLot() {
        for (int count : new int[] {0, 1, 13}) {
            Bounds.index("sort(x) of " + count, () -> Gardens.fired(count), 0, count - 1, FlushGarden::sort);
        }
    }

    @Says({"it cannot be (as it is OFFERED, too)", "SORTED (MADE, without a GRADE, not MIXED)"})
    static void promise13_withoutGradeNotMixed() {
        Bounds.state("sort(x)", FlushGarden::sort, 4, 5);
    }

    @Says({"it cannot be (as it is OFFERED, too)", "while it is, it is neither SORTED nor MIXED."})
    static void promise13_offered() {
        FlushGarden g = Gardens.fired(2);
        g.offer(1, 1);
        Due.state("OFFERED", () -> g.sort(1));
        Due.is("another one is not", g.sort(0), 3);
        g.knock(1);
        Due.is("OFFERED no more", g.sort(1), 3);
    }

    @Says("there would be more than 16 ever")
    static void promise13_16Ever() {
        int[][] cases = {{19, 1}, {20, 2}, {40, 3}};
        for (int[] one : cases) {
            FlushGarden g = filled(madeOf(one[0], 1), 16 - one[1]);
            Due.is("new ones up to 16", g.sort(0), one[1]);
            Due.is("LOTS ever", g.many(2), 16);
            FlushGarden over = filled(madeOf(one[0], 1), 17 - one[1]);
            Due.state("new ones up to 17", () -> over.sort(0));
            Due.is("LOTS ever", over.many(2), 17 - one[1]);
            Due.is("STATE", over.ofLot(0, STATE), MADE);
        }
    }

    /** How much of so many units each grade gets, from 0 on. */
    private static void shares(int units, int breaks, int... dry) {
        FlushGarden g = madeOf(units, breaks);
        int first = g.many(2);
        Due.is(units + " by the BREAK " + breaks, g.sort(0), dry.length);
        for (int grade = 0; grade < dry.length; grade++) {
            String told = units + " by the BREAK " + breaks + ", the grade " + grade;
            Due.is(told + ": DRY", g.ofLot(first + grade, DRY), dry[grade]);
            Due.is(told + ": UNITS", g.ofLot(first + grade, 14), dry[grade]);
            Due.is(told + ": GRADE", g.ofLot(first + grade, GRADE), grade);
        }
    }

    @Says("with b, BREAK, 10 at most")
    static void promise13_b10AtMost() {
        shares(40, 8, 16, 16, 8);
        shares(40, 9, 13, 18, 9);
        shares(40, 10, 10, 20, 10);
        shares(40, 11, 10, 20, 10);
        shares(40, 40, 10, 20, 10);
    }

    @Says("the GRADE 2 gets that times b / 40, the GRADE 1 that times b / 20, the GRADE 0 what is left over "
        + "(each product first, then divided).")
    static void promise13_productFirst() {
        shares(39, 2, 35, 3, 1);
        shares(40, 2, 34, 4, 2);
        shares(39, 10, 11, 19, 9);
        shares(19, 10, 6, 9, 4);
        shares(20, 10, 5, 10, 5);
    }

    @Says({"It is GONE; each GRADE, from 0 on, that has DRY is a new LOT", "Returns how many new LOTS there are by that."})
    static void promise13_gradeThatHasDry() {
        shares(19, 1, 19);
        shares(20, 1, 19, 1);
        shares(39, 1, 38, 1);
        shares(40, 1, 37, 2, 1);
    }

    @Says("of the UNITS of each SECTION, and of FINE")
    static void promise13_sectionBySection() {
        FlushGarden g = Gardens.blighted(5, 5);
        for (int standard = 1; standard <= 2; standard++) {
            g.pluck(0, standard, 1);
            g.pluck(1, standard, 1);
        }
        g.join(0, 1);
        g.join(2, 3);
        for (int lot = 0; lot <= 2; lot += 2) {
            g.wither(lot, 9, 3);
            g.roll(lot, 1);
            g.fire(lot, 1, 30);
        }
        Due.is("15 and 15 units", g.sort(0), 1);
        Gardens.lot("15 * 1 / 20 twice", g, 4, MADE, 30, 29);
        Due.is("20 and 20 units", g.sort(2), 2);
        Gardens.lot("19 twice", g, 5, MADE, 38, 0);
        Gardens.lot("20 * 1 / 20 twice", g, 6, MADE, 2, 0);
    }

    @Says("WATER 0, all else as it was (FINE is DRY at most).")
    static void promise13_fineDryAtMost() {
        FlushGarden g = Gardens.blighted(5, 5);
        g.pluck(0, 1, 1);
        g.pluck(1, 1, 1);
        g.join(0, 1);
        g.wither(0, 9, 3);
        g.roll(0, 2);
        g.fire(0, 1, 29);
        Gardens.lot("before", g, 0, MADE, 30, 30, 0, 9, 2, 0, 0, 14, -1, 0, 0, 0, 0, 15, 15, 0, 0);
        Due.is("new ones", g.sort(0), 2);
        Gardens.lot("28 and 30 - 3 - 1", g, 2, MADE, 28, 26, 0, 9, 2, 0, 0, 14, 0, 0, 0, 0, 0, 14, 14, 0, 0);
        Gardens.lot("2 and 30 * 2 / 20", g, 3, MADE, 2, 2, 0, 9, 2, 0, 0, 14, 1, 0, 0, 0, 0, 1, 1, 0, 0);
        Gardens.lot("the sorted one", g, 0, GONE, 0, 30, 0, 9, 2, 0, 0, 14, -1, 0, 0, 0, 0, 0, 0, 0, 0);
        FlushGarden even = Gardens.grown(9);
        even.pluck(0, 1, 9);
        even.wither(0, 4, 3);
        even.kill(0);
        rollTo(even, 0, 10);
        even.fire(0, 1, 14);
        Gardens.lot("WATER of 54 less 10, less 42", even, 0, MADE, 54, 54, 2);
        even.sort(0);
        Gardens.lot("14 and 54 - 27 - 13", even, 1, MADE, 14, 14, 0, 4, 10, 0, 0, 0, 0, 1, 0, 0, 0, 14, 0, 0, 0);
        Gardens.lot("27 and 27", even, 2, MADE, 27, 27, 0, 4, 10, 0, 0, 0, 1, 1, 0, 0, 0, 27, 0, 0, 0);
        Gardens.lot("13 and 13", even, 3, MADE, 13, 13, 0, 4, 10, 0, 0, 0, 2, 1, 0, 0, 0, 13, 0, 0, 0);
    }

    // ---- promise 14

    @Says("there is no such LOT, of both")
    static void promise14_noSuchLot() {
        Bounds.index("mix(x, 1, x, 1) of 0", FlushGarden::new, 0, -1, (g, x) -> g.mix(x, 1, x, 1));
        for (int count : new int[] {2, 15}) {
            Bounds.index("mix(x, 1, .., 1)", () -> Gardens.made(count), 0, count - 1, (g, x) -> g.mix(x, 1, x == 0 ? 1 : 0, 1));
            Bounds.index("mix(.., 1, x, 1)", () -> Gardens.made(count), 0, count - 1, (g, x) -> g.mix(x == 0 ? 1 : 0, 1, x, 1));
        }
    }

    @Says("both are the same")
    static void promise14_same() {
        FlushGarden g = Gardens.made(2);
        Due.argument("mix(0, 1, 0, 1)", () -> g.mix(0, 1, 0, 1));
        Due.argument("mix(1, 20, 1, 20)", () -> g.mix(1, 20, 1, 20));
        Due.is("mix(1, 20, 0, 20)", g.mix(1, 20, 0, 20), 2);
        Due.argument("mix(2, 1, 2, 1)", () -> g.mix(2, 1, 2, 1));
    }

    @Says({"one is not MADE", "MIXED: two MADE ones"})
    static void promise14_bothMade() {
        Bounds.state("mix(x, 1, 4, 1) or mix(5, 1, 4, 1)", (g, x) -> g.mix(x == 4 ? 5 : x, 1, 4, 1), 4, 5, 9, 10, 11, 12);
        Bounds.state("mix(4, 1, x, 1) or mix(4, 1, 5, 1)", (g, x) -> g.mix(4, 1, x == 4 ? 5 : x, 1), 4, 5, 9, 10, 11, 12);
    }

    @Says({"is OFFERED", "while it is, it is neither SORTED nor MIXED."})
    static void promise14_offered() {
        FlushGarden g = Gardens.fired(3);
        g.offer(1, 1);
        Due.state("the first one OFFERED", () -> g.mix(1, 1, 0, 1));
        Due.state("the second one OFFERED", () -> g.mix(0, 1, 1, 1));
        Due.is("others are not", g.mix(0, 1, 2, 1), 3);
        g.knock(1);
        Due.is("OFFERED no more", g.mix(0, 1, 1, 1), 4);
    }

    @Says({"has not so many UNITS (1 at least)", "with UNITS to take of each (1 to their DRY)"})
    static void promise14_units1ToDry() {
        Bounds.units("mix(0, x, 1, 1)", () -> Gardens.fired(2), 1, 40, (g, x) -> {
            g.mix(0, x, 1, 1);
            Due.is("DRY of the new one", g.ofLot(2, DRY), x + 1);
            Due.is("DRY of the first one", g.ofLot(0, DRY), 40 - x);
            Due.is("DRY of the second one", g.ofLot(1, DRY), 39);
        });
        Bounds.units("mix(0, 1, 1, x)", () -> Gardens.fired(2), 1, 40, (g, x) -> {
            g.mix(0, 1, 1, x);
            Due.is("DRY of the new one", g.ofLot(2, DRY), x + 1);
            Due.is("DRY of the second one", g.ofLot(1, DRY), 40 - x);
        });
        FlushGarden g = Gardens.fired(2);
        Due.state("as many as may be told", () -> g.mix(0, Integer.MAX_VALUE, 1, Integer.MAX_VALUE));
        Due.state("as few as may be told", () -> g.mix(0, Integer.MIN_VALUE, 1, Integer.MIN_VALUE));
        Due.state("41 and -1", () -> g.mix(0, 41, 1, -1));
        Due.is("all of both", g.mix(0, 40, 1, 40), 2);
        Due.is("DRY", g.ofLot(2, DRY), 80);
    }

    @Says("there were 16")
    static void promise14_16Lots() {
        FlushGarden g = Gardens.made(15);
        Due.is("the last one", g.mix(0, 1, 1, 1), 15);
        Due.state("one beyond 16", () -> g.mix(0, 1, 1, 1));
        Due.is("LOTS ever", g.many(2), 16);
        Due.is("nothing was taken", g.ofLot(0, DRY), 26);
    }

    @Says("a new LOT, MADE, MIXED, without GRADE, not KILLED, TAINTED, if one is; its FINE, WATER, CHEM, BREAK, OX, CASE "
        + "and BURN are 0")
    static void promise14_taintedIfOneIs() {
        for (int which = 0; which < 4; which++) {
            FlushGarden g = Gardens.grown(9, 9, 9);
            g.spray(0);
            g.pluck(which % 2, 1, 1);
            g.pluck(which / 2, 1, 1);
            for (int lot = 0; lot < g.many(2); lot++) {
                g.wither(lot, 2, 3);
                g.kill(lot);
                g.roll(lot, 5);
                g.fire(lot, 4, 20);
            }
            g.mix(0, 2, 1, 3);
            Gardens.lot("mixed", g, 2, MADE, 5, 0, 0, 0, 0, 0, 0, 0, -1, 0, which == 3 ? 0 : 1, 1, 0);
        }
        FlushGarden graded = Gardens.fired(1);
        graded.sort(0);
        graded.mix(2, 1, 3, 1);
        Gardens.lot("of two with a GRADE", graded, 4, MADE, 2, 0, 0, 0, 0, 0, 0, 0, -1, 0, 0, 1, 0, 2, 0, 0, 0);
    }

    @Says("each NOTE is that of both as they were ahead of it, each times its UNITS, in sum, divided by all UNITS.")
    static void promise14_notesByUnits() {
        FlushGarden g = twoNoted();
        Gardens.notes("the first one", g, 0, 9, 9, 9);
        Gardens.notes("the second one", g, 1, 1, 1, 2);
        g.mix(0, 1, 1, 7);
        Gardens.notes("16 / 8, 16 / 8, 23 / 8", g, 2, 2, 2, 2);
        g.mix(0, 1, 1, 8);
        Gardens.notes("17 / 9, 17 / 9, 25 / 9", g, 3, 1, 1, 2);
        g.mix(1, 2, 0, 5);
        Gardens.notes("47 / 7, 47 / 7, 49 / 7", g, 4, 6, 6, 7);
        g.mix(4, 7, 3, 9);
        Gardens.notes("51 / 16, 51 / 16, 67 / 16", g, 5, 3, 3, 4);
        g.mix(0, 47, 1, 1);
        Gardens.notes("424 / 48, 424 / 48, 425 / 48, of all there are", g, 6, 8, 8, 8);
    }

    /** A lot of 54 units with the notes 9, 9 and 9, and one of 40 with 1, 1 and 2. */
    private static FlushGarden twoNoted() {
        FlushGarden g = Gardens.grown(9, 9);
        g.pluck(0, 1, 9);
        g.wither(0, 12, 3);
        rollTo(g, 0, 18);
        g.rest(0, 15, 2);
        g.fire(0, 1, 18);
        g.pluck(1, 3, 1);
        g.wither(1, 4, 3);
        g.roll(1, 3);
        g.fire(1, 1, 13);
        return g;
    }

    /** A lot 0 of 6 units of the section 1, 12 of 2 and 18 of 3, and a lot 1 of 40 of the section 0. */
    private static FlushGarden bySections() {
        FlushGarden g = Gardens.grown(4, 1, 2, 3);
        for (int section = 1; section < 4; section++) {
            g.pluck(section, 1, 9);
        }
        g.join(0, 1);
        g.join(0, 2);
        g.pluck(0, 3, 1);
        for (int lot = 0; lot <= 3; lot += 3) {
            g.wither(lot, 9, 3);
            g.roll(lot, 1);
            g.fire(lot, 1, 30);
        }
        return g;
    }

    @Says("UNITS by SECTIONS: of the one from which so many of its DRY are taken, from the SECTION 0 on each time all that "
        + "there are, till they are so many; those are gone from there.")
    static void promise14_fromSection0On() {
        int[][] taken = {{1, 1, 0, 0}, {5, 5, 0, 0}, {6, 6, 0, 0}, {7, 6, 1, 0}, {17, 6, 11, 0}, {18, 6, 12, 0},
            {19, 6, 12, 1}, {35, 6, 12, 17}, {36, 6, 12, 18}};
        for (int[] of : taken) {
            for (int order = 0; order < 2; order++) {
                FlushGarden g = bySections();
                int lot = order == 0 ? g.mix(0, of[0], 3, 2) : g.mix(3, 2, 0, of[0]);
                String told = "UNITS taken: " + of[0];
                Due.is(told, g.ofLot(lot, 14), 2);
                int[] all = {0, 6, 12, 18};
                for (int section = 1; section < 4; section++) {
                    Due.is(told + ", of " + section, g.ofLot(lot, 14 + section), of[section]);
                    Due.is(told + ", left of " + section, g.ofLot(0, 14 + section), all[section] - of[section]);
                }
                Due.is(told + ", left of the other one", g.ofLot(3, 14), 38);
            }
        }
    }

    @Says("One without DRY is GONE.")
    static void promise14_withoutDryIsGone() {
        FlushGarden g = Gardens.fired(3);
        g.mix(0, 39, 1, 39);
        for (int lot = 0; lot < 2; lot++) {
            Due.is("one unit left over", g.ofLot(lot, DRY), 1);
            Due.is("MADE still", g.ofLot(lot, STATE), MADE);
        }
        g.mix(0, 1, 2, 1);
        Due.is("none left over", g.ofLot(0, DRY), 0);
        Due.is("GONE", g.ofLot(0, STATE), GONE);
        Due.is("the second one is not", g.ofLot(2, STATE), MADE);
        g.mix(2, 1, 1, 1);
        Due.is("the second one is GONE", g.ofLot(1, STATE), GONE);
        g.mix(3, 78, 4, 2);
        Due.is("a mixed one is GONE", g.ofLot(3, STATE), GONE);
        Due.is("both are", g.ofLot(4, STATE), GONE);
        Due.is("MADE ones", g.many(5), 3);
        Due.state("GONE", () -> g.mix(0, 1, 2, 1));
    }

    @Says("(All else of them stays, but FINE is DRY at most, 0 of one that is GONE by that; the NOTES of one that is not "
        + "MIXED go by that.)")
    static void promise14_fineDryAtMost() {
        FlushGarden g = twelveFine();
        Due.is("FINE", g.ofLot(0, FINE), 12);
        int partner = 6;
        int[] left = {13, 12, 11, 1};
        for (int dry : left) {
            g.mix(0, g.ofLot(0, DRY) - dry, partner, 1);
            Due.is("FINE of the DRY " + dry, g.ofLot(0, FINE), Math.min(12, dry));
        }
        g.mix(0, 1, partner, 1);
        Gardens.lot("GONE by that", g, 0, GONE, 0, 0, 0, 4, 3, 30, 0, 0, -1, 0, 0, 0, 0, 0, 0, 0, 0);
        Gardens.lot("all else stays", g, partner, MADE, 35, 0, 0, 4, 1, 0, 0, 0, -1, 0, 0, 0, 0, 0, 0, 35, 0);
    }

    /** A lot 0 of 48 units, 12 of them fine, with the chem 4, the break 3 and the ox 30, and a lot 6 of 40. */
    private static FlushGarden twelveFine() {
        FlushGarden g = Gardens.grown(1, 1, 4);
        for (int lot = 0; lot < 6; lot++) {
            g.pluck(lot % 2, 1 + lot / 2, 1);
        }
        for (int lot = 1; lot < 6; lot++) {
            g.join(0, lot);
        }
        g.wither(0, 4, 3);
        g.roll(0, 3);
        restTo(g, 0, 30);
        g.fire(0, 1, 16);
        g.pluck(2, 3, 1);
        g.wither(6, 4, 3);
        g.roll(6, 1);
        g.fire(6, 2, 10);
        return g;
    }

    // ---- promise 22

    @Says("there is no such LOT")
    static void promise22_noSuchLot() {
        for (int count : new int[] {0, 1, 16}) {
            Bounds.index("ofLot(x, 1) of " + count, () -> Gardens.green(count), 0, count - 1,
                (g, x) -> Due.is("DRY", g.ofLot(x, 1), 40));
        }
    }

    @Says("what is not 0 to 17")
    static void promise22_what0To17() {
        int[] made = {2, 68, 60, 0, 3, 9, 15, 1, 5, -1, 0, 1, 0, 77, 14, 12, 18, 24};
        Bounds.argument("ofLot(0, x)", MadeBoundsTest::burntOfFour, 0, 17,
            (g, x) -> Due.is("ofLot(0, " + x + ")", g.ofLot(0, x), made[x]));
        int[] graded = {2, 14, 13, 0, 3, 9, 15, 1, 5, 2, 0, 1, 0, 0, 3, 2, 4, 5};
        Bounds.argument("ofLot(6, x)", () -> {
            FlushGarden g = burntOfFour();
            g.knock(0);
            g.sort(0);
            return g;
        }, 0, 17, (g, x) -> Due.is("ofLot(6, " + x + ")", g.ofLot(6, x), graded[x]));
        int[] killed = {1, 40, 0, 47, 2, 5, 0, 0, 0, -1, 1, 0, 0, 0, 40, 0, 0, 0};
        Bounds.argument("ofLot(3, x)", Gardens::ofEachState, 0, 17,
            (g, x) -> Due.is("ofLot(3, " + x + ")", g.ofLot(3, x), killed[x]));
        int[] mixed = {2, 2, 0, 0, 0, 0, 0, 0, 0, -1, 0, 0, 1, 0, 2, 0, 0, 0};
        Bounds.argument("ofLot(12, x)", Gardens::ofEachState, 0, 17,
            (g, x) -> Due.is("ofLot(12, " + x + ")", g.ofLot(12, x), mixed[x]));
    }

    /** A tainted lot 0 of four sections, offered, with a burn and a case. */
    private static FlushGarden burntOfFour() {
        FlushGarden g = Gardens.grown(1, 2, 3, 4);
        g.spray(1);
        g.pluck(0, 2, 9);
        for (int section = 1; section < 4; section++) {
            g.pluck(section, 1, 9);
        }
        for (int lot = 1; lot < 4; lot++) {
            g.join(0, lot);
        }
        g.wither(0, 3, 3);
        rollTo(g, 0, 9);
        g.rest(0, 5, 3);
        g.fire(0, 4, 1);
        g.fire(0, 5, 9);
        g.offer(0, 77);
        return g;
    }

    @Says({"13 its RESERVE (0, if it is not OFFERED)", "(of a GONE one all as it was; RESERVE, DRY and UNITS 0)"})
    static void promise22_ofAGoneOne() {
        FlushGarden joined = burntOfFour();
        Gardens.lot("joined", joined, 1, GONE, 0, 12, 36, 0, 0, 0, 0, 0, -1, 0, 1, 0, 0, 0, 0, 0, 0);
        joined.knock(0);
        Due.is("not OFFERED", joined.ofLot(0, RESERVE), 0);
        Due.is("MADE still", joined.ofLot(0, DRY), 68);
        FlushGarden sold = burntOfFour();
        sold.purse(0, 9999);
        sold.bid(0, 0, 77);
        sold.knock(0);
        Gardens.lot("sold", sold, 0, GONE, 0, 60, 0, 3, 9, 15, 1, 5, -1, 0, 1, 0, 0, 0, 0, 0, 0);
        joined.sort(0);
        Gardens.lot("sorted", joined, 0, GONE, 0, 60, 0, 3, 9, 15, 1, 5, -1, 0, 1, 0, 0, 0, 0, 0, 0);
        joined.mix(4, joined.ofLot(4, DRY), 5, joined.ofLot(5, DRY));
        Gardens.lot("mixed, the grade 0", joined, 4, GONE, 0, 0, 0, 3, 9, 15, 1, 5, 0, 0, 1, 0, 0, 0, 0, 0, 0);
        Gardens.lot("mixed, the grade 1", joined, 5, GONE, 0, 0, 0, 3, 9, 15, 1, 5, 1, 0, 1, 0, 0, 0, 0, 0, 0);
        joined.mix(7, joined.ofLot(7, DRY), 6, 1);
        Gardens.lot("a mixed one, mixed", joined, 7, GONE, 0, 0, 0, 0, 0, 0, 0, 0, -1, 0, 1, 1, 0, 0, 0, 0, 0);
    }

    // ---- promise 23

    @Says("there is no such LOT")
    static void promise23_noSuchLot() {
        for (int count : new int[] {0, 1, 16}) {
            Bounds.index("note(x, 0) of " + count, () -> Gardens.made(count), 0, count - 1, (g, x) -> g.note(x, 0));
        }
    }

    @Says("note is not 0 to 2")
    static void promise23_note0To2() {
        int[] notes = {3, 9, 5};
        Bounds.argument("note(0, x)", () -> noted(4, 1, 30, 0), 0, 2,
            (g, x) -> Due.is("note(0, " + x + ")", g.note(0, x), notes[x]));
    }

    @Says({"it is not MADE", "NOTES of a MADE LOT"})
    static void promise23_made() {
        Bounds.state("note(x, 0)", (g, x) -> g.note(x, 0), 4, 5, 9, 10, 11, 12);
    }

    /** A lot of 54 units, all fine, made without a case: 18 minutes of the heat 1 dry it, others burn it. */
    private static FlushGarden noted(int chem, int breaks, int ox, int burn) {
        FlushGarden g = Gardens.grown(9);
        g.pluck(0, 1, 9);
        g.wither(0, chem, 3);
        rollTo(g, 0, breaks);
        restTo(g, 0, ox);
        g.fire(0, 1, 18 + burn);
        return g;
    }

    /** That lot with a case for each minute of the heat 4. */
    private static FlushGarden cased(int cases, int breaks, int ox, boolean tainted) {
        FlushGarden g = Gardens.grown(9);
        if (tainted) {
            g.spray(0);
        }
        g.pluck(0, 1, 9);
        g.wither(0, 2, 3);
        rollTo(g, 0, breaks);
        restTo(g, 0, ox);
        if (cases > 0) {
            g.fire(0, 4, cases);
        }
        g.fire(0, 1, (79 - 6 * cases) / 3);
        Due.is("CASE", g.ofLot(0, 7), cases);
        Due.is("BURN", g.ofLot(0, 8), 0);
        return g;
    }

    private static void body(String told, FlushGarden g, int want) {
        Due.is("BODY of " + told, g.note(0, 0), want);
    }

    private static void brisk(String told, FlushGarden g, int want) {
        Due.is("BRISK of " + told, g.note(0, 1), want);
    }

    private static void aroma(String told, FlushGarden g, int want) {
        Due.is("AROMA of " + told, g.note(0, 2), want);
    }

    @Says("BODY: OX / 8, and BREAK / 3")
    static void promise23_bodyRoundedDown() {
        int[][] rows = {{0, 2, 0}, {0, 3, 1}, {0, 5, 1}, {0, 6, 2}, {7, 1, 0}, {8, 1, 1}, {15, 1, 1}, {16, 1, 2},
            {55, 1, 6}, {56, 1, 7}, {60, 1, 7}, {7, 2, 0}, {15, 5, 2}, {16, 6, 4}};
        for (int[] row : rows) {
            body("the OX " + row[0] + " and the BREAK " + row[1], noted(4, row[1], row[0], 0), row[2]);
        }
    }

    @Says("and 2, if the GRADE is 2, less CASE.")
    static void promise23_bodyOfGrade2() {
        FlushGarden g = noted(4, 10, 16, 0);
        body("one without a GRADE", g, 5);
        g.sort(0);
        for (int grade = 0; grade < 3; grade++) {
            Gardens.notes("GRADE " + grade, g, 1 + grade, grade == 2 ? 7 : 5, 8, 5);
        }
        for (int cases = 0; cases <= 5; cases++) {
            body("the CASE " + cases, cased(cases, 10, 16, false), 5 - cases);
        }
    }

    @Says("NOTES of a MADE LOT, each held to 0 to 9")
    static void promise23_bodyHeld() {
        body("7 and 1", noted(4, 5, 60, 0), 8);
        body("7 and 2", noted(4, 6, 60, 0), 9);
        body("7 and 3", noted(4, 9, 60, 0), 9);
        body("7 and 20", noted(4, 60, 60, 0), 9);
        body("1 less 0", cased(0, 3, 0, false), 1);
        body("1 less 1", cased(1, 3, 0, false), 0);
        body("1 less 2", cased(2, 3, 0, false), 0);
        body("1 less 5", cased(5, 3, 0, false), 0);
        FlushGarden g = noted(4, 9, 60, 0);
        g.sort(0);
        Due.is("10 and 2", g.note(3, 0), 9);
    }

    @Says("NOTES of a MADE LOT, each held to 0 to 9")
    static void promise23_briskAndAromaHeld() {
        int[][] rows = {{4, 8, 1, 0}, {4, 9, 0, 0}, {5, 7, 1, 0}, {5, 8, 0, 0}, {5, 9, 0, 0}};
        for (int[] row : rows) {
            FlushGarden hot = hot(row[0], row[1]);
            brisk("the heat " + row[0] + ", minutes " + row[1], hot, row[2]);
            aroma("the heat " + row[0] + ", minutes " + row[1], hot, row[3]);
        }
        aroma("4 less 5, TAINTED", cased(0, 1, 0, true), 0);
        aroma("4 less 1, less 5, TAINTED", cased(1, 1, 0, true), 0);
        Gardens.notes("all as high as may be", noted(12, 18, 30, 0), 0, 9, 9, 9);
        Gardens.notes("all as low as may be", hot(5, 22), 0, 3, 0, 0);
    }

    /** The lot of the ox 30 and the chem 4 that is dried by this heat, and burnt as many minutes. */
    private static FlushGarden hot(int heat, int burnt) {
        FlushGarden g = Gardens.grown(9);
        g.pluck(0, 1, 9);
        g.wither(0, 4, 3);
        g.roll(0, 1);
        restTo(g, 0, 30);
        g.fire(0, heat, (heat == 4 ? 9 : 8) + burnt);
        Due.is("BURN", g.ofLot(0, 8), heat * burnt);
        return g;
    }

    @Says({"BRISK: F / 2, and 4", "less an eighth of the distance of OX from 30"})
    static void promise23_briskByOx() {
        int[][] rows = {{0, 6}, {6, 6}, {7, 7}, {14, 7}, {15, 8}, {22, 8}, {23, 9}, {30, 9}, {37, 9}, {38, 8}, {45, 8},
            {46, 7}, {53, 7}, {54, 6}, {60, 6}};
        for (int[] row : rows) {
            brisk("the OX " + row[0], noted(4, 1, row[0], 0), row[1]);
        }
    }

    @Says("(if it is KILLED: F / 2, and 3), less BURN / 4.")
    static void promise23_briskOfKilledAndBurnt() {
        int[] burns = {0, 3, 4, 7, 8, 11, 12};
        int[] less = {0, 0, 1, 1, 2, 2, 3};
        for (int row = 0; row < burns.length; row++) {
            brisk("the BURN " + burns[row], noted(4, 1, 30, burns[row]), 9 - less[row]);
            FlushGarden killed = Gardens.grown(9);
            killed.pluck(0, 1, 9);
            killed.wither(0, 4, 3);
            killed.kill(0);
            killed.roll(0, 1);
            killed.fire(0, 1, 14 + burns[row]);
            Due.is("BURN", killed.ofLot(0, 8), burns[row]);
            brisk("the BURN " + burns[row] + ", KILLED", killed, 8 - less[row]);
        }
    }

    @Says("AROMA: CHEM (12 at most) / 2, and F / 3, less CASE")
    static void promise23_aromaByChem() {
        int[][] rows = {{4, 5}, {5, 5}, {6, 6}, {10, 8}, {11, 8}, {12, 9}, {13, 9}, {14, 9}, {20, 9}};
        for (int[] row : rows) {
            aroma("the CHEM " + row[0], noted(row[0], 1, 0, 0), row[1]);
        }
        for (int cases = 0; cases <= 5; cases++) {
            aroma("the CASE " + cases, cased(cases, 1, 0, false), Math.max(0, 4 - cases));
        }
        FlushGarden beyond = Gardens.fired(1);
        aroma("1 and 0, without FINE", beyond, 1);
        FlushGarden late = Gardens.green(1);
        late.wither(0, 14, 3);
        late.roll(0, 1);
        late.fire(0, 1, 13);
        aroma("the CHEM 14 without FINE", late, 6);
    }

    @Says("less BURN / 5, less 5, if it is TAINTED.")
    static void promise23_aromaOfBurntAndTainted() {
        int[] burns = {0, 4, 5, 9, 10, 12};
        int[] less = {0, 0, 1, 1, 2, 2};
        for (int row = 0; row < burns.length; row++) {
            aroma("the BURN " + burns[row], noted(12, 1, 0, burns[row]), 9 - less[row]);
        }
        for (int days = 0; days <= 3; days++) {
            FlushGarden g = Gardens.grown(9);
            g.spray(0);
            if (days > 0) {
                g.pass(0, 0, days);
            }
            g.pluck(0, 1, 9);
            g.wither(0, 12, 3);
            g.roll(0, 1);
            g.fire(0, 1, 18);
            aroma("days behind the spraying: " + days, g, days < 3 ? 4 : 9);
        }
    }

    @Says("F is 10 times FINE, divided by DRY.")
    static void promise23_tenthsFine() {
        FlushGarden g = twelveFine();
        Gardens.notes("120 / 48", g, 0, 4, 5, 2);
        int[][] rows = {{41, 2}, {40, 3}, {31, 3}, {30, 4}, {21, 5}, {20, 6}, {16, 7}, {15, 8}, {12, 10}};
        for (int[] row : rows) {
            g.mix(0, g.ofLot(0, DRY) - row[0], 6, 1);
            Gardens.notes("120 / " + row[0], g, 0, 4, row[1] / 2 + 4, 2 + row[1] / 3);
        }
    }

    @Says("A MIXED one has the NOTES that it got.")
    static void promise23_mixed() {
        FlushGarden g = twoNoted();
        g.mix(0, 2, 1, 2);
        Gardens.notes("20 / 4, 20 / 4, 22 / 4", g, 2, 5, 5, 5);
        g.mix(2, 3, 1, 1);
        Gardens.notes("one unit left over", g, 2, 5, 5, 5);
        Due.is("UNITS of the section 0", g.ofLot(2, 14), 0);
        Due.is("UNITS of the section 1", g.ofLot(2, 15), 1);
    }

    // ---- promise 30

    @Says("there is no such LOT")
    static void promise30_noSuchLot() {
        for (int count : new int[] {0, 1, 16}) {
            Bounds.index("bestFire(x) of " + count, () -> Gardens.rolled(count), 0, count - 1,
                (g, x) -> Due.is("58 to 1 by 3 a minute", g.bestFire(x), 119));
        }
    }

    @Says("it is not ROLLED")
    static void promise30_rolled() {
        Bounds.state("bestFire(x)", FlushGarden::bestFire, 2, 3);
    }

    /** A lot of 72 units with the water 135: heat 1 takes 4 a minute; it is dried at the water 3. */
    private static FlushGarden seventyTwo() {
        FlushGarden g = Gardens.grown(4);
        g.pluck(0, 3, 1);
        g.pluck(0, 2, 1);
        g.join(0, 1);
        g.wither(0, 1, 3);
        g.wither(0, 1, 1);
        g.roll(0, 1);
        Gardens.lot("seventy-two", g, 0, 1, 72, 0, 135);
        return g;
    }

    @Says("the minutes (1 to 30) of that one FIRE behind which it would be MADE")
    static void promise30_minutes1To30() {
        FlushGarden g = seventyTwo();
        Due.is("135: heat 2, to 0 in 27", g.bestFire(0), 227);
        Due.is("WATER", g.fire(0, 3, 2), 123);
        Due.is("123: heat 1, to 3 in 30", g.bestFire(0), 130);
        Due.is("WATER", g.fire(0, 1, 29), 7);
        Due.is("7: heat 1, to 3 in 1", g.bestFire(0), 101);
        FlushGarden more = seventyTwo();
        more.fire(0, 2, 1);
        Due.is("WATER", more.fire(0, 3, 1), 124);
        Due.is("124: heat 1 leaves 4 in 30, heat 2 is to 0 in 25", more.bestFire(0), 225);
        FlushGarden late = seventyTwo();
        late.fire(0, 2, 1);
        late.fire(0, 3, 1);
        Due.is("WATER", late.fire(0, 1, 29), 8);
        Due.is("8: heat 1, to 0 in 2, though heat 2 would in 1", late.bestFire(0), 102);
    }

    @Says("of several the smallest HEAT, then the fewest minutes; NONE without one.")
    static void promise30_noneWithoutOne() {
        FlushGarden g = wet();
        Due.is("1416", g.bestFire(0), -1);
        g.fire(0, 1, 3);
        Due.is("WATER", g.fire(0, 2, 1), 1267);
        long before = g.digest();
        Due.is("1267: heat 5 leaves 37 in 30", g.bestFire(0), -1);
        Due.is("nothing is changed", g.digest(), before);
        FlushGarden less = wet();
        less.fire(0, 1, 2);
        Due.is("WATER", less.fire(0, 2, 2), 1266);
        Due.is("1266: heat 5, to 36 in 30", less.bestFire(0), 530);
        Due.is("WATER", less.fire(0, 5, 30), 36);
        Due.is("20 * 36 as 720", less.ofLot(0, STATE), MADE);
    }

    /** A lot of 720 units: heat 5 takes 41 a minute; it is dried at the water 36. */
    private static FlushGarden wet() {
        FlushGarden g = Gardens.grown(9);
        g.pass(5, 0, 10);
        g.pluck(0, 3, 9);
        g.pluck(0, 3, 9);
        g.join(0, 1);
        g.wither(0, 4, 1);
        g.roll(0, 1);
        Gardens.lot("wet", g, 0, 1, 720, 0, 1416);
        return g;
    }

    @Says("of several the smallest HEAT, then the fewest minutes")
    static void promise30_ofSeveral() {
        FlushGarden g = Gardens.rolled(1);
        Due.is("the water 58, 3 a minute: none burns or cases it in 19", g.bestFire(0), 119);
        g.fire(0, 1, 19);
        FlushGarden longer = Gardens.rolled(1);
        longer.fire(0, 1, 22);
        FlushGarden hotter = Gardens.rolled(1);
        hotter.fire(0, 3, 12);
        for (int note = 0; note < 3; note++) {
            Due.is("more minutes, the same NOTES", longer.note(0, note), g.note(0, note));
            Due.is("more HEAT, the same NOTES", hotter.note(0, note), g.note(0, note));
        }
    }

    @Says("with the greatest sum of its three NOTES")
    static void promise30_greatestSum() {
        FlushGarden g = Gardens.grown(9);
        g.pass(5, 0, 1);
        g.pluck(0, 3, 5);
        g.wither(0, 4, 1);
        g.roll(0, 5);
        Gardens.lot("196 units", g, 0, 1, 196, 0, 385);
        Due.is("the CASE 15 or 14 of nothing: the heat 4", g.bestFire(0), 429);
        rollTo(g, 0, 34);
        Due.is("13 less 15 or 14 is nothing, too", g.bestFire(0), 429);
        rollTo(g, 0, 6);
        Due.is("15 less 15 is less than 15 less 14: the heat 5", g.bestFire(0), 527);
    }

    // ---- promise 31

    @Says("one is not 0 to 9")
    static void promise31_body0To9() {
        Bounds.argument("bestMix(x, 0, 0)", MadeBoundsTest::perfect, 0, 9, (g, x) -> Due.is("any BODY", g.bestMix(x, 0, 0), 11));
    }

    @Says("one is not 0 to 9")
    static void promise31_brisk0To9() {
        Bounds.argument("bestMix(0, x, 0)", MadeBoundsTest::perfect, 0, 9, (g, x) -> Due.is("any BRISK", g.bestMix(0, x, 0), 11));
    }

    @Says("one is not 0 to 9")
    static void promise31_aroma0To9() {
        Bounds.argument("bestMix(0, 0, x)", MadeBoundsTest::perfect, 0, 9, (g, x) -> Due.is("any AROMA", g.bestMix(0, 0, x), 11));
    }

    /** Two lots with the notes 9, 9 and 9. */
    private static FlushGarden perfect() {
        FlushGarden g = Gardens.grown(9, 9);
        for (int lot = 0; lot < 2; lot++) {
            g.pluck(lot, 1, 9);
            g.wither(lot, 12, 3);
            rollTo(g, lot, 18);
            restTo(g, lot, 30);
            g.fire(lot, 1, 18);
        }
        return g;
    }

    /** Lots of 40 units with the notes 1, 1 and 1, but for the body of 2 of those whose break is 6. */
    private static FlushGarden byBreaks(int... breaks) {
        FlushGarden g = Gardens.green(breaks.length);
        for (int lot = 0; lot < breaks.length; lot++) {
            g.wither(lot, 2, 3);
            rollTo(g, lot, breaks[lot]);
            g.fire(lot, 1, 19);
            Gardens.notes("by the BREAK " + breaks[lot], g, lot, Math.min(9, breaks[lot] / 3), 1, 1);
        }
        return g;
    }

    @Says("in sum, divided by 10, are no less than these")
    static void promise31_noLess() {
        Due.is("9 and 9 are no less than 9", perfect().bestMix(9, 9, 9), 11);
        FlushGarden ones = byBreaks(5, 5);
        Due.is("1 and 1 are no less than 1", ones.bestMix(1, 1, 1), 11);
        Due.is("BODY", ones.bestMix(2, 0, 0), -1);
        Due.is("BRISK", ones.bestMix(0, 2, 0), -1);
        Due.is("AROMA", ones.bestMix(0, 0, 2), -1);
        FlushGarden two = byBreaks(5, 6);
        Due.is("19 / 10 is less than 2", two.bestMix(2, 0, 0), -1);
        Due.is("11 / 10 is no less than 1", two.bestMix(1, 1, 1), 19);
        FlushGarden zero = byBreaks(2, 5);
        Due.is("9 / 10 is less than 1", zero.bestMix(1, 0, 0), -1);
        Due.is("1 / 10 is no less than 0", zero.bestMix(0, 1, 1), 19);
        FlushGarden three = byBreaks(2, 30);
        Due.is("1 tenth of 9 is 9 / 10", three.bestMix(0, 0, 0), 19);
        Due.is("2 tenths of 9 are 18 / 10", three.bestMix(1, 0, 0), 18);
        Due.is("8 tenths of 9 are 72 / 10", three.bestMix(7, 0, 0), 12);
        Due.is("9 tenths of 9 are 81 / 10", three.bestMix(8, 0, 0), 11);
        Due.is("10 tenths there are not", three.bestMix(9, 0, 0), -1);
    }

    @Says({"so many tenths of the NOTES of the first one, and the rest of the other one, in sum, divided by 10",
        "are no less than these"})
    static void promise31_eachNoteByItself() {
        FlushGarden byBody = Gardens.apartInBody();
        FlushGarden byBrisk = Gardens.apartInBrisk();
        FlushGarden byAroma = Gardens.apartInAroma();
        int[] tenthsOfTwo = {9, 9, 9, 8, 7, 5, 4, 2, 1};
        int[] tenthsOfOne = {9, 9, 8, 7, 6, 5, 3, 2, 1};
        for (int least = 0; least <= 8; least++) {
            Due.is("BODY 2 and 9, no less than " + least, byBody.bestMix(least, 0, 0), 10 + tenthsOfTwo[least]);
            Due.is("BRISK 1 and 9, no less than " + least, byBrisk.bestMix(0, least, 0), 10 + tenthsOfOne[least]);
            Due.is("AROMA 1 and 9, no less than " + least, byAroma.bestMix(0, 0, least), 10 + tenthsOfOne[least]);
        }
        Due.is("BODY 9", byBody.bestMix(9, 0, 0), -1);
        Due.is("BRISK 9", byBrisk.bestMix(0, 9, 0), -1);
        Due.is("AROMA 9", byAroma.bestMix(0, 0, 9), -1);
        Due.is("BODY 6 of both", byBrisk.bestMix(6, 0, 0), 19);
        Due.is("BODY 7 of none", byBrisk.bestMix(7, 0, 0), -1);
        Due.is("AROMA 6 of both", byBrisk.bestMix(0, 0, 6), 19);
        Due.is("AROMA 7 of none", byBrisk.bestMix(0, 0, 7), -1);
        Due.is("BRISK 9 of both", byBody.bestMix(0, 9, 0), 19);
    }

    @Says("with the smallest sum of all three, without dividing; of several the smallest number")
    static void promise31_smallestSumThenNumber() {
        Due.is("all alike", byBreaks(5, 5, 5).bestMix(0, 0, 0), 11);
        Due.is("the last two have the smallest sum", byBreaks(6, 5, 5).bestMix(0, 0, 0), 1021);
        Due.is("the first and the last one", byBreaks(5, 6, 5).bestMix(0, 0, 0), 21);
        Due.is("31 of (0, 2), 31 of (1, 2)", byBreaks(6, 6, 5).bestMix(0, 0, 0), 21);
        Due.is("31 of (0, 1), of (0, 2)", byBreaks(5, 6, 6).bestMix(0, 0, 0), 19);
        Due.is("of BODY 2 the last two alone", byBreaks(5, 6, 6).bestMix(2, 0, 0), 1021);
    }

    @Says({"1000 times a LOT, 10 times a greater one, and tenths (1 to 9)", "of those that could be MIXED (MADE, not OFFERED)",
        "NONE without one."})
    static void promise31_madeNotOffered() {
        Due.is("none", new FlushGarden().bestMix(0, 0, 0), -1);
        Due.is("one alone", Gardens.made(1).bestMix(0, 0, 0), -1);
        Due.is("two ROLLED ones", Gardens.rolled(2).bestMix(0, 0, 0), -1);
        Due.is("two GREEN ones", Gardens.green(2).bestMix(0, 0, 0), -1);
        FlushGarden g = Gardens.made(2);
        Due.is("two", g.bestMix(0, 0, 0), 11);
        g.offer(0, 1);
        Due.is("the first one OFFERED", g.bestMix(0, 0, 0), -1);
        g.offer(1, 1);
        g.knock(0);
        Due.is("the second one OFFERED", g.bestMix(0, 0, 0), -1);
        g.knock(1);
        Due.is("OFFERED no more", g.bestMix(0, 0, 0), 11);
        g.mix(0, 40, 1, 39);
        Due.is("the first one GONE, a third one", g.bestMix(0, 0, 0), 1021);
        g.mix(1, 1, 2, 79);
        Due.is("one alone", g.bestMix(0, 0, 0), -1);
        FlushGarden full = Gardens.made(16);
        for (int lot = 0; lot < 14; lot++) {
            full.offer(lot, 1);
        }
        Due.is("the last two of 16", full.bestMix(1, 1, 1), 14151);
    }

    public static void main(String[] args) throws IOException, IllegalAccessException {
        Bounds.run(MadeBoundsTest.class);
    }
}
