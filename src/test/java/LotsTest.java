/** Promises 7 to 14, 22, 23 and 30: lots of leaf, from green to mixed. */
public final class LotsTest {
    private static final int STATE = 0;
    private static final int DRY = 1;
    private static final int FINE = 2;
    private static final int WATER = 3;
    private static final int CHEM = 4;
    private static final int OX = 6;
    private static final int CASE = 7;
    private static final int BURN = 8;
    private static final int TAINTED = 11;

    /** Sections of the areas, each with 2 times its area of every size and of hard ones. */
    private static FlushGarden grown(int... areas) {
        FlushGarden g = new FlushGarden();
        for (int area : areas) {
            g.section(area, 0);
        }
        g.pass(5, 0, 5);
        return g;
    }

    /** Lot 0 of 54 fine units, withered 4 hours with air 3 to the water 54. */
    private static FlushGarden withered() {
        FlushGarden g = grown(9, 5);
        g.pluck(0, 1, 9);
        g.wither(0, 4, 3);
        return g;
    }

    /** That lot rolled to the break 10 and rested to the ox 20. */
    private static FlushGarden rolled() {
        FlushGarden g = withered();
        g.roll(0, 5);
        g.roll(0, 5);
        g.rest(0, 5, 4);
        return g;
    }

    /** That lot made, with the notes 5, 8 and 5. */
    private static FlushGarden made() {
        FlushGarden g = rolled();
        g.fire(0, 2, 13);
        return g;
    }

    private static void lot(String when, FlushGarden g, int lot, int... want) {
        for (int what = 0; what < want.length; what++) {
            Due.is(when + ": ofLot(" + lot + ", " + what + ")", g.ofLot(lot, what), want[what]);
        }
    }

    private static void notes(String when, FlushGarden g, int lot, int body, int brisk, int aroma) {
        Due.is(when + ": BODY of " + lot, g.note(lot, 0), body);
        Due.is(when + ": BRISK of " + lot, g.note(lot, 1), brisk);
        Due.is(when + ": AROMA of " + lot, g.note(lot, 2), aroma);
    }

    private static void promise7() {
        FlushGarden g = grown(1, 2);
        g.pluck(0, 1, 1);
        g.spray(1);
        g.pluck(1, 2, 1);
        Due.index("join(-1, 0)", () -> g.join(-1, 0));
        Due.index("join(0, 2)", () -> g.join(0, 2));
        Due.index("join(2, 2)", () -> g.join(2, 2));
        Due.argument("join(1, 1)", () -> g.join(1, 1));
        Due.is("join(0, 1)", g.join(0, 1), 6 + 28);
        lot("the first one", g, 0, 0, 34, 6 + 12, 18 + 84, 0, 0, 0, 0, 0, -1, 0, 1, 0, 0, 6, 28, 0, 0);
        lot("the second one", g, 1, 3, 0, 12, 84, 0, 0, 0, 0, 0, -1, 0, 1, 0, 0, 0, 0, 0, 0);
        Due.state("a gone one", () -> g.join(0, 1));
        Due.state("to a gone one", () -> g.join(1, 0));
        Due.is("GREEN ones", g.many(3), 1);
        Due.is("DRY of all", g.many(8), 34);
    }

    private static void promise7Cannot() {
        FlushGarden g = grown(9);
        for (int i = 0; i < 4; i++) {
            g.pluck(0, 3, 1);
        }
        g.wither(0, 1, 1);
        Due.state("another CHEM", () -> g.join(0, 1));
        g.kill(1);
        Due.state("the second one killed", () -> g.join(2, 1));
        Due.state("the first one killed", () -> g.join(1, 2));
        g.kill(2);
        Due.is("both killed", g.join(2, 1), 34 + 40);
        Due.is("UNITS of both", g.ofLot(2, 14), 34 + 40);
        Due.is("not tainted, as none is", g.ofLot(2, TAINTED), 0);
        g.wither(0, 20, 3);
        g.wither(3, 20, 3);
        g.wither(3, 2, 3);
        Due.state("CHEM 21 and 22", () -> g.join(0, 3));
        g.roll(0, 1);
        Due.state("ROLLED, as the first one", () -> g.join(0, 3));
        Due.state("ROLLED, as the second one", () -> g.join(3, 0));
        FlushGarden same = grown(9);
        same.pluck(0, 3, 1);
        same.wither(0, 9, 3);
        same.spray(0);
        same.pluck(0, 3, 1);
        same.wither(1, 9, 3);
        Due.is("the same CHEM", same.join(1, 0), 80);
        Due.is("tainted as the first one is", same.ofLot(1, TAINTED), 1);
        Due.is("the second one as it was", same.ofLot(0, TAINTED), 0);
    }

    private static void promise8() {
        FlushGarden g = grown(9);
        g.pluck(0, 1, 9);
        Due.index("wither(1, 0, 0)", () -> g.wither(1, 0, 0));
        Due.index("wither(-1, 1, 1)", () -> g.wither(-1, 1, 1));
        Due.argument("wither(0, 0, 1)", () -> g.wither(0, 0, 1));
        Due.argument("wither(0, 21, 1)", () -> g.wither(0, 21, 1));
        Due.argument("wither(0, 1, 0)", () -> g.wither(0, 1, 0));
        Due.argument("wither(0, 1, 4)", () -> g.wither(0, 1, 4));
        Due.is("162 less 49", g.wither(0, 1, 3), 113);
        Due.is("less 23, less 18", g.wither(0, 2, 2), 113 - 23 - 18);
        Due.is("less 8", g.wither(0, 1, 1), 64);
        Due.is("CHEM", g.ofLot(0, CHEM), 4);
        Due.is("not below DRY", g.wither(0, 20, 3), 54);
        Due.is("CHEM goes on", g.ofLot(0, CHEM), 24);
        FlushGarden nine = grown(9);
        nine.pluck(0, 1, 9);
        nine.wither(0, 1, 3);
        Due.is("113 less 122 / 10", nine.wither(0, 1, 1), 101);
        Due.is("101 less 110 / 10", nine.wither(0, 1, 1), 90);
        g.kill(0);
        Due.state("killed", () -> g.wither(0, 1, 1));
        g.roll(0, 1);
        Due.state("rolled", () -> g.wither(0, 1, 1));
        Due.argument("wrong hours ahead of that", () -> g.wither(0, 0, 1));
    }

    private static void promise9() {
        FlushGarden g = grown(9);
        g.pluck(0, 1, 9);
        g.pluck(0, 3, 1);
        Due.index("kill(2)", () -> g.kill(2));
        Due.index("kill(-1)", () -> g.kill(-1));
        Due.is("162 less 32", g.kill(0), 130);
        Due.is("KILLED", g.ofLot(0, 10), 1);
        Due.is("GREEN still", g.ofLot(0, STATE), 0);
        Due.state("killed", () -> g.kill(0));
        g.wither(1, 20, 3);
        g.roll(1, 1);
        Due.state("rolled", () -> g.kill(1));
        Due.is("WATER", g.ofLot(0, WATER), 130);
    }

    private static void promise10() {
        FlushGarden g = grown(9);
        g.pluck(0, 1, 9);
        Due.index("roll(1, 0)", () -> g.roll(1, 0));
        Due.index("roll(-1, 1)", () -> g.roll(-1, 1));
        Due.argument("roll(0, 0)", () -> g.roll(0, 0));
        Due.argument("roll(0, 6)", () -> g.roll(0, 6));
        Due.state("too much water", () -> g.roll(0, 1));
        g.wither(0, 1, 3);
        Due.state("113 is above 108", () -> g.roll(0, 1));
        g.wither(0, 1, 1);
        Due.is("roll(0, 3)", g.roll(0, 3), 3);
        Due.is("ROLLED", g.ofLot(0, STATE), 1);
        Due.is("roll(0, 5)", g.roll(0, 5), 8);
        Due.is("ROLLED ones", g.many(4), 1);
        g.fire(0, 5, 30);
        Due.state("made", () -> g.roll(0, 1));
        FlushGarden brim = grown(1);
        brim.pluck(0, 2, 2);
        brim.kill(0);
        Due.is("WATER of 14 units", brim.ofLot(0, WATER), 34);
        Due.state("killed with too much water", () -> brim.roll(0, 1));
        FlushGarden edge = new FlushGarden();
        edge.section(1, 0);
        edge.section(2, 0);
        edge.pass(5, 0, 4);
        edge.pluck(0, 1, 1);
        Due.is("18 to 12", edge.wither(0, 1, 3), 12);
        Due.is("WATER of 2 times DRY may be", edge.roll(0, 1), 1);
    }

    private static void promise11() {
        FlushGarden g = withered();
        Due.index("rest(1, 0, 0)", () -> g.rest(1, 0, 0));
        Due.index("rest(-1, 1, 1)", () -> g.rest(-1, 1, 1));
        Due.argument("rest(0, 0, 1)", () -> g.rest(0, 0, 1));
        Due.argument("rest(0, 21, 1)", () -> g.rest(0, 21, 1));
        Due.argument("rest(0, 1, 0)", () -> g.rest(0, 1, 0));
        Due.argument("rest(0, 1, 5)", () -> g.rest(0, 1, 5));
        Due.state("green", () -> g.rest(0, 1, 1));
        g.roll(0, 1);
        Due.is("rest(0, 3, 4)", g.rest(0, 3, 4), 12);
        Due.is("rest(0, 20, 2)", g.rest(0, 20, 2), 52);
        Due.is("OX is 60 at most", g.rest(0, 3, 3), 60);
        Due.is("OX", g.ofLot(0, OX), 60);
        g.fire(0, 5, 30);
        Due.state("made", () -> g.rest(0, 1, 1));
        FlushGarden killed = withered();
        killed.kill(0);
        killed.roll(0, 1);
        Due.state("killed", () -> killed.rest(0, 1, 1));
    }

    private static void promise12Arguments() {
        FlushGarden g = withered();
        Due.index("fire(1, 0, 0)", () -> g.fire(1, 0, 0));
        Due.index("fire(-1, 1, 1)", () -> g.fire(-1, 1, 1));
        Due.argument("fire(0, 0, 1)", () -> g.fire(0, 0, 1));
        Due.argument("fire(0, 6, 1)", () -> g.fire(0, 6, 1));
        Due.argument("fire(0, 1, 0)", () -> g.fire(0, 1, 0));
        Due.argument("fire(0, 1, 31)", () -> g.fire(0, 1, 31));
        Due.state("green", () -> g.fire(0, 1, 1));
        g.roll(0, 1);
        g.fire(0, 1, 30);
        Due.state("made", () -> g.fire(0, 1, 1));
    }

    private static void promise12() {
        FlushGarden g = rolled();
        Due.is("12 minutes of 2, and 2", g.fire(0, 2, 12), 54 - 48);
        Due.is("ROLLED still", g.ofLot(0, STATE), 1);
        Due.is("a thirteenth", g.fire(0, 2, 1), 2);
        Due.is("MADE", g.ofLot(0, STATE), 2);
        Due.is("MADE ones", g.many(5), 1);
        Due.is("BURN", g.ofLot(0, BURN), 0);
        FlushGarden burnt = rolled();
        Due.is("WATER is 0 at least", burnt.fire(0, 3, 14), 0);
        Due.is("11 minutes dry it, 3 burn it", burnt.ofLot(0, BURN), 9);
        Due.is("CASE of the heat 3", burnt.ofLot(0, CASE), 0);
    }

    private static void promise12Case() {
        FlushGarden g = grown(9);
        g.pluck(0, 1, 9);
        g.wither(0, 2, 3);
        Due.is("WATER", g.ofLot(0, WATER), 79);
        g.roll(0, 1);
        Due.is("heat 3", g.fire(0, 3, 1), 74);
        Due.is("CASE of the heat 3", g.ofLot(0, CASE), 0);
        Due.is("heat 4", g.fire(0, 4, 2), 62);
        Due.is("CASE of the heat 4", g.ofLot(0, CASE), 2);
        Due.is("heat 5", g.fire(0, 5, 1), 55);
        Due.is("CASE of the heat 5", g.ofLot(0, CASE), 3);
        Due.is("heat 4 down to DRY", g.fire(0, 4, 1), 49);
        Due.is("55 was above DRY", g.ofLot(0, CASE), 4);
        g.fire(0, 5, 1);
        Due.is("49 was not", g.ofLot(0, CASE), 4);
        FlushGarden even = withered();
        even.roll(0, 1);
        even.fire(0, 5, 1);
        Due.is("WATER as DRY", even.ofLot(0, CASE), 0);
        Due.is("dried at last", even.fire(0, 5, 8), 0);
        Due.is("CASE", even.ofLot(0, CASE), 0);
        Due.is("BURN of the ninth minute", even.ofLot(0, BURN), 5);
    }

    private static void promise13() {
        FlushGarden g = made();
        Due.index("sort(1)", () -> g.sort(1));
        Due.index("sort(-1)", () -> g.sort(-1));
        g.offer(0, 1);
        Due.state("offered", () -> g.sort(0));
        g.knock(0);
        Due.is("sort(0)", g.sort(0), 3);
        lot("gone", g, 0, 3, 0, 54, 2, 4, 10, 20, 0, 0, -1, 0, 0, 0, 0, 0, 0, 0, 0);
        lot("grade 0", g, 1, 2, 14, 14, 0, 4, 10, 20, 0, 0, 0, 0, 0, 0, 0, 14, 0, 0, 0);
        lot("grade 1", g, 2, 2, 27, 27, 0, 4, 10, 20, 0, 0, 1, 0, 0, 0, 0, 27, 0, 0, 0);
        lot("grade 2", g, 3, 2, 13, 13, 0, 4, 10, 20, 0, 0, 2, 0, 0, 0, 0, 13, 0, 0, 0);
        notes("grade 0", g, 1, 5, 8, 5);
        notes("grade 1", g, 2, 5, 8, 5);
        notes("grade 2", g, 3, 7, 8, 5);
        Due.state("gone", () -> g.sort(0));
        Due.state("with a grade", () -> g.sort(1));
        g.mix(1, 1, 2, 1);
        Due.state("mixed", () -> g.sort(4));
        FlushGarden rolled = rolled();
        Due.state("not made", () -> rolled.sort(0));
    }

    /** Small shares round down section by section, so that FINE may be more than DRY. */
    private static void promise13Shares() {
        FlushGarden g = new FlushGarden();
        for (int i = 0; i < 4; i++) {
            g.section(1, 0);
        }
        g.pass(5, 0, 3);
        g.spray(0);
        for (int i = 0; i < 4; i++) {
            g.pluck(i, 1, 1);
        }
        for (int i = 1; i < 4; i++) {
            g.join(0, i);
        }
        g.wither(0, 20, 3);
        g.kill(0);
        g.roll(0, 5);
        g.fire(0, 4, 30);
        lot("of four sections", g, 0, 2, 24, 24, 0, 20, 5, 0, 0, 104, -1, 1, 1, 0, 0, 6, 6, 6, 6);
        Due.is("no grade 2 of 6 * 5 / 40", g.sort(0), 2);
        lot("grade 0", g, 4, 2, 20, 15, 0, 20, 5, 0, 0, 104, 0, 1, 1, 0, 0, 5, 5, 5, 5);
        lot("grade 1", g, 5, 2, 4, 4, 0, 20, 5, 0, 0, 104, 1, 1, 1, 0, 0, 1, 1, 1, 1);
        Due.is("LOTS ever", g.many(2), 6);
    }

    /** The shares of 54 units by a break. */
    private static void shareRow(int breaks, int third, int second, int first) {
        FlushGarden g = withered();
        for (int i = 0; i < breaks; i++) {
            g.roll(0, 1);
        }
        g.fire(0, 1, 30);
        Due.is("sorted by the break " + breaks, g.sort(0), first > 0 ? 3 : 2);
        Due.is("grade 0 by the break " + breaks, g.ofLot(1, DRY), third);
        Due.is("grade 1 by the break " + breaks, g.ofLot(2, DRY), second);
        if (first > 0) {
            Due.is("grade 2 by the break " + breaks, g.ofLot(3, DRY), first);
            notes("grade 2 by the break " + breaks, g, 3, breaks / 3 + 2, 5 + 4 - 3 - 12 / 4, 2 + 3 - 12 / 5);
        }
    }

    private static void promise13Rows() {
        shareRow(1, 51, 2, 1);
        shareRow(2, 47, 5, 2);
        shareRow(8, 23, 21, 10);
        shareRow(9, 18, 24, 12);
        shareRow(10, 14, 27, 13);
        shareRow(11, 14, 27, 13);
    }

    private static void promise13Bounds() {
        FlushGarden g = grown(9, 9);
        g.pluck(0, 1, 9);
        g.wither(0, 9, 3);
        g.roll(0, 5);
        g.roll(0, 5);
        g.roll(0, 5);
        g.fire(0, 5, 9);
        g.pass(5, 0, 15);
        for (int lot = 1; lot < 14; lot++) {
            g.pluck(1, 3, 1);
        }
        Due.state("17 lots", () -> g.sort(0));
        Due.is("nothing is changed", g.ofLot(0, STATE), 2);
        Due.is("no new ones", g.many(2), 14);
        FlushGarden full = grown(9, 9);
        full.pluck(0, 1, 9);
        full.wither(0, 9, 3);
        full.roll(0, 5);
        full.roll(0, 5);
        full.roll(0, 5);
        full.fire(0, 5, 9);
        full.pass(5, 0, 15);
        for (int lot = 1; lot < 13; lot++) {
            full.pluck(1, 3, 1);
        }
        Due.is("16 lots", full.sort(0), 3);
        Due.is("b is 10 at most: DRY", full.ofLot(14, DRY), 27);
        Due.is("BREAK stays", full.ofLot(14, 5), 15);
    }

    /** Lots 0 of section 0 and 1 of section 1, joined to lot 0, and lot 2, of section 1; 0 and 2 made. */
    private static FlushGarden twoMade() {
        FlushGarden g = grown(2, 3);
        g.pluck(0, 1, 1);
        g.spray(1);
        g.pluck(1, 2, 1);
        g.join(0, 1);
        g.pass(5, 0, 3);
        g.pluck(0, 3, 9);
        for (int lot = 0; lot <= 2; lot += 2) {
            g.wither(lot, 9, 3);
            g.roll(lot, 5);
            g.rest(lot, 8 - lot, 4);
            g.fire(lot, 3, 30);
        }
        return g;
    }

    private static void promise14Arguments() {
        FlushGarden g = twoMade();
        Due.index("mix(0, 1, 3, 1)", () -> g.mix(0, 1, 3, 1));
        Due.index("mix(-1, 1, 0, 1)", () -> g.mix(-1, 1, 0, 1));
        Due.index("mix(3, 1, 3, 1)", () -> g.mix(3, 1, 3, 1));
        Due.argument("mix(0, 1, 0, 1)", () -> g.mix(0, 1, 0, 1));
        Due.argument("mix(1, 0, 1, 0), of a gone one", () -> g.mix(1, 0, 1, 0));
        Due.state("a gone one", () -> g.mix(0, 1, 1, 1));
        Due.state("a gone one first", () -> g.mix(1, 1, 0, 1));
        Due.state("mix(0, 0, 2, 1)", () -> g.mix(0, 0, 2, 1));
        Due.state("mix(0, 1, 2, 0)", () -> g.mix(0, 1, 2, 0));
        Due.state("too many of the first one", () -> g.mix(0, g.ofLot(0, DRY) + 1, 2, 1));
        Due.state("too many of the second one", () -> g.mix(0, 1, 2, g.ofLot(2, DRY) + 1));
        Due.state("far too many", () -> g.mix(0, Integer.MAX_VALUE, 2, Integer.MAX_VALUE));
        g.offer(0, 1);
        Due.state("the first one offered", () -> g.mix(0, 1, 2, 1));
        Due.state("the second one offered", () -> g.mix(2, 1, 0, 1));
        g.knock(0);
        for (int lot = 3; lot < 16; lot++) {
            Due.is("a mixed one", g.mix(0, 1, 2, 1), lot);
        }
        Due.state("a lot beyond 16", () -> g.mix(0, 1, 2, 1));
    }

    private static void promise14() {
        FlushGarden g = twoMade();
        lot("lot 0", g, 0, 2, 42, 18, 0, 9, 5, 32, 0, g.ofLot(0, BURN), -1, 0, 1, 0, 0, 12, 30, 0, 0);
        lot("lot 2", g, 2, 2, 88, 12, 0, 9, 5, 24, 0, g.ofLot(2, BURN), -1, 0, 0, 0, 0, 88, 0, 0, 0);
        FlushGarden other = twoMade();
        int[] notes = new int[3];
        for (int note = 0; note < 3; note++) {
            notes[note] = (20 * g.note(0, note) + 55 * g.note(2, note)) / 75;
        }
        Due.is("mix(0, 20, 2, 55)", g.mix(0, 20, 2, 55), 3);
        lot("of both", g, 3, 2, 75, 0, 0, 0, 0, 0, 0, 0, -1, 0, 1, 1, 0, 67, 8, 0, 0);
        notes("of both", g, 3, notes[0], notes[1], notes[2]);
        lot("the first one", g, 0, 2, 22, 18, 0, 9, 5, 32, 0, other.ofLot(0, BURN), -1, 0, 1, 0, 0, 0, 22, 0, 0);
        lot("the second one", g, 2, 2, 33, 12, 0, 9, 5, 24, 0, other.ofLot(2, BURN), -1, 0, 0, 0, 0, 33, 0, 0, 0);
        Due.is("all of both", g.mix(2, 33, 0, 22), 4);
        lot("the first one is gone", g, 2, 3, 0, 0, 0, 9, 5, 24, 0, other.ofLot(2, BURN), -1, 0, 0, 0, 0, 0, 0);
        lot("the second one is gone", g, 0, 3, 0, 0, 0, 9, 5, 32, 0, other.ofLot(0, BURN), -1, 0, 1, 0, 0, 0, 0);
        notes("mixed stays", g, 3, notes[0], notes[1], notes[2]);
        int[] mixed = {g.note(3, 0) * 70 + g.note(4, 0), g.note(3, 1) * 70 + g.note(4, 1), g.note(3, 2) * 70 + g.note(4, 2)};
        Due.is("mixed ones again", g.mix(3, 70, 4, 1), 5);
        notes("mixed again", g, 5, mixed[0] / 71, mixed[1] / 71, mixed[2] / 71);
        Due.is("UNITS of it", g.ofLot(5, 14), 68);
        Due.is("UNITS of it", g.ofLot(5, 15), 3);
        Due.is("DRY of all LOTS", g.many(8), 42 + 88);
        g.mix(5, 70, 4, 54 - 1);
        Due.is("one unit left over", g.ofLot(5, DRY), 1);
        Due.is("MADE still", g.ofLot(5, STATE), 2);
    }

    private static void promise14Notes() {
        FlushGarden g = made();
        g.spray(1);
        g.pluck(1, 3, 9);
        g.wither(1, 20, 3);
        g.kill(1);
        g.roll(1, 2);
        g.fire(1, 3, 11);
        lot("the second one", g, 1, 2, 120, 30, 0, 20, 2, 0, 0, 3, -1, 1, 1, 0, 0, 0, 120, 0, 0);
        notes("the first one", g, 0, 5, 8, 5);
        notes("the second one", g, 1, 0, 4, 1);
        g.mix(0, 50, 1, 101);
        notes("(5 8 5) * 50 and (0 4 1) * 101", g, 2, 1, 804 / 151, 351 / 151);
        Due.is("not killed", g.ofLot(2, 10), 0);
        Due.is("FINE is DRY at most", g.ofLot(1, FINE), 19);
        notes("notes go by that", g, 1, 0, 8, 4);
    }

    private static void promise22() {
        FlushGarden g = made();
        Due.index("ofLot(1, 99)", () -> g.ofLot(1, 99));
        Due.index("ofLot(-1, 0)", () -> g.ofLot(-1, 0));
        Due.argument("ofLot(0, -1)", () -> g.ofLot(0, -1));
        Due.argument("ofLot(0, 18)", () -> g.ofLot(0, 18));
        g.offer(0, 42);
        lot("offered", g, 0, 2, 54, 54, 2, 4, 10, 20, 0, 0, -1, 0, 0, 0, 42, 54, 0, 0, 0);
        g.purse(1, 9999);
        g.bid(1, 0, 50);
        g.knock(0);
        lot("sold", g, 0, 3, 0, 54, 2, 4, 10, 20, 0, 0, -1, 0, 0, 0, 0, 0, 0, 0, 0);
    }

    private static void promise23() {
        FlushGarden g = made();
        Due.index("note(1, 9)", () -> g.note(1, 9));
        Due.index("note(-1, 0)", () -> g.note(-1, 0));
        Due.argument("note(0, -1)", () -> g.note(0, -1));
        Due.argument("note(0, 3)", () -> g.note(0, 3));
        notes("made", g, 0, 5, 8, 5);
        g.sort(0);
        Due.state("gone", () -> g.note(0, 0));
        FlushGarden rolled = rolled();
        Due.state("rolled", () -> rolled.note(0, 0));
        Due.argument("a wrong note ahead of that", () -> rolled.note(0, 3));
    }

    /** The leaf of lot 0, with break, ox by quarters of 4, and a fire, and its notes. */
    private static void noteRow(int hours, int breaks, int quarters, int heat, int minutes, int... want) {
        FlushGarden g = grown(9);
        g.pluck(0, 1, 9);
        g.wither(0, hours, 3);
        for (int i = 0; i < breaks; i++) {
            g.roll(0, 1);
        }
        if (quarters > 0) {
            g.rest(0, quarters, 4);
        }
        g.fire(0, heat, minutes);
        notes("hours " + hours + " breaks " + breaks + " quarters " + quarters + " heat " + heat + " minutes " + minutes,
            g, 0, want[0], want[1], want[2]);
    }

    private static void promise23Rows() {
        noteRow(4, 1, 0, 2, 13, 0, 5 + 4 - 3, 2 + 3);
        noteRow(4, 3, 4, 2, 13, 2 + 1, 5 + 4 - 1, 2 + 3);
        noteRow(4, 5, 15, 2, 13, 7 + 1, 5 + 4 - 3, 2 + 3);
        noteRow(4, 15, 15, 2, 13, 9, 5 + 4 - 3, 2 + 3);
        noteRow(11, 1, 7, 2, 13, 3, 9, 5 + 3);
        noteRow(12, 1, 7, 2, 13, 3, 9, 6 + 3);
        noteRow(20, 1, 7, 2, 13, 3, 9, 6 + 3);
        noteRow(2, 1, 9, 4, 19, 0, 5 + 4 - 24 / 4, 0);
        noteRow(4, 1, 7, 2, 15, 3, 9 - 1, 2 + 3);
        noteRow(4, 1, 7, 2, 16, 3, 9 - 1, 2 + 3 - 1);
        noteRow(4, 1, 7, 5, 30, 3, 0, 0);
        noteRow(4, 1, 7, 5, 9, 3, 5 + 4 - 5 / 4, 2 + 3 - 5 / 5);
        FlushGarden g = grown(9);
        g.pluck(0, 1, 9);
        g.pluck(0, 3, 1);
        g.join(0, 1);
        g.wither(0, 4, 3);
        g.roll(0, 1);
        g.rest(0, 11, 2);
        g.fire(0, 1, 18);
        lot("F is 540 / 94", g, 0, 2, 94, 54, 4, 4, 1, 22, 0, 0);
        notes("F is 5, OX 22", g, 0, 2, 2 + 4 - 1, 2 + 1);
    }

    private static void oxRow(int ox, int far) {
        FlushGarden g = withered();
        g.roll(0, 1);
        for (int i = 0; i < ox; i++) {
            g.rest(0, 1, 1);
        }
        g.fire(0, 1, 18);
        notes("OX " + ox, g, 0, ox / 8, 5 + 4 - far, 2 + 3);
    }

    private static void promise23Ox() {
        oxRow(7, 2);
        oxRow(14, 2);
        oxRow(15, 1);
        oxRow(22, 1);
        oxRow(23, 0);
        oxRow(37, 0);
        oxRow(38, 1);
        oxRow(45, 1);
        oxRow(46, 2);
    }

    private static void promise30() {
        FlushGarden g = rolled();
        Due.index("bestFire(1)", () -> g.bestFire(1));
        Due.index("bestFire(-1)", () -> g.bestFire(-1));
        Due.is("heat 1: 3 a minute, 54 to 0 in 18", g.bestFire(0), 118);
        lot("nothing is changed", g, 0, 1, 54, 54, 54, 4, 10, 20, 0, 0, -1, 0, 0, 0, 0, 54, 0, 0, 0);
        g.fire(0, 1, 18);
        Due.state("made", () -> g.bestFire(0));
        FlushGarden green = withered();
        Due.state("green", () -> green.bestFire(0));
        FlushGarden wet = grown(9);
        wet.pluck(0, 3, 9);
        wet.wither(0, 1, 3);
        wet.wither(0, 1, 2);
        wet.roll(0, 5);
        lot("a large wet one", wet, 0, 1, 90 + 72 + 54, 54, 362);
        Due.is("heat 2: 12 a minute, 362 to 2 in 30", wet.bestFire(0), 230);
        wet.fire(0, 5, 1);
        Due.is("heat 2: 347 to 0 in 29", wet.bestFire(0), 229);
    }

    /** 196 units with the water 385: heat 3 leaves 25 behind 30 minutes. */
    private static FlushGarden hotOnly() {
        FlushGarden g = grown(9);
        g.pass(5, 0, 1);
        g.pluck(0, 3, 5);
        g.wither(0, 4, 1);
        g.roll(0, 5);
        lot("hot only", g, 0, 1, 196, 0, 385, 4, 5);
        return g;
    }

    private static void promise30Hot() {
        FlushGarden g = hotOnly();
        Due.is("all notes 0 but BRISK, in 29 minutes of 13", g.bestFire(0), 429);
        for (int i = 0; i < 8; i++) {
            g.roll(0, 5);
        }
        g.rest(0, 15, 4);
        Due.is("less CASE by the heat 5, in 27 minutes of 14", g.bestFire(0), 527);
        g.fire(0, 5, 27);
        notes("22 less 14", g, 0, 8, 0 + 4 - 3, 0);
    }

    private static void promise30None() {
        FlushGarden g = new FlushGarden();
        g.section(9, 0);
        g.pass(5, 0, 15);
        g.pluck(0, 3, 9);
        g.pluck(0, 3, 9);
        g.join(0, 1);
        g.wither(0, 4, 1);
        g.roll(0, 1);
        lot("too wet", g, 0, 1, 720, 0, 1416);
        Due.is("heat 5: 41 a minute, 186 left over", g.bestFire(0), -1);
        g.fire(0, 5, 4);
        Due.is("heat 5: 1252 to 22 in 30", g.bestFire(0), 530);
    }

    public static void main(String[] args) {
        promise7();
        promise7Cannot();
        promise8();
        promise9();
        promise10();
        promise11();
        promise12Arguments();
        promise12();
        promise12Case();
        promise13();
        promise13Shares();
        promise13Rows();
        promise13Bounds();
        promise14Arguments();
        promise14();
        promise14Notes();
        promise22();
        promise23();
        promise23Rows();
        promise23Ox();
        promise30();
        promise30Hot();
        promise30None();
        Due.end();
    }
}
