import java.io.IOException;

/** The boundaries of promises 7 to 12: lots that are joined, withered, killed, rolled, rested and fired. */
public final class LotBoundsTest {
    private static final int STATE = 0;
    private static final int DRY = 1;
    private static final int WATER = 3;
    private static final int CHEM = 4;
    private static final int BREAK = 5;
    private static final int OX = 6;
    private static final int CASE = 7;
    private static final int BURN = 8;
    private static final int KILLED = 10;
    private static final int TAINTED = 11;

    private static final int ROLLED = 1;
    private static final int MADE = 2;
    private static final int GONE = 3;

    /** Lots of two shoots each: 0 of 6 units (the size 2), 1 of 8 (the size 3), 2 of 10 (hard ones). */
    private static FlushGarden pairs() {
        FlushGarden g = Gardens.grown(1);
        for (int standard = 1; standard <= 3; standard++) {
            g.pluck(0, standard, 1);
        }
        return g;
    }

    // ---- promise 7

    @Says("there is no such LOT, of both")
    static void promise07_noSuchLot() {
        Bounds.index("join(x, x) of 0", FlushGarden::new, 0, -1, (g, x) -> g.join(x, x));
        for (int count : new int[] {2, 3, 16}) {
            Bounds.index("join(x, ..) of " + count, () -> Gardens.green(count), 0, count - 1, (g, x) -> g.join(x, x == 0 ? 1 : 0));
            Bounds.index("join(.., x) of " + count, () -> Gardens.green(count), 0, count - 1, (g, x) -> g.join(x == 0 ? 1 : 0, x));
        }
    }

    @Says("both are the same")
    static void promise07_same() {
        FlushGarden g = Gardens.green(3);
        for (int lot = 0; lot < 3; lot++) {
            int same = lot;
            Due.argument("join(" + lot + ", " + lot + ")", () -> g.join(same, same));
        }
        Due.is("join(2, 1)", g.join(2, 1), 80);
        Due.argument("a gone one with itself", () -> g.join(1, 1));
    }

    @Says({"they cannot be JOINED", "JOINED: two GREEN ones"})
    static void promise07_bothGreen() {
        Bounds.state("join(x, 0) or join(7, 0)", (g, x) -> g.join(x == 0 ? 7 : x, 0), 0, 7);
        Bounds.state("join(0, x) or join(0, 7)", (g, x) -> g.join(0, x == 0 ? 7 : x), 0, 7);
        FlushGarden rolled = Gardens.rolled(2);
        Due.state("two ROLLED ones", () -> rolled.join(0, 1));
        FlushGarden made = Gardens.made(2);
        Due.state("two MADE ones", () -> made.join(0, 1));
    }

    @Says({"they cannot be JOINED", "with the same CHEM"})
    static void promise07_sameChem() {
        FlushGarden g = Gardens.green(2);
        g.wither(0, 1, 1);
        Due.state("the CHEM 1 and 0", () -> g.join(0, 1));
        Due.state("the CHEM 0 and 1", () -> g.join(1, 0));
        g.wither(1, 2, 1);
        Due.state("the CHEM 1 and 2", () -> g.join(0, 1));
        Due.state("the CHEM 2 and 1", () -> g.join(1, 0));
        g.wither(0, 1, 3);
        Due.is("the CHEM 2 and 2", g.join(0, 1), 80);
        Due.is("CHEM", g.ofLot(0, CHEM), 2);
    }

    @Says({"they cannot be JOINED", "that are both KILLED or both not"})
    static void promise07_bothKilledOrNot() {
        FlushGarden g = Gardens.green(3);
        g.kill(1);
        Due.state("the second one KILLED", () -> g.join(0, 1));
        Due.state("the first one KILLED", () -> g.join(1, 0));
        g.kill(0);
        Due.is("both KILLED", g.join(0, 1), 80);
        Due.is("KILLED", g.ofLot(0, KILLED), 1);
        Due.state("KILLED by that", () -> g.join(0, 2));
        FlushGarden neither = Gardens.green(2);
        neither.join(0, 1);
        Due.is("not KILLED", neither.ofLot(0, KILLED), 0);
    }

    @Says({"the second one is GONE, the first one has the DRY (by SECTIONS), FINE, WATER of both",
        "Returns the DRY of the first one then."})
    static void promise07_ofBoth() {
        FlushGarden g = Gardens.grown(1, 2);
        g.pluck(0, 2, 1);
        g.pluck(1, 1, 1);
        g.wither(0, 1, 3);
        g.wither(1, 1, 1);
        Due.is("DRY", g.join(1, 0), 26);
        Gardens.lot("the first one", g, 1, 0, 26, 18, 61, 1, 0, 0, 0, 0, -1, 0, 0, 0, 0, 14, 12, 0, 0);
        Gardens.lot("the second one", g, 0, GONE, 0, 6, 29, 1, 0, 0, 0, 0, -1, 0, 0, 0, 0, 0, 0, 0, 0);
    }

    @Says("and is TAINTED, if one was.")
    static void promise07_taintedIfOneWas() {
        for (int which = 0; which < 4; which++) {
            FlushGarden g = Gardens.grown(9, 9, 9);
            g.spray(0);
            g.pluck(which % 2, 3, 1);
            g.pluck(which / 2, 3, 1);
            String told = "TAINTED " + g.ofLot(0, TAINTED) + " and " + g.ofLot(1, TAINTED);
            g.join(0, 1);
            Due.is(told, g.ofLot(0, TAINTED), which == 3 ? 0 : 1);
            Due.is(told + ": the second one as it was", g.ofLot(1, TAINTED), which / 2 == 0 ? 1 : 0);
        }
    }

    // ---- promise 8

    @Says("there is no such LOT")
    static void promise08_noSuchLot() {
        for (int count : new int[] {0, 1, 16}) {
            Bounds.index("wither(x, 1, 1) of " + count, () -> Gardens.green(count), 0, count - 1, (g, x) -> g.wither(x, 1, 1));
        }
    }

    @Says("hours is not 1 to 20")
    static void promise08_hours1To20() {
        Bounds.argument("wither(0, x, 1)", () -> Gardens.green(1), 1, 20, (g, x) -> {
            g.wither(0, x, 1);
            Due.is("CHEM in hours: " + x, g.ofLot(0, CHEM), x);
        });
    }

    @Says({"air not 1 to 3", "with AIR (1 to 3)"})
    static void promise08_air1To3() {
        int[] water = {0, 120 - 12, 120 - 24, 120 - 36};
        Bounds.argument("wither(0, 1, x)", () -> Gardens.green(1), 1, 3,
            (g, x) -> Due.is("WATER by the air " + x, g.wither(0, 1, x), water[x]));
    }

    @Says({"it cannot be", "WITHERED (GREEN, not KILLED), hour by hour"})
    static void promise08_greenNotKilled() {
        Bounds.state("wither(x, 1, 1)", (g, x) -> g.wither(x, 1, 1), 0, 7);
    }

    @Says("WATER is less by WATER times AIR, and 9, together divided by 10")
    static void promise08_and9By10() {
        witherRow(2, 1, 27, 24, 21, 18, 16, 14, 12, 10);
        witherRow(2, 2, 24, 19, 15, 12);
        witherRow(2, 3, 21, 14, 10);
        witherRow(0, 1, 16, 14, 12, 10, 9, 8, 7, 6);
    }

    /** The water of a lot of each hour, and in one call for all of them. */
    private static void witherRow(int lot, int air, int... water) {
        FlushGarden g = pairs();
        for (int hour = 0; hour < water.length; hour++) {
            Due.is("the lot " + lot + " by the air " + air + ", hour " + hour, g.wither(lot, 1, air), water[hour]);
            Due.is("all at once", pairs().wither(lot, hour + 1, air), water[hour]);
        }
    }

    @Says("but not below DRY; CHEM is 1 more.")
    static void promise08_notBelowDry() {
        witherRow(0, 1, 16, 14, 12, 10, 9, 8, 7, 6, 6, 6);
        witherRow(2, 2, 24, 19, 15, 12, 10, 10);
        witherRow(0, 3, 12, 8, 6, 6);
        FlushGarden g = pairs();
        g.wither(0, 20, 3);
        Due.is("WATER as DRY", g.wither(0, 20, 3), 6);
        Due.is("CHEM is more all the same", g.ofLot(0, CHEM), 40);
    }

    // ---- promise 9

    @Says("there is no such LOT")
    static void promise09_noSuchLot() {
        for (int count : new int[] {0, 1, 16}) {
            Bounds.index("kill(x) of " + count, () -> Gardens.green(count), 0, count - 1, FlushGarden::kill);
        }
    }

    @Says({"it is not GREEN, or was KILLED", "it is not GREEN", "was KILLED"})
    static void promise09_greenNotKilled() {
        Bounds.state("kill(x)", FlushGarden::kill, 0, 7);
        FlushGarden g = Gardens.green(1);
        Due.is("WATER", g.kill(0), 96);
        Due.state("KILLED again", () -> g.kill(0));
        Due.is("WATER stays", g.ofLot(0, WATER), 96);
    }

    @Says({"KILLED (GREEN): WATER is less by WATER / 5", "what is divided is rounded down"})
    static void promise09_fifthRoundedDown() {
        int[] ofSix = {15, 13, 12, 10, 8, 8, 7, 6, 5};
        for (int hours = 0; hours < ofSix.length; hours++) {
            FlushGarden g = pairs();
            if (hours > 0) {
                g.wither(0, hours, 1);
            }
            Due.is("WATER of the hour " + hours, g.kill(0), ofSix[hours]);
        }
        int[] ofThree = {8, 7, 6, 5, 4, 4, 3};
        for (int hours = 0; hours < ofThree.length; hours++) {
            FlushGarden g = Gardens.blighted(1);
            g.pluck(0, 1, 1);
            if (hours > 0) {
                g.wither(0, hours, 1);
            }
            Due.is("WATER of 3 units, the hour " + hours, g.kill(0), ofThree[hours]);
        }
    }

    @Says("it is KILLED from then on.")
    static void promise09_fromThenOn() {
        FlushGarden g = Gardens.green(2);
        Due.is("not KILLED", g.ofLot(0, KILLED), 0);
        g.wither(0, 2, 3);
        g.kill(0);
        Due.is("KILLED", g.ofLot(0, KILLED), 1);
        Due.is("GREEN still", g.ofLot(0, STATE), 0);
        g.roll(0, 5);
        Due.is("KILLED as it is ROLLED", g.ofLot(0, KILLED), 1);
        g.fire(0, 1, 30);
        Due.is("KILLED as it is MADE", g.ofLot(0, KILLED), 1);
        g.sort(0);
        for (int lot = 2; lot < 5; lot++) {
            Due.is("KILLED as it is SORTED", g.ofLot(lot, KILLED), 1);
        }
        Due.is("another one is not", g.ofLot(1, KILLED), 0);
    }

    // ---- promise 10

    @Says("there is no such LOT")
    static void promise10_noSuchLot() {
        for (int count : new int[] {0, 1, 16}) {
            Bounds.index("roll(x, 1) of " + count, () -> Gardens.rolled(count), 0, count - 1, (g, x) -> g.roll(x, 1));
        }
    }

    @Says({"force is not 1 to 5", "with a FORCE (1 to 5)"})
    static void promise10_force1To5() {
        Bounds.argument("roll(0, x)", () -> Gardens.rolled(1), 1, 5, (g, x) -> Due.is("BREAK", g.roll(0, x), 5 + x));
    }

    @Says({"it cannot be", "ROLLED (GREEN or ROLLED)"})
    static void promise10_greenOrRolled() {
        Bounds.state("roll(x, 1)", (g, x) -> g.roll(x, 1), 0, 1, 2, 3, 7);
    }

    @Says({"it cannot be", "it has to have no more WATER than 2 times DRY"})
    static void promise10_waterOf2TimesDry() {
        FlushGarden g = pairs();
        Due.is("WATER of 10 units", g.wither(2, 3, 1), 21);
        Due.state("21 of 10", () -> g.roll(2, 1));
        Due.is("nothing is changed", g.ofLot(2, BREAK), 0);
        Due.is("18 of 10", g.wither(2, 1, 1), 18);
        Due.is("BREAK", g.roll(2, 1), 1);
        Due.is("WATER of 6 units", g.wither(0, 2, 1), 14);
        Due.state("14 of 6", () -> g.roll(0, 1));
        Due.is("12 of 6", g.wither(0, 1, 1), 12);
        Due.is("BREAK", g.roll(0, 1), 1);
        FlushGarden killed = pairs();
        killed.wither(2, 2, 1);
        Due.is("20 of 10", killed.kill(2), 20);
        Due.is("BREAK", killed.roll(2, 1), 1);
        FlushGarden wet = pairs();
        Due.state("3 times DRY", () -> wet.roll(0, 1));
        wet.wither(2, 1, 1);
        Due.is("22 of 10", wet.kill(2), 22);
        Due.state("22 of 10", () -> wet.roll(2, 1));
    }

    @Says({"BREAK is FORCE more; it is ROLLED.", "Returns BREAK then."})
    static void promise10_breakHasNoEnd() {
        FlushGarden g = Gardens.rolled(1);
        Due.is("ROLLED", g.ofLot(0, STATE), ROLLED);
        for (int times = 2; times <= 100; times++) {
            Due.is("BREAK", g.roll(0, 5), 5 * times);
        }
        Due.is("ROLLED", g.ofLot(0, STATE), ROLLED);
        Due.is("WATER stays", g.ofLot(0, WATER), 58);
    }

    // ---- promise 11

    @Says("there is no such LOT")
    static void promise11_noSuchLot() {
        for (int count : new int[] {0, 1, 16}) {
            Bounds.index("rest(x, 1, 1) of " + count, () -> Gardens.rolled(count), 0, count - 1, (g, x) -> g.rest(x, 1, 1));
        }
    }

    @Says("quarters is not 1 to 20")
    static void promise11_quarters1To20() {
        Bounds.argument("rest(0, x, 1)", () -> Gardens.rolled(1), 1, 20, (g, x) -> Due.is("OX", g.rest(0, x, 1), x));
    }

    @Says({"warmth not 1 to 4", "quarter by quarter with WARMTH (1 to 4)"})
    static void promise11_warmth1To4() {
        Bounds.argument("rest(0, 3, x)", () -> Gardens.rolled(1), 1, 4, (g, x) -> Due.is("OX", g.rest(0, 3, x), 3 * x));
    }

    @Says({"it cannot be", "RESTED (ROLLED, not KILLED)"})
    static void promise11_rolledNotKilled() {
        Bounds.state("rest(x, 1, 1)", (g, x) -> g.rest(x, 1, 1), 2);
    }

    @Says("OX is WARMTH more (60 at most).")
    static void promise11_60AtMost() {
        FlushGarden g = Gardens.rolled(3);
        Due.is("OX 40", g.rest(0, 20, 2), 40);
        Due.is("OX 59", g.rest(0, 19, 1), 59);
        Due.is("OX 59 and 1", g.rest(0, 1, 1), 60);
        Due.is("OX 60 and 1", g.rest(0, 1, 1), 60);
        Due.is("OX 60 and 80", g.rest(0, 20, 4), 60);
        Due.is("OX 60 at once", g.rest(1, 15, 4), 60);
        Due.is("OX 80 at once", g.rest(2, 20, 4), 60);
        FlushGarden over = Gardens.rolled(1);
        over.rest(0, 20, 2);
        over.rest(0, 19, 1);
        Due.is("OX 59 and 2", over.rest(0, 1, 2), 60);
        Due.is("as one asks", over.ofLot(0, OX), 60);
    }

    // ---- promise 12

    /** A lot of 40 units, the water 58, and one of 39 units, the water 56; heat 1 takes 3 and 2 a minute. */
    private static FlushGarden forty() {
        return Gardens.rolled(1);
    }

    private static FlushGarden thirtyNine() {
        FlushGarden g = Gardens.blighted(9, 4);
        g.pluck(0, 1, 9);
        g.pluck(1, 1, 9);
        g.join(0, 1);
        g.wither(0, 2, 3);
        g.roll(0, 5);
        return g;
    }

    @Says("there is no such LOT")
    static void promise12_noSuchLot() {
        for (int count : new int[] {0, 1, 16}) {
            Bounds.index("fire(x, 1, 1) of " + count, () -> Gardens.rolled(count), 0, count - 1, (g, x) -> g.fire(x, 1, 1));
        }
    }

    @Says({"heat is not 1 to 5", "minute by minute with HEAT (1 to 5)"})
    static void promise12_heat1To5() {
        Bounds.argument("fire(0, x, 1)", () -> Gardens.rolled(1), 1, 5,
            (g, x) -> Due.is("WATER by the heat " + x, g.fire(0, x, 1), 58 - 2 - x));
    }

    @Says("minutes not 1 to 30")
    static void promise12_minutes1To30() {
        Bounds.argument("fire(0, 1, x)", () -> Gardens.rolled(1), 1, 30,
            (g, x) -> Due.is("WATER in minutes: " + x, g.fire(0, 1, x), x < 20 ? 58 - 3 * x : 0));
    }

    @Says({"it cannot be", "FIRED (ROLLED)"})
    static void promise12_rolled() {
        Bounds.state("fire(x, 1, 1)", (g, x) -> g.fire(x, 1, 1), 2, 3);
    }

    @Says("if 20 times WATER is no more than DRY, BURN is HEAT more")
    static void promise12_burnOf20TimesWater() {
        FlushGarden g = forty();
        Due.is("a minute from 20 * 6 above 40", g.fire(0, 2, 14), 2);
        Due.is("BURN", g.ofLot(0, BURN), 0);
        for (int heat = 1; heat <= 5; heat++) {
            FlushGarden burnt = forty();
            burnt.fire(0, 1, 2);
            burnt.fire(0, 2, 12);
            Due.is("WATER", burnt.ofLot(0, WATER), 4);
            burnt.fire(0, heat, 2);
            Due.is("a minute from the water 4 and one from 0, the heat " + heat, burnt.ofLot(0, BURN), heat);
        }
        FlushGarden even = forty();
        even.fire(0, 2, 15);
        Due.is("a minute from 20 * 2 as 40", even.ofLot(0, BURN), 2);
        FlushGarden above = thirtyNine();
        Due.is("WATER", above.fire(0, 2, 18), 2);
        above.fire(0, 5, 1);
        Due.is("a minute from 20 * 2 above 39", above.ofLot(0, BURN), 0);
        FlushGarden twice = thirtyNine();
        twice.fire(0, 2, 21);
        Due.is("two minutes from the water 0", twice.ofLot(0, BURN), 4);
    }

    @Says("otherwise CASE is 1 more, if HEAT is 4 or more")
    static void promise12_caseFromHeat4() {
        for (int heat = 1; heat <= 5; heat++) {
            FlushGarden g = forty();
            g.fire(0, heat, 1);
            Due.is("CASE of the heat " + heat, g.ofLot(0, CASE), heat < 4 ? 0 : 1);
            Due.is("BURN", g.ofLot(0, BURN), 0);
        }
    }

    @Says("and WATER above DRY")
    static void promise12_caseOfWaterAboveDry() {
        FlushGarden even = forty();
        Due.is("WATER as DRY", even.fire(0, 1, 6), 40);
        even.fire(0, 4, 1);
        Due.is("CASE of 40", even.ofLot(0, CASE), 0);
        FlushGarden above = forty();
        above.fire(0, 2, 3);
        Due.is("WATER 1 above DRY", above.fire(0, 3, 1), 41);
        above.fire(0, 4, 1);
        Due.is("CASE of 41", above.ofLot(0, CASE), 1);
        above.fire(0, 5, 1);
        Due.is("CASE of 35", above.ofLot(0, CASE), 1);
        FlushGarden minutes = forty();
        minutes.fire(0, 4, 7);
        Due.is("58, 52, 46 are above, 40 and less are not", minutes.ofLot(0, CASE), 3);
    }

    @Says("then, in either case, WATER is less by HEAT, and by DRY / 20 (0 at least).")
    static void promise12_waterLess() {
        FlushGarden g = Gardens.blighted(5, 1);
        g.pluck(0, 1, 9);
        g.pluck(0, 2, 9);
        g.pluck(1, 1, 9);
        g.pluck(1, 2, 9);
        Due.is("15 and 4 units", g.join(0, 3), 19);
        for (int lot = 0; lot < 2; lot++) {
            g.wither(lot, 2, 3);
            g.roll(lot, 1);
        }
        Due.is("19 units, 27 less 1", g.fire(0, 1, 1), 26);
        Due.is("DRY", g.ofLot(1, DRY), 20);
        Due.is("20 units, 29 less 2", g.fire(1, 1, 1), 27);
        FlushGarden less = thirtyNine();
        Due.is("39 units, 56 less 2", less.fire(0, 1, 1), 54);
        FlushGarden zero = thirtyNine();
        Due.is("down to 2", zero.fire(0, 1, 27), 2);
        Due.is("2 less 2", zero.fire(0, 1, 1), 0);
        FlushGarden below = thirtyNine();
        Due.is("down to 2", below.fire(0, 1, 27), 2);
        Due.is("2 less 6", below.fire(0, 5, 1), 0);
        FlushGarden burnt = forty();
        Due.is("in a minute that burns, 2 less 3", burnt.fire(0, 2, 15), 0);
    }

    @Says("It is MADE behind the last minute, if 20 times WATER is no more than DRY; otherwise it is ROLLED still.")
    static void promise12_madeBehindTheLastMinute() {
        madeRow("20 * 6 above 40", forty(), 2, 13, 6, ROLLED);
        madeRow("20 * 2 as 40", forty(), 2, 14, 2, MADE);
        madeRow("20 * 1 below 40", forty(), 1, 19, 1, MADE);
        madeRow("20 * 2 above 39", thirtyNine(), 2, 18, 2, ROLLED);
        madeRow("0 below 39", thirtyNine(), 2, 19, 0, MADE);
        FlushGarden small = Gardens.blighted(5, 1);
        small.pluck(0, 1, 9);
        small.pluck(0, 2, 9);
        small.pluck(1, 2, 1);
        small.join(0, 2);
        for (int lot = 0; lot < 2; lot++) {
            small.wither(lot, 2, 3);
            small.roll(lot, 1);
        }
        Due.is("20 units", small.fire(1, 1, 14), 1);
        Due.is("20 * 1 as 20", small.ofLot(1, STATE), MADE);
    }

    private static void madeRow(String told, FlushGarden g, int heat, int minutes, int water, int state) {
        Due.is(told + ": WATER", g.fire(0, heat, minutes), water);
        Due.is(told + ": STATE", g.ofLot(0, STATE), state);
        Due.is(told + ": MADE ones", g.many(5), state == MADE ? 1 : 0);
        if (state == MADE) {
            Due.state(told + ": fired again", () -> g.fire(0, heat, 1));
        } else {
            g.fire(0, heat, 1);
            Due.is(told + ": a minute more", g.ofLot(0, STATE), MADE);
        }
    }

    public static void main(String[] args) throws IOException, IllegalAccessException {
        Bounds.run(LotBoundsTest.class);
    }
}
