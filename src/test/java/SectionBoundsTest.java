import java.io.IOException;

/** The boundaries of promises 1 to 6, 21 and 29: sections, and what is plucked of them. */
public final class SectionBoundsTest {
    private static final int SAP = 2;
    private static final int REST = 3;
    private static final int BLIGHT = 4;
    private static final int POISON = 5;
    private static final int SIZE_0 = 6;
    private static final int HARD = 10;

    private static final int DRY = 1;
    private static final int FINE = 2;
    private static final int TAINTED = 11;
    private static final int MONEY = 6;

    private static FlushGarden one(int area, int shade) {
        FlushGarden g = new FlushGarden();
        g.section(area, shade);
        return g;
    }

    // ---- promise 1

    @Says("Creates a garden without SECTIONS.")
    static void promise01_empty() {
        FlushGarden g = new FlushGarden();
        Due.is("SECTIONS", g.many(0), 0);
        Due.index("the section 0", () -> g.ofSection(0, 0));
        Due.is("no section flushes", g.pass(6, 6, 30), 0);
        g.section(1, 0);
        Due.is("the section 0 then", g.ofSection(0, 0), 1);
    }

    @Says("An object is used for at most 512 calls after it has been made")
    static void promise01_512Calls() {
        FlushGarden g = one(9, 0);
        long flushes = 0;
        for (int call = 0; call < 490; call++) {
            flushes += g.pass(6, 3, 30);
        }
        Due.is("9 sap a day, 14700 days", flushes, 26460);
        Due.is("NOW", g.many(1), 14700);
        Gardens.section("490 months", g, 0, 9, 0, 0, 0, 0, 0, 18, 18, 18, 18, 18 * 26456);
        Due.is("PRUNED", g.prune(0), 18 * 26460);
        FlushGarden rich = new FlushGarden();
        for (int call = 1; call < 512; call++) {
            rich.purse(3, 9999);
        }
        Due.is("the last one", rich.purse(3, 9999), 512 * 9999);
    }

    // ---- promise 2

    @Says("area is not 1 to 9")
    static void promise02_area1To9() {
        Bounds.argument("section(x, 2)", FlushGarden::new, 1, 9, (g, x) -> {
            Due.is("number", g.section(x, 2), 0);
            Due.is("AREA", g.ofSection(0, 0), x);
        });
    }

    @Says("shade not 0 to 2")
    static void promise02_shade0To2() {
        Bounds.argument("section(9, x)", FlushGarden::new, 0, 2, (g, x) -> {
            Due.is("number", g.section(9, x), 0);
            Due.is("SHADE", g.ofSection(0, 1), x);
        });
    }

    @Says({"SECTIONS: at most 4, numbered from 0", "there are 4"})
    static void promise02_4AtMost() {
        FlushGarden g = new FlushGarden();
        for (int section = 0; section < 4; section++) {
            Due.is("number", g.section(9 - section, 0), section);
            Due.is("SECTIONS", g.many(0), section + 1);
        }
        Due.state("a fifth one", () -> g.section(1, 0));
        Due.is("SECTIONS", g.many(0), 4);
        Due.is("the last one", g.ofSection(3, 0), 6);
    }

    @Says("each with an AREA (1 to 9) and SHADE (0 to 2), SAP (0), REST (0), BLIGHT (0), POISON (0), "
        + "and SHOOTS of the sizes 0 to 3, and HARD ones (0 of each).")
    static void promise02_allElse0() {
        FlushGarden g = one(9, 2);
        Gardens.section("the first one", g, 0, 9, 2, 0, 0, 0, 0, 0, 0, 0, 0, 0);
        g.pass(6, 6, 30);
        g.spray(0);
        g.section(1, 0);
        Gardens.section("a later one", g, 1, 1, 0, 0, 0, 0, 0, 0, 0, 0, 0, 0);
    }

    // ---- promise 3

    @Says({"warmth or wet is not 0 to 6", "A DAY has WARMTH and WET (0 to 6 each)."})
    static void promise03_warmth0To6() {
        int[] sap = {0, 1, 2, 3, 4, 0, 1};
        Bounds.argument("pass(x, 0, 1)", () -> one(1, 0), 0, 6, (g, x) -> {
            Due.is("FLUSHES of the warmth " + x, g.pass(x, 0, 1), x < 5 ? 0 : 1);
            Due.is("SAP of the warmth " + x, g.ofSection(0, SAP), sap[x]);
        });
    }

    @Says({"warmth or wet is not 0 to 6", "A DAY has WARMTH and WET (0 to 6 each)."})
    static void promise03_wet0To6() {
        int[] sap = {0, 1, 2, 3, 3, 3, 3};
        Bounds.argument("pass(0, x, 1)", () -> one(1, 0), 0, 6, (g, x) -> {
            Due.is("FLUSHES of the wet " + x, g.pass(0, x, 1), 0);
            Due.is("SAP of the wet " + x, g.ofSection(0, SAP), sap[x]);
        });
    }

    @Says("days not 1 to 30")
    static void promise03_days1To30() {
        Bounds.argument("pass(5, 0, x)", () -> one(1, 0), 1, 30, (g, x) -> {
            Due.is("FLUSHES in days: " + x, g.pass(5, 0, x), x);
            Due.is("NOW", g.many(1), x);
        });
    }

    @Says("NOW is 0 at first, and 1 more with each DAY.")
    static void promise03_now() {
        FlushGarden g = new FlushGarden();
        Due.is("NOW at first", g.many(1), 0);
        g.pass(0, 0, 1);
        Due.is("NOW, a day later", g.many(1), 1);
        g.pass(0, 0, 30);
        Due.is("NOW, 30 days later", g.many(1), 31);
        g.section(1, 0);
        g.section(1, 0);
        g.pass(0, 0, 2);
        Due.is("NOW is not by sections", g.many(1), 33);
    }

    @Says("SECTION by SECTION: POISON is 1 less, if it is above 0.")
    static void promise03_poisonAbove0() {
        FlushGarden g = Gardens.sections(2);
        g.spray(1);
        g.prune(1);
        for (int poison : new int[] {2, 1, 0, 0}) {
            g.pass(0, 0, 1);
            Due.is("POISON", g.ofSection(1, POISON), poison);
            Due.is("POISON of another one", g.ofSection(0, POISON), 0);
        }
    }

    @Says("If REST is above 0, it is 1 less, and that is all.")
    static void promise03_restAbove0() {
        FlushGarden g = one(1, 2);
        g.pass(0, 2, 1);
        g.prune(0);
        for (int rest : new int[] {3, 2, 1, 0}) {
            Due.is("no FLUSH", g.pass(6, 6, 1), 0);
            Gardens.section("rested", g, 0, 1, 2, 0, rest, 0, 0, 0, 0, 0, 0, 0);
        }
        Due.is("behind the REST", g.pass(6, 6, 1), 1);
        Gardens.section("grown", g, 0, 1, 2, 2, 0, 1, 0, 2, 0, 0, 0, 0);
    }

    @Says("Otherwise BLIGHT is 1 more, if WET and SHADE together are 5 or more")
    static void promise03_blightFrom5() {
        int[] firstWet = {5, 4, 3};
        for (int shade = 0; shade <= 2; shade++) {
            for (int wet = 0; wet <= 6; wet++) {
                FlushGarden g = one(1, shade);
                g.pass(0, wet, 1);
                String told = "BLIGHT of the shade " + shade + " and the wet " + wet;
                Due.is(told, g.ofSection(0, BLIGHT), wet < firstWet[shade] ? 0 : 1);
                g.pass(0, wet, 3);
                Due.is(told + ", 3 days later", g.ofSection(0, BLIGHT), wet < firstWet[shade] ? 0 : 4);
            }
        }
    }

    @Says("and 1 less (0 at least), if not")
    static void promise03_blight0AtLeast() {
        FlushGarden g = one(1, 2);
        g.pass(0, 3, 2);
        for (int blight : new int[] {1, 0, 0, 0}) {
            g.pass(0, 2, 1);
            Due.is("BLIGHT", g.ofSection(0, BLIGHT), blight);
        }
    }

    @Says("SAP is more by WARMTH less SHADE (0 at least)")
    static void promise03_warmthLessShade() {
        int[][] sap = {{0, 1, 2, 3, 4}, {0, 0, 1, 2, 3, 4}, {0, 0, 0, 1, 2, 3, 4}};
        for (int shade = 0; shade <= 2; shade++) {
            for (int warmth = 0; warmth < sap[shade].length; warmth++) {
                FlushGarden g = one(1, shade);
                g.pass(warmth, 0, 1);
                Due.is("SAP of the shade " + shade + " and the warmth " + warmth, g.ofSection(0, SAP), sap[shade][warmth]);
            }
        }
        FlushGarden dark = one(1, 2);
        dark.pass(0, 2, 1);
        Due.is("less than 0 takes nothing from WET", dark.ofSection(0, SAP), 2);
    }

    @Says("and by WET (3 at most)")
    static void promise03_wet3AtMost() {
        for (int wet = 0; wet <= 6; wet++) {
            FlushGarden g = one(1, 0);
            g.pass(1, wet, 1);
            Due.is("SAP of the wet " + wet, g.ofSection(0, SAP), wet < 3 ? 1 + wet : 4);
        }
    }

    @Says("as long as SAP is 5 or more, it FLUSHES: SAP is 5 less")
    static void promise03_flushesFrom5() {
        flushRow(0, 0, 4, 0, 0, 4);
        flushRow(0, 0, 5, 0, 1, 0);
        flushRow(0, 0, 6, 0, 1, 1);
        flushRow(0, 0, 6, 3, 1, 4);
        flushRow(1, 0, 6, 3, 2, 0);
        flushRow(4, 0, 6, 3, 2, 3);
        flushRow(4, 0, 0, 0, 0, 4);
        flushRow(4, 0, 1, 0, 1, 0);
    }

    /** A day, then another one: how often it flushes, and the sap behind it. */
    private static void flushRow(int warmth, int wet, int then, int wetThen, int flushes, int sap) {
        FlushGarden g = one(2, 0);
        g.pass(warmth, wet, 1);
        String told = warmth + ", then " + then + " and " + wetThen;
        Due.is("FLUSHES of " + told, g.pass(then, wetThen, 1), flushes);
        Due.is("SAP of " + told, g.ofSection(0, SAP), sap);
        Due.is("size 0 of " + told, g.ofSection(0, SIZE_0), flushes > 0 ? 4 : 0);
        Due.is("size 1 of " + told, g.ofSection(0, SIZE_0 + 1), flushes > 1 ? 4 : 0);
        Due.is("size 2 of " + told, g.ofSection(0, SIZE_0 + 2), 0);
    }

    @Says("SHOOTS of the size 3 are HARD, others are a size greater, and there are 2 times the AREA of the size 0")
    static void promise03_hardFromSize3() {
        FlushGarden g = one(9, 2);
        int[][] sizes = {{18, 0, 0, 0, 0}, {18, 18, 0, 0, 0}, {9, 18, 18, 0, 0}, {9, 9, 18, 18, 0}, {9, 9, 9, 18, 18},
            {9, 9, 9, 9, 36}, {9, 9, 9, 9, 45}};
        for (int day = 0; day < sizes.length; day++) {
            g.pass(4, 3, 1);
            int[] want = sizes[day];
            Gardens.section("day " + day, g, 0, 9, 2, 0, 0, day + 1, 0, want[0], want[1], want[2], want[3], want[4]);
        }
    }

    @Says("(half of that, if BLIGHT is 3 or more)")
    static void promise03_halfFromBlight3() {
        for (int area = 1; area <= 9; area++) {
            FlushGarden g = one(area, 2);
            int[] grown = {2 * area, 2 * area, area, area};
            for (int day = 0; day < 4; day++) {
                g.pass(4, 3, 1);
                Due.is("of the area " + area + " and the blight " + (day + 1), g.ofSection(0, SIZE_0), grown[day]);
            }
            g.pass(6, 1, 1);
            Due.is("of the blight 3 again", g.ofSection(0, SIZE_0), area);
            g.pass(6, 1, 1);
            Due.is("of the blight 2 again", g.ofSection(0, SIZE_0), 2 * area);
        }
    }

    @Says("Returns how often SECTIONS FLUSHED.")
    static void promise03_allFlushes() {
        for (int count = 0; count <= 4; count++) {
            FlushGarden g = new FlushGarden();
            for (int section = 0; section < count; section++) {
                g.section(1, 0);
            }
            Due.is("none of the sap 4, sections: " + count, g.pass(4, 0, 1), 0);
            Due.is("5 sap of 9 a day and 4, sections: " + count, g.pass(6, 3, 30), 54 * count);
        }
    }

    // ---- promises 4 and 5

    @Says("there is no such SECTION")
    static void promise04_noSuchSection() {
        for (int count : new int[] {0, 1, 4}) {
            Bounds.index("prune(x) of " + count, () -> Gardens.sections(count), 0, count - 1, FlushGarden::prune);
        }
    }

    @Says({"To PRUNE: all its SHOOTS, HARD ones, too, are gone, SAP and BLIGHT are 0, REST is 4.",
        "Returns how many SHOOTS went, HARD ones, too."})
    static void promise04_emptyAndFull() {
        FlushGarden g = one(9, 2);
        Due.is("none at first", g.prune(0), 0);
        Due.is("REST", g.ofSection(0, REST), 4);
        g.pass(0, 0, 3);
        Due.is("none in the last day of REST", g.prune(0), 0);
        Due.is("REST anew", g.ofSection(0, REST), 4);
        g.pass(0, 0, 4);
        g.pass(6, 3, 4);
        g.spray(0);
        g.pass(6, 3, 1);
        Gardens.section("before", g, 0, 9, 2, 0, 0, 1, 2, 18, 18, 9, 9, 45);
        Due.is("all of them", g.prune(0), 99);
        Gardens.section("behind", g, 0, 9, 2, 0, 4, 0, 2, 0, 0, 0, 0, 0);
        g.pass(0, 0, 4);
        g.pass(2, 2, 1);
        Due.is("SAP", g.ofSection(0, SAP), 2);
        g.prune(0);
        Due.is("SAP is gone", g.ofSection(0, SAP), 0);
        g.pass(0, 0, 4);
        g.pass(5, 3, 1);
        Due.is("the first ones", g.prune(0), 18);
    }

    @Says("there is no such SECTION")
    static void promise05_noSuchSection() {
        for (int count : new int[] {0, 1, 4}) {
            Bounds.index("spray(x) of " + count, () -> Gardens.sections(count), 0, count - 1, FlushGarden::spray);
        }
    }

    @Says({"To SPRAY: BLIGHT is 0, POISON is 3.", "Returns the BLIGHT before."})
    static void promise05_blight0AndMore() {
        FlushGarden g = one(1, 2);
        Due.is("BLIGHT before", g.spray(0), 0);
        Due.is("POISON", g.ofSection(0, POISON), 3);
        g.pass(0, 3, 1);
        Due.is("BLIGHT before", g.spray(0), 1);
        Due.is("BLIGHT", g.ofSection(0, BLIGHT), 0);
        Due.is("POISON of 2 is 3", g.ofSection(0, POISON), 3);
        Due.is("sprayed again", g.spray(0), 0);
        Due.is("POISON of 3 is 3", g.ofSection(0, POISON), 3);
        g.pass(0, 6, 30);
        Due.is("BLIGHT before", g.spray(0), 30);
        Due.is("POISON of 0 is 3", g.ofSection(0, POISON), 3);
    }

    // ---- promise 6

    @Says("there is no such SECTION")
    static void promise06_noSuchSection() {
        Bounds.index("pluck(x, 3, 9) of 0", FlushGarden::new, 0, -1, (g, x) -> g.pluck(x, 3, 9));
        Bounds.index("pluck(x, 3, 9) of 1", () -> Gardens.grown(1), 0, 0, (g, x) -> g.pluck(x, 3, 9));
        Bounds.index("pluck(x, 3, 9) of 4", () -> Gardens.grown(1, 2, 3, 4), 0, 3, (g, x) -> {
            g.pluck(x, 3, 9);
            Due.is("UNITS of the section " + x, g.ofLot(0, 14 + x), 24 * (x + 1));
        });
    }

    @Says({"standard is not 1 to 3", "To PLUCK by a STANDARD (1 to 3)"})
    static void promise06_standard1To3() {
        int[] dry = {0, 6, 14, 24};
        Bounds.argument("pluck(0, x, 9)", () -> Gardens.grown(1), 1, 3, (g, x) -> {
            g.pluck(0, x, 9);
            Due.is("DRY of the standard " + x, g.ofLot(0, DRY), dry[x]);
        });
    }

    @Says({"hands not 1 to 9", "with HANDS (1 to 9)"})
    static void promise06_hands1To9() {
        Bounds.argument("pluck(0, 3, x)", () -> Gardens.green(0), 1, 9, (g, x) -> {
            g.pluck(0, 3, x);
            Due.is("HARD ones of the hands " + x, g.ofLot(0, DRY), 40 * x);
        });
    }

    @Says("there were 16 LOTS")
    static void promise06_16Lots() {
        FlushGarden g = Gardens.green(2);
        g.join(0, 1);
        for (int lot = 2; lot < 16; lot++) {
            Due.is("a gone one counts, too", g.pluck(0, 3, 1), lot);
        }
        Due.state("a lot beyond 16", () -> g.pluck(0, 3, 1));
        Due.is("LOTS ever", g.many(2), 16);
        Due.is("HARD ones", g.ofSection(0, HARD), 288 - 16 * 8);
    }

    @Says("none may be taken")
    static void promise06_noneMayBeTaken() {
        FlushGarden young = one(1, 0);
        young.pass(5, 0, 2);
        Gardens.section("sizes 0 and 1 alone", young, 0, 1, 0, 0, 0, 0, 0, 2, 2, 0, 0, 0);
        for (int standard = 1; standard <= 3; standard++) {
            int by = standard;
            Due.state("none by the standard " + by, () -> young.pluck(0, by, 9));
        }
        FlushGarden g = Gardens.grown(1);
        Due.is("two of the size 2", g.pluck(0, 1, 1), 0);
        Due.state("none of the size 2", () -> g.pluck(0, 1, 1));
        Due.is("two of the size 3", g.pluck(0, 2, 1), 1);
        Due.state("none of the sizes 3 and 2", () -> g.pluck(0, 2, 1));
        Due.is("two hard ones", g.pluck(0, 3, 1), 2);
        Due.state("none of all three", () -> g.pluck(0, 3, 1));
        Gardens.section("sizes 0 and 1 are left", g, 0, 1, 0, 0, 0, 0, 0, 2, 2, 0, 0, 0);
        FlushGarden one = Gardens.blighted(1);
        Due.is("one alone", one.pluck(0, 1, 9), 0);
        Due.state("not one", () -> one.pluck(0, 1, 9));
    }

    @Says("those that may be taken are, of 1 the size 2; of 2 the size 3, then 2; of 3 HARD ones, then 3, then 2")
    static void promise06_order() {
        plucked("2 of the size 2", Gardens.grown(1), 1, 1, 2, 2, 0);
        plucked("6 of the size 3, 2 of 2", Gardens.grown(3), 2, 1, 6, 0, 4);
        plucked("8 of the size 3, none of 2", Gardens.grown(4), 2, 1, 8, 0, 8);
        plucked("8 of the size 3, none of 2", Gardens.grown(5), 2, 1, 10, 2, 10);
        plucked("6 hard ones, 2 of the size 3", Gardens.grown(3), 3, 1, 0, 4, 6);
        plucked("8 hard ones, none of the size 3", Gardens.grown(4), 3, 1, 0, 8, 8);
        plucked("8 of 10 hard ones", Gardens.grown(5), 3, 1, 2, 10, 10);
        plucked("6 hard ones, 6 of 3, 4 of 2", Gardens.grown(3), 3, 2, 0, 0, 2);
        plucked("8 hard ones, 8 of 3, none of 2", Gardens.grown(4), 3, 2, 0, 0, 8);
    }

    /** What is left of the hard ones and the sizes 3 and 2 behind a plucking. */
    private static void plucked(String told, FlushGarden g, int standard, int hands, int hard, int old, int young) {
        int before = g.ofSection(0, 9);
        g.pluck(0, standard, hands);
        Due.is(told + ": HARD", g.ofSection(0, HARD), hard);
        Due.is(told + ": size 3", g.ofSection(0, 9), old);
        Due.is(told + ": size 2", g.ofSection(0, 8), young);
        Due.is(told + ": size 1", g.ofSection(0, 7), before);
        Due.is(told + ": size 0", g.ofSection(0, 6), before);
    }

    @Says("at most 8 times the HANDS, in that order.")
    static void promise06_8TimesTheHands() {
        for (int area = 7; area <= 9; area++) {
            FlushGarden g = Gardens.blighted(area);
            g.pluck(0, 1, 1);
            Due.is("left of " + area, g.ofSection(0, 8), area < 9 ? 0 : 1);
            Due.is("taken of " + area, g.ofLot(0, DRY), area < 9 ? 3 * area : 24);
            FlushGarden two = Gardens.grown(area);
            two.pluck(0, 1, 2);
            Due.is("left of " + 2 * area, two.ofSection(0, 8), area < 9 ? 0 : 2);
        }
        FlushGarden exact = Gardens.grown(9);
        exact.pass(5, 0, 3);
        exact.pluck(0, 3, 9);
        Gardens.section("72 hard ones", exact, 0, 9, 0, 0, 0, 0, 0, 18, 18, 18, 18, 0);
        FlushGarden less = Gardens.grown(9);
        less.pass(5, 0, 2);
        less.pluck(0, 3, 9);
        Gardens.section("54 hard ones, 18 of the size 3", less, 0, 9, 0, 0, 0, 0, 0, 18, 18, 18, 0, 0);
        FlushGarden more = Gardens.grown(9);
        more.pass(5, 0, 4);
        more.pluck(0, 3, 9);
        Gardens.section("72 of 90 hard ones", more, 0, 9, 0, 0, 0, 0, 0, 18, 18, 18, 18, 18);
    }

    @Says("A SHOOT of the size 2 has 3 UNITS, of 3 4, a HARD one 5. They are a LOT.")
    static void promise06_units() {
        FlushGarden g = Gardens.blighted(1);
        g.pluck(0, 1, 1);
        Gardens.lot("a shoot of the size 2", g, 0, 0, 3, 3, 9, 0, 0, 0, 0, 0, -1, 0, 0, 0, 0, 3, 0, 0, 0);
        g.pluck(0, 2, 1);
        Gardens.lot("a shoot of the size 3", g, 1, 0, 4, 0, 12, 0, 0, 0, 0, 0, -1, 0, 0, 0, 0, 4, 0, 0, 0);
        g.pluck(0, 3, 1);
        Gardens.lot("4 hard ones", g, 2, 0, 20, 0, 60, 0, 0, 0, 0, 0, -1, 0, 0, 0, 0, 20, 0, 0, 0);
        FlushGarden all = Gardens.grown(1, 1);
        all.pluck(1, 3, 1);
        Gardens.lot("2 of each", all, 0, 0, 24, 6, 72, 0, 0, 0, 0, 0, -1, 0, 0, 0, 0, 0, 24, 0, 0);
    }

    @Says("LOTS: at most 16 ever, numbered from 0, each in a STATE: 0 GREEN, 1 ROLLED, 2 MADE, 3 GONE, with DRY (UNITS), "
        + "of each SECTION so many; FINE (those UNITS of it that were of the size 2), WATER (3 times DRY at first), CHEM, "
        + "BREAK, OX, CASE, BURN (0 at first), a GRADE (NONE), KILLED or not")
    static void promise06_lotAtFirst() {
        FlushGarden g = Gardens.grown(9, 9, 9, 9);
        for (int lot = 0; lot < 16; lot++) {
            int section = lot % 4;
            Due.is("number", g.pluck(section, 2, 1), lot);
            int young = lot < 8 ? 0 : lot < 12 ? 6 : 8;
            int dry = young * 3 + (8 - young) * 4;
            Gardens.lot("at first", g, lot, 0, dry, young * 3, dry * 3, 0, 0, 0, 0, 0, -1, 0, 0, 0, 0);
            for (int of = 0; of < 4; of++) {
                Due.is("UNITS of the section " + of, g.ofLot(lot, 14 + of), of == section ? dry : 0);
            }
        }
    }

    @Says("TAINTED or not (it is, if POISON was above 0 as it was PLUCKED).")
    static void promise06_taintedByPoison() {
        FlushGarden g = Gardens.grown(9);
        g.pluck(0, 3, 1);
        Due.is("never sprayed", g.ofLot(0, TAINTED), 0);
        g.spray(0);
        for (int poison = 3; poison >= 0; poison--) {
            int lot = g.pluck(0, 3, 1);
            Due.is("the POISON " + poison, g.ofLot(lot, TAINTED), poison > 0 ? 1 : 0);
            g.pass(0, 0, 1);
        }
        Due.is("TAINTED still", g.ofLot(1, TAINTED), 1);
        g.spray(0);
        Due.is("sprayed later", g.ofLot(0, TAINTED), 0);
    }

    @Says("MONEY of the garden is 0 at first; each of the HANDS of a PLUCKING costs 2, idle or not.")
    static void promise06_idleHands() {
        for (int hands = 1; hands <= 9; hands++) {
            FlushGarden g = Gardens.grown(1);
            Due.is("MONEY at first", g.many(MONEY), 0);
            g.pluck(0, 1, hands);
            Due.is("MONEY behind hands: " + hands, g.many(MONEY), -2 * hands);
            Due.is("FINE", g.ofLot(0, FINE), 6);
        }
    }

    // ---- promises 21 and 29

    @Says("there is no such SECTION")
    static void promise21_noSuchSection() {
        for (int count : new int[] {0, 1, 4}) {
            Bounds.index("ofSection(x, 0) of " + count, () -> Gardens.sections(count), 0, count - 1,
                (g, x) -> Due.is("AREA", g.ofSection(x, 0), x + 1));
        }
    }

    @Says("what is not 0 to 10")
    static void promise21_what0To10() {
        int[] grown = {9, 2, 4, 0, 1, 0, 18, 9, 2, 0, 45};
        Bounds.argument("ofSection(0, x)", () -> {
            FlushGarden g = Gardens.blighted(9);
            g.pluck(0, 1, 1);
            g.spray(0);
            g.pass(4, 3, 1);
            g.pluck(0, 2, 1);
            g.pass(2, 3, 1);
            g.pass(3, 0, 1);
            return g;
        }, 0, 10, (g, x) -> Due.is("ofSection(0, " + x + ")", g.ofSection(0, x), grown[x]));
        int[] resting = {7, 1, 0, 3, 0, 2, 0, 0, 0, 0, 0};
        Bounds.argument("ofSection(0, x) of a pruned one", () -> {
            FlushGarden g = one(7, 1);
            g.prune(0);
            g.spray(0);
            g.pass(6, 6, 1);
            return g;
        }, 0, 10, (g, x) -> Due.is("ofSection(0, " + x + ") of a pruned one", g.ofSection(0, x), resting[x]));
    }

    @Says("there is no such SECTION")
    static void promise29_noSuchSection() {
        for (int count : new int[] {0, 1, 4}) {
            Bounds.index("flushIn(x, 5, 3) of " + count, () -> Gardens.sections(count), 0, count - 1,
                (g, x) -> Due.is("in days", g.flushIn(x, 5, 3), 1));
        }
    }

    @Says("warmth or wet is not 0 to 6")
    static void promise29_warmth0To6() {
        int[] days = {-1, 5, 3, 2, 2, 1, 1};
        Bounds.argument("flushIn(0, x, 0)", () -> one(1, 0), 0, 6,
            (g, x) -> Due.is("in days of the warmth " + x, g.flushIn(0, x, 0), days[x]));
    }

    @Says("warmth or wet is not 0 to 6")
    static void promise29_wet0To6() {
        int[] days = {-1, 5, 3, 2, 2, 2, 2};
        Bounds.argument("flushIn(0, 0, x)", () -> one(1, 0), 0, 6,
            (g, x) -> Due.is("in days of the wet " + x, g.flushIn(0, 0, x), days[x]));
    }

    @Says("Returns behind how many DAYS like that it would FLUSH first; NONE, if not within 30.")
    static void promise29_firstFlushOrNone() {
        for (int shade = 0; shade <= 2; shade++) {
            FlushGarden g = one(1, shade);
            Due.is("warmth as the shade " + shade, g.flushIn(0, shade, 0), -1);
            Due.is("warmth above the shade " + shade, g.flushIn(0, shade + 1, 0), 5);
        }
        FlushGarden g = one(1, 0);
        g.prune(0);
        for (int rest = 4; rest >= 0; rest--) {
            Due.is("no sap ever, REST " + rest, g.flushIn(0, 0, 0), -1);
            Due.is("sap 1 a day, REST " + rest, g.flushIn(0, 1, 0), rest + 5);
            Due.is("sap 9 a day, REST " + rest, g.flushIn(0, 6, 3), rest + 1);
            g.pass(0, 0, 1);
        }
        for (int sap = 1; sap <= 4; sap++) {
            g.pass(1, 0, 1);
            Due.is("the sap " + sap, g.flushIn(0, 0, 1), 5 - sap);
            Due.is("the sap " + sap + " stays", g.flushIn(0, 0, 0), -1);
        }
        long before = g.digest();
        g.flushIn(0, 6, 6);
        Due.is("nothing is changed", g.digest(), before);
    }

    public static void main(String[] args) throws IOException, IllegalAccessException {
        Bounds.run(SectionBoundsTest.class);
    }
}
