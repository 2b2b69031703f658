/** Promises 1 to 6, 21 and 29: sections of bushes, and what becomes of them. */
public final class SectionsTest {
    private static final int SAP = 2;
    private static final int REST = 3;
    private static final int BLIGHT = 4;
    private static final int POISON = 5;
    private static final int SIZE_0 = 6;
    private static final int SIZE_1 = 7;
    private static final int SIZE_2 = 8;
    private static final int SIZE_3 = 9;
    private static final int HARD = 10;

    private static FlushGarden garden(int area, int shade) {
        FlushGarden g = new FlushGarden();
        g.section(area, shade);
        return g;
    }

    private static void section(String when, FlushGarden g, int section, int... want) {
        for (int what = 0; what < want.length; what++) {
            Due.is(when + ": ofSection(" + section + ", " + what + ")", g.ofSection(section, what), want[what]);
        }
    }

    private static void promise1() {
        FlushGarden g = new FlushGarden();
        for (int what = 0; what <= 14; what++) {
            Due.is("new: many(" + what + ")", g.many(what), 0);
        }
        Due.index("new: ofSection", () -> g.ofSection(0, 0));
        Due.index("new: ofLot", () -> g.ofLot(0, 0));
        Due.isDouble("new: meanNotes", g.meanNotes(), 0.0);
    }

    private static void promise2() {
        FlushGarden g = new FlushGarden();
        Due.argument("section(0, 0)", () -> g.section(0, 0));
        Due.argument("section(10, 0)", () -> g.section(10, 0));
        Due.argument("section(1, -1)", () -> g.section(1, -1));
        Due.argument("section(1, 3)", () -> g.section(1, 3));
        Due.is("section(1, 0)", g.section(1, 0), 0);
        Due.is("section(9, 2)", g.section(9, 2), 1);
        Due.is("section(5, 1)", g.section(5, 1), 2);
        Due.is("section(5, 2)", g.section(5, 2), 3);
        section("told", g, 1, 9, 2, 0, 0, 0, 0, 0, 0, 0, 0, 0);
        Due.state("a fifth section", () -> g.section(1, 0));
        Due.argument("a fifth one with a wrong area", () -> g.section(0, 0));
        Due.is("many(0)", g.many(0), 4);
    }

    private static void promise3Arguments() {
        FlushGarden g = garden(3, 1);
        Due.argument("pass(-1, 0, 1)", () -> g.pass(-1, 0, 1));
        Due.argument("pass(7, 0, 1)", () -> g.pass(7, 0, 1));
        Due.argument("pass(0, -1, 1)", () -> g.pass(0, -1, 1));
        Due.argument("pass(0, 7, 1)", () -> g.pass(0, 7, 1));
        Due.argument("pass(0, 0, 0)", () -> g.pass(0, 0, 0));
        Due.argument("pass(0, 0, 31)", () -> g.pass(0, 0, 31));
        Due.is("NOW", g.many(1), 0);
        Due.is("pass(0, 0, 30)", g.pass(0, 0, 30), 0);
        Due.is("NOW", g.many(1), 30);
        Due.is("without sections", new FlushGarden().pass(6, 6, 1), 0);
    }

    private static void promise3Growth() {
        FlushGarden g = garden(3, 2);
        Due.is("warmth below the shade", g.pass(1, 0, 1), 0);
        Due.is("SAP", g.ofSection(0, SAP), 0);
        g.pass(3, 0, 1);
        Due.is("SAP of warmth 3 less shade 2", g.ofSection(0, SAP), 1);
        g.pass(0, 2, 1);
        Due.is("SAP of wet 2", g.ofSection(0, SAP), 3);
        Due.is("wet 6 counts 3", g.pass(0, 6, 1), 1);
        section("one flush", g, 0, 3, 2, 1, 0, 1, 0, 6, 0, 0, 0, 0);
        FlushGarden twice = garden(2, 0);
        twice.pass(4, 0, 1);
        Due.is("SAP 4 and 9", twice.pass(6, 3, 1), 2);
        section("two flushes", twice, 0, 2, 0, 3, 0, 0, 0, 4, 4, 0, 0, 0);
        FlushGarden many = garden(1, 0);
        many.section(2, 0);
        Due.is("five days, two sections", many.pass(5, 0, 5), 10);
        section("all sizes", many, 0, 1, 0, 0, 0, 0, 0, 2, 2, 2, 2, 2);
        Due.is("a sixth and a seventh day", many.pass(5, 0, 2), 4);
        section("more hard ones", many, 1, 2, 0, 0, 0, 0, 0, 4, 4, 4, 4, 12);
    }

    private static void promise3Blight() {
        FlushGarden g = garden(4, 1);
        g.pass(0, 3, 1);
        Due.is("wet 3 and shade 1", g.ofSection(0, BLIGHT), 0);
        FlushGarden sick = garden(4, 1);
        sick.pass(3, 4, 2);
        section("blight 2", sick, 0, 4, 1, 0, 0, 2, 0, 8, 8, 0, 0, 0);
        sick.pass(3, 4, 1);
        section("blight 3 halves", sick, 0, 4, 1, 0, 0, 3, 0, 4, 8, 8, 0, 0);
        sick.pass(6, 0, 1);
        section("blight 2 again", sick, 0, 4, 1, 0, 0, 2, 0, 8, 4, 8, 8, 0);
        sick.pass(0, 0, 3);
        Due.is("BLIGHT is 0 at least", sick.ofSection(0, BLIGHT), 0);
    }

    private static void promise3RestAndPoison() {
        FlushGarden g = garden(1, 0);
        g.pass(4, 5, 1);
        g.prune(0);
        g.spray(0);
        Due.is("days of rest", g.pass(6, 6, 4), 0);
        section("rested", g, 0, 1, 0, 0, 0, 0, 0, 0, 0, 0, 0, 0);
        Due.is("a day behind the rest", g.pass(6, 6, 1), 1);
        g.spray(0);
        g.pass(0, 0, 2);
        Due.is("POISON", g.ofSection(0, POISON), 1);
        g.pass(0, 0, 2);
        Due.is("POISON is 0 at least", g.ofSection(0, POISON), 0);
    }

    private static void promise4() {
        FlushGarden g = garden(2, 1);
        g.pass(4, 6, 6);
        section("before", g, 0, 2, 1, 1, 0, 6, 0, 2, 2, 2, 2, 10);
        Due.index("prune(-1)", () -> g.prune(-1));
        Due.index("prune(1)", () -> g.prune(1));
        g.spray(0);
        g.pass(0, 4, 1);
        Due.is("prune(0)", g.prune(0), 18);
        section("pruned", g, 0, 2, 1, 0, 4, 0, 2, 0, 0, 0, 0, 0);
        g.pass(0, 0, 1);
        Due.is("prune(0) again", g.prune(0), 0);
        Due.is("REST is 4 again", g.ofSection(0, REST), 4);
    }

    private static void promise5() {
        FlushGarden g = garden(2, 0);
        g.section(1, 2);
        g.pass(0, 4, 3);
        Due.index("spray(-1)", () -> g.spray(-1));
        Due.index("spray(2)", () -> g.spray(2));
        Due.is("BLIGHT of wet 4, shade 0", g.spray(0), 0);
        Due.is("BLIGHT of wet 4, shade 2", g.spray(1), 3);
        Due.is("BLIGHT then", g.ofSection(1, BLIGHT), 0);
        Due.is("POISON then", g.ofSection(1, POISON), 3);
        Due.is("SAP stays", g.ofSection(1, SAP), 4);
    }

    private static void promise6Arguments() {
        FlushGarden g = garden(1, 0);
        g.pass(5, 0, 2);
        Due.index("pluck(-1, 1, 1)", () -> g.pluck(-1, 1, 1));
        Due.index("pluck(1, 0, 0)", () -> g.pluck(1, 0, 0));
        Due.argument("pluck(0, 0, 1)", () -> g.pluck(0, 0, 1));
        Due.argument("pluck(0, 4, 1)", () -> g.pluck(0, 4, 1));
        Due.argument("pluck(0, 1, 0)", () -> g.pluck(0, 1, 0));
        Due.argument("pluck(0, 1, 10)", () -> g.pluck(0, 1, 10));
        Due.state("none of the size 2", () -> g.pluck(0, 3, 1));
        g.pass(5, 0, 1);
        Due.is("pluck(0, 2, 9)", g.pluck(0, 2, 9), 0);
        Due.state("none any more", () -> g.pluck(0, 2, 9));
        Due.is("MONEY", g.many(6), -18);
    }

    private static void promise6Order() {
        FlushGarden g = garden(3, 0);
        g.pass(5, 0, 5);
        section("before", g, 0, 3, 0, 0, 0, 0, 0, 6, 6, 6, 6, 6);
        Due.is("hard ones first", g.pluck(0, 3, 1), 0);
        section("hard ones, then 3", g, 0, 3, 0, 0, 0, 0, 0, 6, 6, 6, 4, 0);
        Due.is("DRY", g.ofLot(0, 1), 6 * 5 + 2 * 4);
        Due.is("FINE", g.ofLot(0, 2), 0);
        Due.is("the size 3, then 2", g.pluck(0, 2, 1), 1);
        section("3, then 2", g, 0, 3, 0, 0, 0, 0, 0, 6, 6, 2, 0, 0);
        Due.is("DRY", g.ofLot(1, 1), 4 * 4 + 4 * 3);
        Due.is("FINE", g.ofLot(1, 2), 12);
        g.pass(5, 0, 2);
        Due.is("the size 2 alone", g.pluck(0, 1, 9), 2);
        section("2 alone", g, 0, 3, 0, 0, 0, 0, 0, 6, 6, 0, 6, 2);
        Due.is("DRY", g.ofLot(2, 1), 18);
        Due.is("hard ones, 3, nothing of 2", g.pluck(0, 3, 9), 3);
        Due.is("DRY", g.ofLot(3, 1), 2 * 5 + 6 * 4);
        Due.is("MONEY", g.many(6), -2 * (1 + 1 + 9 + 9));
        Due.is("UNITS that were PLUCKED", g.many(9), 38 + 28 + 18 + 34);
    }

    private static void promise6Lot() {
        FlushGarden g = garden(1, 0);
        g.section(2, 0);
        g.pass(5, 0, 3);
        g.spray(1);
        g.pluck(1, 2, 1);
        int[] want = {0, 12, 12, 36, 0, 0, 0, 0, 0, -1, 0, 1, 0, 0, 0, 12, 0, 0};
        for (int what = 0; what < want.length; what++) {
            Due.is("ofLot(0, " + what + ")", g.ofLot(0, what), want[what]);
        }
        g.pass(5, 0, 3);
        g.pluck(1, 1, 1);
        Due.is("POISON is gone", g.ofLot(1, 11), 0);
        FlushGarden last = garden(1, 0);
        last.pass(2, 6, 5);
        section("one of each", last, 0, 1, 0, 0, 0, 5, 0, 1, 1, 1, 2, 2);
        last.spray(0);
        last.pass(0, 0, 2);
        Due.is("one alone", last.pluck(0, 1, 1), 0);
        Due.is("DRY of one", last.ofLot(0, 1), 3);
        Due.is("POISON is 1 still", last.ofLot(0, 11), 1);
        FlushGarden all = garden(9, 0);
        all.pass(5, 0, 30);
        for (int lot = 0; lot < 16; lot++) {
            Due.is("a lot of 16", all.pluck(0, 3, 1), lot);
        }
        Due.state("a lot beyond 16", () -> all.pluck(0, 3, 1));
        Due.is("LOTS ever", all.many(2), 16);
        Due.is("MONEY", all.many(6), -32);
    }

    private static void promise21() {
        FlushGarden g = garden(7, 2);
        Due.index("ofSection(-1, 0)", () -> g.ofSection(-1, 0));
        Due.index("ofSection(1, 99)", () -> g.ofSection(1, 99));
        Due.argument("ofSection(0, -1)", () -> g.ofSection(0, -1));
        Due.argument("ofSection(0, 11)", () -> g.ofSection(0, 11));
        g.pass(6, 3, 4);
        Due.is("blight", g.ofSection(0, BLIGHT), 4);
        g.spray(0);
        g.pass(1, 1, 1);
        section("grown", g, 0, 7, 2, 4, 0, 0, 2, 7, 7, 7, 14, 14);
        Due.is("size 0", g.ofSection(0, SIZE_0), 7);
        Due.is("size 1", g.ofSection(0, SIZE_1), 7);
        Due.is("size 2", g.ofSection(0, SIZE_2), 7);
        Due.is("size 3", g.ofSection(0, SIZE_3), 14);
        Due.is("hard", g.ofSection(0, HARD), 14);
    }

    private static void promise29() {
        FlushGarden g = garden(1, 1);
        Due.index("flushIn(1, 0, 0)", () -> g.flushIn(1, 9, 9));
        Due.index("flushIn(-1, 0, 0)", () -> g.flushIn(-1, 0, 0));
        Due.argument("flushIn(0, -1, 0)", () -> g.flushIn(0, -1, 0));
        Due.argument("flushIn(0, 7, 0)", () -> g.flushIn(0, 7, 0));
        Due.argument("flushIn(0, 0, -1)", () -> g.flushIn(0, 0, -1));
        Due.argument("flushIn(0, 0, 7)", () -> g.flushIn(0, 0, 7));
        Due.is("no sap at all", g.flushIn(0, 1, 0), -1);
        Due.is("1 a day", g.flushIn(0, 2, 0), 5);
        Due.is("8 a day", g.flushIn(0, 6, 6), 1);
        g.pass(5, 0, 1);
        Due.is("SAP 4, 1 a day", g.flushIn(0, 0, 1), 1);
        g.prune(0);
        Due.is("4 days of rest, then 5", g.flushIn(0, 0, 1), 9);
        Due.is("4 days of rest, then 1", g.flushIn(0, 6, 0), 5);
        g.pass(0, 0, 1);
        Due.is("3 days of rest, then 5", g.flushIn(0, 0, 1), 8);
        section("nothing is changed", g, 0, 1, 1, 0, 3, 0, 0, 0, 0, 0, 0, 0);
        Due.is("NOW", g.many(1), 2);
    }

    public static void main(String[] args) {
        promise1();
        promise2();
        promise3Arguments();
        promise3Growth();
        promise3Blight();
        promise3RestAndPoison();
        promise4();
        promise5();
        promise6Arguments();
        promise6Order();
        promise6Lot();
        promise21();
        promise29();
        Due.end();
    }
}
