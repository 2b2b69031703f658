/** Promises 15 to 20, 24 to 28, 31 and 32: tasters, the market, and what one asks of both. */
public final class MarketTest {
    /** Lot 0 of section 0, made: 54 units, all fine, with the notes 5, 8 and 5. */
    private static FlushGarden made() {
        FlushGarden g = new FlushGarden();
        g.section(9, 0);
        g.section(5, 0);
        g.pass(5, 0, 5);
        g.pluck(0, 1, 9);
        g.wither(0, 4, 3);
        g.roll(0, 5);
        g.roll(0, 5);
        g.rest(0, 5, 4);
        g.fire(0, 2, 13);
        return g;
    }

    /** That lot, and lot 1 of section 1: 120 units with the notes 0, 4 and 6. */
    private static FlushGarden twoMade() {
        FlushGarden g = made();
        g.pluck(1, 3, 9);
        g.wither(1, 20, 3);
        g.kill(1);
        g.roll(1, 2);
        g.fire(1, 3, 10);
        return g;
    }

    private static void notes(String when, FlushGarden g, int lot, int body, int brisk, int aroma) {
        Due.is(when + ": BODY of " + lot, g.note(lot, 0), body);
        Due.is(when + ": BRISK of " + lot, g.note(lot, 1), brisk);
        Due.is(when + ": AROMA of " + lot, g.note(lot, 2), aroma);
    }

    private static void promise15() {
        FlushGarden g = new FlushGarden();
        Due.index("lean(-1, 0)", () -> g.lean(-1, 0));
        Due.index("lean(3, 9)", () -> g.lean(3, 9));
        Due.argument("lean(0, -3)", () -> g.lean(0, -3));
        Due.argument("lean(0, 3)", () -> g.lean(0, 3));
        Due.is("lean(2, -2)", g.lean(2, -2), 0);
        Due.is("lean(2, 2)", g.lean(2, 2), -2);
        Due.is("lean(2, 0)", g.lean(2, 0), 2);
        Due.is("lean(0, 1), of another one", g.lean(0, 1), 0);
    }

    private static void promise16Arguments() {
        FlushGarden g = made();
        g.pluck(0, 3, 1);
        Due.index("repeat(-1, 0)", () -> g.repeat(-1, 0));
        Due.index("repeat(3, 1)", () -> g.repeat(3, 1));
        Due.index("repeat(0, 2)", () -> g.repeat(0, 2));
        Due.index("repeat(0, -1)", () -> g.repeat(0, -1));
        Due.state("green", () -> g.repeat(0, 1));
        Due.is("no repeats by these", g.ofTaster(0, 1), 0);
        Due.is("without a lean", g.repeat(0, 0), 0);
    }

    private static void promise16() {
        FlushGarden g = twoMade();
        notes("the second one", g, 1, 0, 4, 6);
        g.lean(0, 2);
        Due.is("7 9 7: 5 of 3", g.repeat(0, 0), 2);
        g.lean(0, -1);
        Due.is("4 7 4: 2 of 6", g.repeat(0, 0), 0);
        g.lean(0, 1);
        Due.is("6 9 6: 5 of 9", g.repeat(0, 0), 1);
        g.lean(0, -2);
        Due.is("0 2 4: 1 of 12", g.repeat(0, 1), 0);
        Due.is("-3 of 15", g.repeat(0, 1), 0);
        Due.is("3 6 3: -9 of 18, a half", g.repeat(0, 0), -1);
        Due.is("how many", g.ofTaster(0, 1), 6);
        g.lean(1, 1);
        g.repeat(1, 0);
        g.lean(1, 0);
        Due.is("3 of 6, a half", g.repeat(1, 0), 1);
        Due.is("3 of 9", g.repeat(1, 0), 0);
        g.lean(2, -1);
        Due.is("-3 of 3", g.repeat(2, 0), -1);
    }

    private static void promise17() {
        FlushGarden g = new FlushGarden();
        Due.index("purse(-1, 1)", () -> g.purse(-1, 1));
        Due.index("purse(4, 0)", () -> g.purse(4, 0));
        Due.argument("purse(0, 0)", () -> g.purse(0, 0));
        Due.argument("purse(0, 10000)", () -> g.purse(0, 10000));
        Due.is("purse(3, 9999)", g.purse(3, 9999), 9999);
        Due.is("purse(3, 1)", g.purse(3, 1), 10000);
        Due.is("purse(0, 5)", g.purse(0, 5), 5);
        Due.is("many(14)", g.many(14), 10000);
    }

    private static void promise18() {
        FlushGarden g = twoMade();
        g.pluck(0, 3, 1);
        Due.index("offer(3, 0)", () -> g.offer(3, 0));
        Due.index("offer(-1, 1)", () -> g.offer(-1, 1));
        Due.argument("offer(0, 0)", () -> g.offer(0, 0));
        Due.argument("offer(2, 100)", () -> g.offer(2, 100));
        Due.state("green", () -> g.offer(2, 1));
        Due.is("offer(0, 99)", g.offer(0, 99), 1);
        Due.is("offer(1, 1)", g.offer(1, 1), 2);
        g.bid(2, 0, 7);
        Due.is("anew", g.offer(0, 5), 2);
        Due.is("another RESERVE", g.ofLot(0, 13), 5);
        Due.is("its BIDS stay", g.bidOf(2, 0), 7);
        Due.is("STATE", g.ofLot(0, 0), 2);
    }

    private static void promise19() {
        FlushGarden g = twoMade();
        Due.index("bid(-1, 0, 1)", () -> g.bid(-1, 0, 1));
        Due.index("bid(4, 0, 1)", () -> g.bid(4, 0, 1));
        Due.index("bid(0, 2, 0)", () -> g.bid(0, 2, 0));
        Due.index("bid(0, -1, 1)", () -> g.bid(0, -1, 1));
        Due.argument("bid(0, 0, 0)", () -> g.bid(0, 0, 0));
        Due.argument("bid(0, 0, 100)", () -> g.bid(0, 0, 100));
        Due.state("not offered", () -> g.bid(0, 0, 1));
        g.offer(0, 50);
        g.offer(1, 50);
        Due.is("bid(0, 0, 1), below the RESERVE", g.bid(0, 0, 1), 1);
        Due.is("bid(3, 0, 99)", g.bid(3, 0, 99), 2);
        Due.is("bid(0, 0, 2), the older one is gone", g.bid(0, 0, 2), 2);
        Due.is("bid(0, 1, 3), for another one", g.bid(0, 1, 3), 1);
        Due.is("bidOf(0, 0)", g.bidOf(0, 0), 2);
        Due.is("bidOf(0, 1)", g.bidOf(0, 1), 3);
    }

    private static void promise20() {
        FlushGarden g = made();
        Due.index("knock(1)", () -> g.knock(1));
        Due.index("knock(-1)", () -> g.knock(-1));
        Due.state("not offered", () -> g.knock(0));
        g.offer(0, 10);
        Due.is("without a BID", g.knock(0), -1);
        Due.state("offered no more", () -> g.knock(0));
        Due.is("MADE still", g.ofLot(0, 0), 2);
        g.offer(0, 10);
        g.bid(0, 0, 9);
        g.purse(0, 9999);
        Due.is("below the RESERVE", g.knock(0), -1);
        Due.is("the BID is gone", g.bidOf(0, 0), -1);
        Due.is("PURSE", g.many(11), 9999);
        g.offer(0, 10);
        Due.is("that BID is none any more", g.bid(1, 0, 11), 1);
        g.purse(1, 58);
        Due.is("11 * 54 / 10 is 59", g.knock(0), -1);
        g.offer(0, 10);
        g.bid(1, 0, 11);
        g.purse(1, 1);
        int money = g.many(6);
        Due.is("wouldPay the RESERVE alone", g.wouldPay(0), 54);
        Due.is("a PURSE of 59", g.knock(0), 1);
        Due.is("PURSE", g.many(12), 5);
        Due.is("MONEY", g.many(6), money + 54);
        Due.is("LOTS that were sold", g.many(7), 1);
        Due.is("UNITS that were sold", g.many(10), 54);
        Due.is("GONE", g.ofLot(0, 0), 3);
        Due.is("DRY", g.ofLot(0, 1), 0);
        Due.is("RESERVE", g.ofLot(0, 13), 0);
        Due.is("bidOf(1, 0)", g.bidOf(1, 0), -1);
        Due.state("a gone one is not offered", () -> g.offer(0, 1));
    }

    private static void promise20Price() {
        FlushGarden g = made();
        for (int buyer = 0; buyer < 4; buyer++) {
            g.purse(buyer, 300);
        }
        g.offer(0, 10);
        g.bid(0, 0, 20);
        g.bid(1, 0, 30);
        g.bid(2, 0, 9);
        Due.is("1 more than 20", g.wouldPay(0), 21 * 54 / 10);
        g.bid(3, 0, 30);
        Due.is("no more than 30", g.wouldPay(0), 30 * 54 / 10);
        g.bid(3, 0, 29);
        Due.is("1 more than 29", g.wouldPay(0), 30 * 54 / 10);
        g.bid(3, 0, 60);
        Due.is("324 is not in its PURSE", g.wouldPay(0), 21 * 54 / 10);
        g.bid(3, 0, 55);
        Due.is("297 is", g.wouldPay(0), 31 * 54 / 10);
        g.offer(0, 31);
        Due.is("one above the RESERVE", g.wouldPay(0), 31 * 54 / 10);
        g.offer(0, 30);
        Due.is("a BID as the RESERVE", g.wouldPay(0), 31 * 54 / 10);
        g.bid(3, 0, 40);
        g.bid(1, 0, 40);
        Due.is("the first of two", g.knock(0), 3);
        Due.is("PURSE", g.many(14), 300 - 216);
        Due.is("PURSE of the other one", g.many(12), 300);
    }

    private static void promise20Order() {
        FlushGarden g = made();
        for (int buyer = 0; buyer < 3; buyer++) {
            g.purse(buyer, 300);
        }
        g.offer(0, 1);
        g.bid(0, 0, 8);
        g.bid(2, 0, 8);
        g.bid(1, 0, 8);
        g.bid(0, 0, 8);
        Due.is("told anew it is behind", g.knock(0), 2);
        FlushGarden two = made();
        two.purse(0, 300);
        two.purse(1, 300);
        two.offer(0, 1);
        two.bid(0, 0, 8);
        two.bid(1, 0, 8);
        Due.is("the first of two alike", two.knock(0), 0);
        FlushGarden later = made();
        later.purse(0, 300);
        later.purse(1, 300);
        later.offer(0, 1);
        later.bid(1, 0, 7);
        later.bid(0, 0, 8);
        Due.is("the greater one, if later", later.knock(0), 0);
    }

    private static void promise24() {
        FlushGarden g = twoMade();
        Due.index("taste(2, 9)", () -> g.taste(2, 9));
        Due.index("taste(-1, 0)", () -> g.taste(-1, 0));
        Due.argument("taste(0, -1)", () -> g.taste(0, -1));
        Due.argument("taste(0, 3)", () -> g.taste(0, 3));
        g.pluck(0, 3, 1);
        Due.state("green", () -> g.taste(2, 0));
        for (int note = 0; note < 3; note++) {
            Due.is("as it is", g.taste(0, note), g.note(0, note));
        }
        g.lean(0, 2);
        g.lean(1, 1);
        Due.is("7 6 5", g.taste(0, 0), 6);
        Due.is("9 9 8", g.taste(0, 1), 8);
        Due.is("2 1 0", g.taste(1, 0), 1);
        g.lean(1, -2);
        g.lean(2, -2);
        Due.is("7 3 3", g.taste(0, 0), 4);
        Due.is("2 0 0", g.taste(1, 0), 0);
        g.repeat(0, 0);
        Due.is("7 less 2, 3, 3", g.taste(0, 0), 3);
        g.repeat(1, 0);
        g.repeat(2, 0);
        Due.is("5 5 5", g.taste(0, 0), 5);
        Due.is("9 less 2, 6 and 2, 6 and 2", g.taste(0, 1), 23 / 3);
        g.lean(0, -2);
        g.lean(1, -2);
        g.lean(2, 2);
        Due.is("0 less 2, 0 and 2, 2 and 2", g.taste(1, 0), 4 / 3);
        g.lean(2, -2);
        Due.is("0 less 2, 2, 2", g.taste(1, 0), 0);
    }

    private static void promise24Held() {
        FlushGarden g = made();
        for (int taster = 0; taster < 3; taster++) {
            g.lean(taster, -2);
            g.repeat(taster, 0);
            g.lean(taster, 2);
        }
        Due.is("9 and 2, of all three", g.taste(0, 1), 9);
        FlushGarden low = twoMade();
        for (int taster = 0; taster < 3; taster++) {
            low.lean(taster, 2);
            low.repeat(taster, 0);
            low.lean(taster, -2);
        }
        Due.is("0 less 2, of all three", low.taste(1, 0), 0);
    }

    private static void promise25() {
        FlushGarden g = made();
        Due.index("ofTaster(-1, 0)", () -> g.ofTaster(-1, 0));
        Due.index("ofTaster(3, 2)", () -> g.ofTaster(3, 2));
        Due.argument("ofTaster(0, -1)", () -> g.ofTaster(0, -1));
        Due.argument("ofTaster(0, 2)", () -> g.ofTaster(0, 2));
        g.lean(1, -2);
        Due.is("the LEAN is not seen", g.ofTaster(1, 0), 0);
        g.repeat(1, 0);
        g.repeat(1, 0);
        Due.is("GUESS", g.ofTaster(1, 0), -2);
        Due.is("REPEATS", g.ofTaster(1, 1), 2);
        Due.is("REPEATS of another one", g.ofTaster(2, 1), 0);
    }

    private static void promise26() {
        FlushGarden g = made();
        Due.index("bidOf(-1, 0)", () -> g.bidOf(-1, 0));
        Due.index("bidOf(4, 0)", () -> g.bidOf(4, 0));
        Due.index("bidOf(0, -1)", () -> g.bidOf(0, -1));
        Due.index("bidOf(0, 1)", () -> g.bidOf(0, 1));
        Due.is("none", g.bidOf(3, 0), -1);
        g.offer(0, 9);
        g.bid(3, 0, 4);
        Due.is("a BID", g.bidOf(3, 0), 4);
        Due.is("of another one", g.bidOf(2, 0), -1);
    }

    private static void promise27() {
        FlushGarden g = twoMade();
        Due.argument("many(-1)", () -> g.many(-1));
        Due.argument("many(15)", () -> g.many(15));
        g.pluck(0, 3, 1);
        g.pluck(0, 3, 1);
        g.pluck(0, 3, 1);
        g.wither(4, 20, 3);
        g.roll(4, 1);
        g.offer(1, 2);
        for (int buyer = 0; buyer < 4; buyer++) {
            g.purse(buyer, 100 + buyer);
        }
        g.bid(0, 1, 3);
        g.knock(1);
        int[] want = {2, 5, 5, 2, 1, 1, -2 * (9 + 9 + 3) + 24, 1, 54 + 40 + 40 + 34, 54 + 120 + 40 + 40 + 34, 120,
            100 - 24, 101, 102, 103};
        for (int what = 0; what < want.length; what++) {
            Due.is("many(" + what + ")", g.many(what), want[what]);
        }
    }

    private static void promise27Sold() {
        FlushGarden g = twoMade();
        g.purse(0, 9999);
        for (int lot = 0; lot < 2; lot++) {
            g.offer(lot, 1);
            g.bid(0, lot, 1);
            g.knock(lot);
        }
        Due.is("LOTS that were sold", g.many(7), 2);
        Due.is("UNITS that were sold", g.many(10), 54 + 120);
        Due.is("PURSE", g.many(11), 9999 - 5 - 12);
    }

    /** Grade 2 of the break 1 is one unit. */
    private static void promise28OneUnit() {
        FlushGarden g = new FlushGarden();
        g.section(9, 0);
        g.pass(5, 0, 5);
        g.pluck(0, 1, 9);
        g.wither(0, 4, 3);
        g.roll(0, 1);
        g.fire(0, 1, 18);
        g.sort(0);
        g.purse(0, 9999);
        for (int lot = 1; lot < 3; lot++) {
            g.offer(lot, 1);
            g.bid(0, lot, 1);
            g.knock(lot);
        }
        Due.is("DRY of all LOTS", g.many(8), 1);
        Due.isDouble("2, 6 and 5", g.meanNotes(), 13.0);
    }

    private static void promise28() {
        FlushGarden g = twoMade();
        Due.isDouble("two made ones", g.meanNotes(), (54 * 18 + 120 * 10) / 174.0);
        g.pluck(0, 3, 9);
        Due.isDouble("a green one is not counted", g.meanNotes(), (54 * 18 + 120 * 10) / 174.0);
        g.offer(1, 1);
        Due.isDouble("an offered one is", g.meanNotes(), (54 * 18 + 120 * 10) / 174.0);
        g.bid(0, 1, 1);
        g.purse(0, 12);
        g.knock(1);
        Due.isDouble("a sold one is not", g.meanNotes(), 18.0);
        Due.isDouble("none", new FlushGarden().meanNotes(), 0.0);
    }

    private static void promise31() {
        FlushGarden g = twoMade();
        Due.argument("bestMix(-1, 0, 0)", () -> g.bestMix(-1, 0, 0));
        Due.argument("bestMix(10, 0, 0)", () -> g.bestMix(10, 0, 0));
        Due.argument("bestMix(0, -1, 0)", () -> g.bestMix(0, -1, 0));
        Due.argument("bestMix(0, 10, 0)", () -> g.bestMix(0, 10, 0));
        Due.argument("bestMix(0, 0, -1)", () -> g.bestMix(0, 0, -1));
        Due.argument("bestMix(0, 0, 10)", () -> g.bestMix(0, 0, 10));
        Due.is("(5 8 5) and (0 4 6): any", g.bestMix(0, 0, 0), 11);
        Due.is("4 tenths of BODY 5", g.bestMix(2, 0, 0), 14);
        Due.is("8 tenths of BRISK 8", g.bestMix(0, 7, 0), 18);
        Due.is("AROMA is below 6", g.bestMix(0, 0, 6), -1);
        Due.is("AROMA 5 of 9 tenths", g.bestMix(4, 7, 5), 18);
        Due.is("BODY 5 is not there", g.bestMix(5, 0, 0), -1);
        Due.is("BRISK 8 is not there", g.bestMix(0, 8, 0), -1);
        g.offer(0, 1);
        Due.is("one that is offered", g.bestMix(0, 0, 0), -1);
        g.knock(0);
        g.sort(0);
        notes("grade 2", g, 4, 7, 8, 5);
        Due.is("of 1 with 2, 3, 4: the second one as much as may be", g.bestMix(0, 0, 0), 1029);
        Due.is("2 and 3 are alike: the smallest number", g.bestMix(5, 8, 5), 2031);
        Due.is("a sum of 190 by 1 and 4, as by 2 and 4", g.bestMix(6, 0, 0), 1041);
        Due.is("BODY 6 and BRISK 8", g.bestMix(6, 8, 0), 2045);
        Due.is("many", g.many(2), 5);
        Due.is("none", new FlushGarden().bestMix(0, 0, 0), -1);
        Due.is("one alone", made().bestMix(0, 0, 0), -1);
    }

    private static void promise31Later() {
        FlushGarden g = made();
        g.sort(0);
        g.pluck(1, 3, 9);
        g.wither(4, 20, 3);
        g.kill(4);
        g.roll(4, 2);
        g.fire(4, 3, 10);
        notes("the last one", g, 4, 0, 4, 6);
        Due.is("a later pair has a smaller sum", g.bestMix(0, 0, 0), 1041);
        Due.is("7 tenths of (5 8 5)", g.bestMix(3, 0, 0), 1046);
        Due.is("3 tenths of grade 2 are less than 4 of the others", g.bestMix(2, 0, 0), 3043);
        g.mix(1, 1, 2, 1);
        for (int lot = 6; lot < 16; lot++) {
            g.mix(2, 1, 4, 1);
        }
        Due.is("16 lots", g.many(2), 16);
        Due.is("9 tenths of lot 4, which is the first one now", g.bestMix(0, 0, 0), 4069);
        Due.is("the two that are best", g.bestMix(0, 0, 6), -1);
        Due.isDouble("of 16, each by its DRY", g.meanNotes(), (18 * 13 + 18 * 16 + 20 * 13 + 10 * 110 + 18 * 2 + 10 * 2 * 13) / 174.0);
        Due.is("MADE ones", g.many(5), 15);
        Due.is("digest", g.digest(), g.digest());
    }

    private static void promise32() {
        FlushGarden g = made();
        Due.index("wouldPay(1)", () -> g.wouldPay(1));
        Due.index("wouldPay(-1)", () -> g.wouldPay(-1));
        Due.state("not offered", () -> g.wouldPay(0));
        g.offer(0, 3);
        Due.is("nobody", g.wouldPay(0), 0);
        g.bid(1, 0, 9);
        Due.is("an empty PURSE", g.wouldPay(0), 0);
        g.purse(1, 48);
        Due.is("3 * 54 / 10", g.wouldPay(0), 16);
        Due.is("OFFERED still", g.ofLot(0, 13), 3);
        Due.is("its BID is there still", g.bidOf(1, 0), 9);
        Due.is("PURSE", g.many(12), 48);
    }

    public static void main(String[] args) {
        promise15();
        promise16Arguments();
        promise16();
        promise17();
        promise18();
        promise19();
        promise20();
        promise20Price();
        promise20Order();
        promise24();
        promise24Held();
        promise25();
        promise26();
        promise27();
        promise27Sold();
        promise28();
        promise28OneUnit();
        promise31();
        promise31Later();
        promise32();
        Due.end();
    }
}
