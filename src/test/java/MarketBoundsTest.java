import java.io.IOException;
import java.math.BigInteger;

/** The boundaries of promises 15 to 20, 24 to 28, 32 and 33: tasters, the market, and what one asks of all. */
public final class MarketBoundsTest {
    private static final int STATE = 0;
    private static final int DRY = 1;
    private static final int RESERVE = 13;
    private static final int MONEY = 6;
    private static final int PURSES = 11;

    private static final int MADE = 2;
    private static final int GONE = 3;

    /** A lot of 40 units with the notes 5, 3 and 4, that no lean holds, and one of 54 with 9, 9 and 9. */
    private static FlushGarden twoNoted() {
        FlushGarden g = Gardens.grown(9, 9);
        g.pluck(0, 3, 1);
        g.wither(0, 8, 3);
        rollTo(g, 0, 10);
        g.rest(0, 5, 4);
        g.fire(0, 1, 13);
        g.pluck(1, 1, 9);
        g.wither(1, 12, 3);
        rollTo(g, 1, 18);
        g.rest(1, 15, 2);
        g.fire(1, 1, 18);
        Gardens.notes("of 40 units", g, 0, 5, 3, 4);
        Gardens.notes("of 54 units", g, 1, 9, 9, 9);
        return g;
    }

    private static void rollTo(FlushGarden g, int lot, int breaks) {
        for (int left = breaks; left > 0; left -= 5) {
            g.roll(lot, Math.min(5, left));
        }
    }

    /** A lot of the notes 0, 0 and 0, for tasters to tell too much of. */
    private static FlushGarden bitter() {
        FlushGarden g = Gardens.grown(9);
        g.spray(0);
        g.pluck(0, 3, 1);
        g.wither(0, 4, 3);
        g.roll(0, 1);
        g.fire(0, 5, 20);
        Gardens.notes("bitter", g, 0, 0, 0, 0);
        return g;
    }

    // ---- promise 15

    @Says("taster is not 0 to 2")
    static void promise15_taster0To2() {
        Bounds.index("lean(x, 1)", FlushGarden::new, 0, 2, (g, x) -> {
            Due.is("LEAN before", g.lean(x, 1), 0);
            for (int taster = 0; taster < 3; taster++) {
                Due.is("LEAN of " + taster, g.lean(taster, 0), taster == x ? 1 : 0);
            }
        });
    }

    @Says({"by is not -2 to 2", "TASTERS 0 to 2 each LEAN by -2 to 2 (0 at first)", "Returns that before."})
    static void promise15_by2Below0To2() {
        Bounds.argument("lean(1, x)", FlushGarden::new, -2, 2, (g, x) -> {
            Due.is("at first", g.lean(1, x), 0);
            Due.is("before", g.lean(1, 0), x);
        });
    }

    // ---- promise 16

    @Says("taster is not 0 to 2")
    static void promise16_taster0To2() {
        Bounds.index("repeat(x, 0)", () -> Gardens.made(1), 0, 2, (g, x) -> {
            g.repeat(x, 0);
            for (int taster = 0; taster < 3; taster++) {
                Due.is("REPEATS of " + taster, g.ofTaster(taster, 1), taster == x ? 1 : 0);
            }
        });
    }

    @Says("there is no such LOT")
    static void promise16_noSuchLot() {
        for (int count : new int[] {0, 1, 16}) {
            Bounds.index("repeat(2, x) of " + count, () -> Gardens.made(count), 0, count - 1, (g, x) -> g.repeat(2, x));
        }
    }

    @Says({"the LOT is not MADE", "as a TASTER REPEATS a LOT (any MADE one; its NOTES are known)"})
    static void promise16_made() {
        Bounds.state("repeat(0, x)", (g, x) -> g.repeat(0, x), 4, 5, 9, 10, 11, 12);
        FlushGarden g = Gardens.offered(1);
        Due.is("one that is OFFERED", g.repeat(0, 0), 0);
        Due.is("REPEATS", g.ofTaster(0, 1), 1);
    }

    /** A taster repeats the lot that no lean holds, leaning by each of these; the guess behind the last one. */
    private static void guess(int want, int... leans) {
        FlushGarden g = twoNoted();
        int answered = 0;
        int sum = 0;
        for (int lean : leans) {
            g.lean(1, lean);
            answered = g.repeat(1, 0);
            sum += 3 * lean;
        }
        Due.is("GUESS of " + sum + " by " + 3 * leans.length, answered, want);
        Due.is("as one asks", g.ofTaster(1, 0), want);
        Due.is("REPEATS", g.ofTaster(1, 1), leans.length);
    }

    @Says({"GUESSES (0 at first)", "divided by how many (3 for each REPEAT); to the nearer whole number (a half away from 0)."})
    static void promise16_nearerHalfAwayFrom0() {
        guess(0, 0);
        guess(1, 1);
        guess(-1, -1);
        guess(2, 2);
        guess(-2, -2);
        guess(1, 0, 1);
        guess(-1, 0, -1);
        guess(2, 1, 2);
        guess(-2, -1, -2);
        guess(0, 1, 0, 0);
        guess(0, -1, 0, 0);
        guess(1, 1, 1, 0);
        guess(-1, -1, -1, 0);
        guess(1, 2, 1, 1);
        guess(-1, -2, -1, -1);
        guess(2, 2, 2, 1);
        guess(1, 2, 0, 0, 0);
        guess(-1, -2, 0, 0, 0);
        guess(0, 2, 0, 0, 0, 0);
        guess(0, 2, -2);
    }

    @Says("the sum of what it told less what they were, over all three NOTES and all REPEATS of that TASTER ever")
    static void promise16_thirdsAndSixths() {
        FlushGarden g = Gardens.grown(9);
        g.pluck(0, 3, 1);
        g.wither(0, 4, 3);
        g.roll(0, 1);
        g.fire(0, 1, 13);
        Gardens.notes("two of them held by the LEAN -1", g, 0, 0, 1, 2);
        g.lean(0, -1);
        Due.is("-2 of 3", g.repeat(0, 0), -1);
        g.lean(0, 0);
        Due.is("-2 of 6", g.repeat(0, 0), 0);
        g.lean(1, -2);
        Due.is("-3 of 3", g.repeat(1, 0), -1);
        g.lean(1, 0);
        Due.is("-3 of 6", g.repeat(1, 0), -1);
        Due.is("-3 of 9", g.repeat(1, 0), 0);
        FlushGarden high = twoNoted();
        high.lean(2, 2);
        Due.is("0 of 3", high.repeat(2, 1), 0);
        Due.is("6 of 6", high.repeat(2, 0), 1);
        Due.is("6 of 9", high.repeat(2, 1), 1);
        Due.is("6 of 12", high.repeat(2, 1), 1);
        Due.is("6 of 15", high.repeat(2, 1), 0);
    }

    @Says("what one tells of a NOTE is that, and what it LEANS, held to 0 to 9.")
    static void promise16_toldHeld() {
        for (int lean = -2; lean <= 2; lean++) {
            FlushGarden low = bitter();
            low.lean(0, lean);
            Due.is("0 and the LEAN " + lean, low.repeat(0, 0), Math.max(0, lean));
            FlushGarden high = twoNoted();
            high.lean(0, lean);
            Due.is("9 and the LEAN " + lean, high.repeat(0, 1), Math.min(0, lean));
        }
    }

    // ---- promise 17

    @Says({"buyer is not 0 to 3", "BUYERS 0 to 3, each with a PURSE (0 at first)."})
    static void promise17_buyer0To3() {
        Bounds.index("purse(x, 7)", FlushGarden::new, 0, 3, (g, x) -> {
            Due.is("PURSE", g.purse(x, 7), 7);
            for (int buyer = 0; buyer < 4; buyer++) {
                Due.is("PURSE of " + buyer, g.many(PURSES + buyer), buyer == x ? 7 : 0);
            }
        });
    }

    @Says("more is not 1 to 9999")
    static void promise17_more1To9999() {
        Bounds.argument("purse(3, x)", FlushGarden::new, 1, 9999, (g, x) -> Due.is("PURSE", g.purse(3, x), x));
        FlushGarden g = new FlushGarden();
        g.purse(0, 9999);
        Due.is("a PURSE has no end", g.purse(0, 9999), 19998);
    }

    // ---- promise 18

    @Says("there is no such LOT")
    static void promise18_noSuchLot() {
        for (int count : new int[] {0, 1, 16}) {
            Bounds.index("offer(x, 1) of " + count, () -> Gardens.made(count), 0, count - 1, (g, x) -> g.offer(x, 1));
        }
    }

    @Says({"reserve is not 1 to 99", "with a RESERVE (1 to 99"})
    static void promise18_reserve1To99() {
        Bounds.argument("offer(0, x)", () -> Gardens.made(1), 1, 99, (g, x) -> {
            Due.is("OFFERED", g.offer(0, x), 1);
            Due.is("RESERVE", g.ofLot(0, RESERVE), x);
        });
    }

    @Says({"it is not MADE", "A MADE LOT can be OFFERED"})
    static void promise18_made() {
        Bounds.state("offer(x, 99)", (g, x) -> g.offer(x, 99), 4, 5, 9, 10, 11, 12);
    }

    @Says("anew with another one, its BIDS stay)")
    static void promise18_anew() {
        FlushGarden g = Gardens.made(2);
        g.purse(1, 99);
        g.offer(0, 9);
        g.bid(1, 0, 8);
        Due.is("below the RESERVE", g.wouldPay(0), 0);
        Due.is("OFFERED anew", g.offer(0, 8), 1);
        Due.is("RESERVE", g.ofLot(0, RESERVE), 8);
        Due.is("the BID stays", g.bidOf(1, 0), 8);
        Due.is("as the RESERVE", g.wouldPay(0), 32);
        Due.is("the same once more", g.offer(0, 8), 1);
        Due.is("the BID stays", g.bidOf(1, 0), 8);
    }

    @Says("Returns how many are OFFERED.")
    static void promise18_howMany() {
        FlushGarden g = Gardens.made(16);
        for (int lot = 15; lot >= 0; lot--) {
            Due.is("OFFERED", g.offer(lot, 1), 16 - lot);
        }
        g.knock(15);
        Due.is("one less by a knock", g.offer(0, 2), 15);
    }

    // ---- promise 19

    @Says("buyer is not 0 to 3")
    static void promise19_buyer0To3() {
        Bounds.index("bid(x, 0, 5)", () -> Gardens.offered(1), 0, 3, (g, x) -> {
            Due.is("BIDS", g.bid(x, 0, 5), 1);
            for (int buyer = 0; buyer < 4; buyer++) {
                Due.is("BID of " + buyer, g.bidOf(buyer, 0), buyer == x ? 5 : -1);
            }
        });
    }

    @Says("there is no such LOT")
    static void promise19_noSuchLot() {
        for (int count : new int[] {0, 1, 16}) {
            Bounds.index("bid(3, x, 5) of " + count, () -> Gardens.offered(count), 0, count - 1, (g, x) -> {
                Due.is("BIDS", g.bid(3, x, 5), 1);
                Due.is("BID", g.bidOf(3, x), 5);
            });
        }
    }

    @Says({"price is not 1 to 99", "a PRICE (1 to 99)"})
    static void promise19_price1To99() {
        Bounds.argument("bid(3, 0, x)", () -> Gardens.offered(1), 1, 99, (g, x) -> {
            Due.is("BIDS", g.bid(3, 0, x), 1);
            Due.is("PRICE", g.bidOf(3, 0), x);
        });
    }

    @Says({"it is not OFFERED", "A BID of a BUYER for a LOT that is OFFERED"})
    static void promise19_offered() {
        Bounds.state("bid(0, x, 9)", (g, x) -> g.bid(0, x, 9));
        FlushGarden g = Gardens.made(2);
        g.offer(1, 1);
        Due.state("another one is OFFERED", () -> g.bid(0, 0, 9));
        Due.is("that one", g.bid(0, 1, 9), 1);
        g.knock(1);
        Due.state("OFFERED no more", () -> g.bid(0, 1, 9));
    }

    @Says({"behind all others there; an older one of it there is gone.", "Returns how many BID for it."})
    static void promise19_howMany() {
        FlushGarden g = Gardens.offered(2);
        for (int buyer = 0; buyer < 4; buyer++) {
            Due.is("BIDS", g.bid(buyer, 0, 9), buyer + 1);
        }
        Due.is("an older one is gone", g.bid(0, 0, 3), 4);
        Due.is("the new one", g.bidOf(0, 0), 3);
        Due.is("of another LOT", g.bid(0, 1, 4), 1);
        Due.is("the one there stays", g.bidOf(0, 0), 3);
    }

    @Says("behind all others there; an older one of it there is gone.")
    static void promise19_behindAllOthers() {
        for (int again = 0; again < 4; again++) {
            FlushGarden g = Gardens.offered(1);
            for (int buyer = 0; buyer < 4; buyer++) {
                g.purse(buyer, 99);
                g.bid(buyer, 0, 9);
            }
            g.bid(again, 0, 9);
            Due.is("the first one, if it BIDS again: " + again, g.knock(0), again == 0 ? 1 : 0);
        }
    }

    // ---- promise 20

    @Says("there is no such LOT")
    static void promise20_noSuchLot() {
        for (int count : new int[] {0, 1, 16}) {
            Bounds.index("knock(x) of " + count, () -> Gardens.offered(count), 0, count - 1,
                (g, x) -> Due.is("nobody", g.knock(x), -1));
        }
    }

    @Says("it is not OFFERED")
    static void promise20_offered() {
        Bounds.state("knock(x)", FlushGarden::knock);
        FlushGarden g = Gardens.made(2);
        g.offer(1, 1);
        Due.state("another one is OFFERED", () -> g.knock(0));
        Due.is("that one", g.knock(1), -1);
        Due.state("OFFERED no more", () -> g.knock(1));
    }

    /** A lot of 40 units that is offered, so that a price is paid 4 times. */
    private static FlushGarden forty(int reserve, int... purses) {
        FlushGarden g = Gardens.made(1);
        g.offer(0, reserve);
        for (int buyer = 0; buyer < purses.length; buyer++) {
            if (purses[buyer] > 0) {
                g.purse(buyer, purses[buyer]);
            }
        }
        return g;
    }

    /** What would be paid, and then is, by whom. */
    private static void sold(String told, FlushGarden g, int buyer, int paid) {
        int money = g.many(MONEY);
        int purse = buyer < 0 ? 0 : g.many(PURSES + buyer);
        int dry = g.ofLot(0, DRY);
        Due.is(told + ": wouldPay", g.wouldPay(0), paid);
        Due.is(told + ": knock", g.knock(0), buyer);
        Due.is(told + ": MONEY", g.many(MONEY), money + paid);
        Due.is(told + ": STATE", g.ofLot(0, STATE), buyer < 0 ? MADE : GONE);
        Due.is(told + ": LOTS that were sold", g.many(7), buyer < 0 ? 0 : 1);
        Due.is(told + ": UNITS that were sold", g.many(10), buyer < 0 ? 0 : dry);
        if (buyer >= 0) {
            Due.is(told + ": PURSE", g.many(PURSES + buyer), purse - paid);
        }
    }

    @Says("To KNOCK DOWN: of those that BID no less than the RESERVE")
    static void promise20_noLessThanTheReserve() {
        int[] bids = {1, 49, 50, 51, 99};
        for (int bid : bids) {
            FlushGarden g = forty(50, 0, 999);
            g.bid(1, 0, bid);
            sold("a BID of " + bid, g, bid < 50 ? -1 : 1, bid < 50 ? 0 : 200);
        }
        FlushGarden low = forty(1, 999);
        low.bid(0, 0, 1);
        sold("1 of 1", low, 0, 4);
        FlushGarden high = forty(99, 999);
        high.bid(0, 0, 99);
        sold("99 of 99", high, 0, 396);
        FlushGarden below = forty(99, 999);
        below.bid(0, 0, 98);
        sold("98 of 99", below, -1, 0);
    }

    @Says("and whose PURSE has what it costs at their BID")
    static void promise20_purseOfTheBid() {
        for (int purse = 198; purse <= 202; purse++) {
            FlushGarden g = forty(10, purse);
            g.bid(0, 0, 50);
            sold("200 of a PURSE of " + purse, g, purse < 200 ? -1 : 0, purse < 200 ? 0 : 40);
        }
        FlushGarden empty = forty(1, 0);
        empty.bid(0, 0, 1);
        sold("4 of an empty PURSE", empty, -1, 0);
    }

    @Says("that PRICE times DRY, divided by 10, goes from the PURSE to the garden, and the LOT is GONE: it is sold.")
    static void promise20_costRoundedDown() {
        int[][] rows = {{1, 9, 0, 0}, {1, 10, 1, 1}, {1, 19, 1, 1}, {1, 20, 2, 2}, {39, 3, 11, 11}, {39, 10, 39, 39},
            {40, 3, 12, 12}, {33, 7, 23, 23}};
        for (int[] row : rows) {
            String told = row[0] + " units for " + row[1];
            FlushGarden g = ofDry(row[0], row[1]);
            if (row[2] > 1) {
                g.purse(0, row[2] - 1);
            }
            g.bid(0, 0, row[1]);
            Due.is(told + ", a PURSE of 1 less", g.wouldPay(0), row[2] > 0 ? 0 : row[3]);
            if (row[2] > 0) {
                g.purse(0, 1);
            }
            sold(told, g, 0, row[3]);
        }
    }

    /** A lot of so many units (40 at most) that is offered. */
    private static FlushGarden ofDry(int dry, int reserve) {
        FlushGarden g = Gardens.fired(2);
        if (dry < 40) {
            g.mix(0, 40 - dry, 1, 1);
        }
        Due.is("DRY", g.ofLot(0, DRY), dry);
        g.offer(0, reserve);
        return g;
    }

    @Says("the greatest BID, of several the one that came first")
    static void promise20_greatestThenFirst() {
        FlushGarden g = forty(1, 999, 999, 999, 999);
        g.bid(0, 0, 8);
        g.bid(3, 0, 9);
        g.bid(1, 0, 9);
        g.bid(2, 0, 8);
        sold("the first of two with 9", g, 3, 36);
        FlushGarden later = forty(1, 999, 999, 999, 999);
        later.bid(0, 0, 9);
        later.bid(1, 0, 9);
        later.bid(2, 0, 10);
        later.bid(3, 0, 9);
        sold("a greater one that came later", later, 2, 40);
        FlushGarden poor = forty(1, 999, 35, 999, 999);
        poor.bid(1, 0, 9);
        poor.bid(2, 0, 9);
        poor.bid(0, 0, 9);
        sold("the first one whose PURSE has 36", poor, 2, 36);
        FlushGarden enough = forty(1, 999, 36, 999, 999);
        enough.bid(1, 0, 9);
        enough.bid(2, 0, 9);
        sold("the first one, with 36", enough, 1, 36);
    }

    @Says("it pays 1 more than the greatest BID of the others of these, its own BID at most")
    static void promise20_itsOwnBidAtMost() {
        int[] others = {48, 49, 50};
        int[] prices = {49, 50, 50};
        for (int row = 0; row < others.length; row++) {
            FlushGarden g = forty(1, 999, 999, 999);
            g.bid(1, 0, 50);
            g.bid(2, 0, 2);
            g.bid(0, 0, others[row]);
            sold("50, behind it " + others[row], g, 1, 4 * prices[row]);
        }
    }

    @Says("the RESERVE, if there is no other")
    static void promise20_reserveWithoutAnother() {
        FlushGarden alone = forty(20, 999);
        alone.bid(0, 0, 50);
        sold("alone", alone, 0, 80);
        FlushGarden below = forty(20, 999, 999);
        below.bid(0, 0, 50);
        below.bid(1, 0, 19);
        sold("the other one is below the RESERVE", below, 0, 80);
        FlushGarden as = forty(20, 999, 999);
        as.bid(0, 0, 50);
        as.bid(1, 0, 20);
        sold("the other one is as the RESERVE", as, 0, 84);
        FlushGarden poor = forty(20, 999, 159);
        poor.bid(0, 0, 50);
        poor.bid(1, 0, 40);
        sold("the other one has 159 of 160", poor, 0, 80);
        FlushGarden enough = forty(20, 999, 160);
        enough.bid(0, 0, 50);
        enough.bid(1, 0, 40);
        sold("the other one has 160 of 160", enough, 0, 164);
        FlushGarden great = forty(20, 999, 240);
        great.bid(0, 0, 50);
        great.bid(1, 0, 61);
        sold("a greater one has 240 of 244", great, 0, 80);
    }

    @Says({"With such a one or without it is OFFERED no more, and BIDS for it are gone.", "Returns the BUYER (NONE)."})
    static void promise20_bidsAreGone() {
        for (int purse = 39; purse <= 40; purse++) {
            FlushGarden g = forty(10, purse, 0, 0, 0);
            for (int buyer = 0; buyer < 4; buyer++) {
                g.bid(buyer, 0, 10);
            }
            Due.is("the BUYER", g.knock(0), purse < 40 ? -1 : 0);
            Due.is("RESERVE", g.ofLot(0, RESERVE), 0);
            for (int buyer = 0; buyer < 4; buyer++) {
                Due.is("BID of " + buyer, g.bidOf(buyer, 0), -1);
            }
        }
        FlushGarden again = forty(10, 39);
        again.bid(0, 0, 10);
        again.knock(0);
        again.offer(0, 1);
        Due.is("nobody BIDS", again.wouldPay(0), 0);
        Due.is("BIDS", again.bid(1, 0, 1), 1);
    }

    // ---- promises 24 to 26

    @Says("there is no such LOT")
    static void promise24_noSuchLot() {
        for (int count : new int[] {0, 1, 16}) {
            Bounds.index("taste(x, 0) of " + count, () -> Gardens.made(count), 0, count - 1, (g, x) -> g.taste(x, 0));
        }
    }

    @Says("note is not 0 to 2")
    static void promise24_note0To2() {
        int[] notes = {5, 3, 4};
        Bounds.argument("taste(0, x)", MarketBoundsTest::twoNoted, 0, 2,
            (g, x) -> Due.is("taste(0, " + x + ")", g.taste(0, x), notes[x]));
    }

    @Says({"it is not MADE", "To TASTE a LOT (MADE) by all three"})
    static void promise24_made() {
        Bounds.state("taste(x, 0)", (g, x) -> g.taste(x, 0), 4, 5, 9, 10, 11, 12);
    }

    @Says("of each NOTE the sum of what they tell less their GUESSES, divided by 3")
    static void promise24_thirdsRoundedDown() {
        int[] leans = {-2, -1, 0, 1, 2};
        for (int first : leans) {
            for (int second : leans) {
                FlushGarden g = twoNoted();
                g.lean(0, first);
                g.lean(2, second);
                int[] thirds = {3, 4, 4, 4, 5, 5, 5, 6, 6};
                Due.is("3 times 5, and " + first + ", and " + second, g.taste(0, 0), thirds[4 + first + second]);
            }
        }
    }

    @Says("All numbers are whole; what is divided is rounded down (of what is below 0 towards 0).")
    static void promise24_below0Towards0() {
        FlushGarden g = bitter();
        int[] leans = {2, 0, -2};
        for (int taster = 0; taster < 3; taster++) {
            g.lean(taster, 2);
            g.repeat(taster, 0);
            g.lean(taster, 0);
            Due.is("0 less the GUESS 2 of tasters: " + (taster + 1), g.taste(0, 0), 0);
        }
        for (int lean : leans) {
            g.lean(0, lean);
            Due.is("less the GUESSES below 0, the LEAN " + lean, g.taste(0, 0), 0);
        }
        FlushGarden low = twoNoted();
        low.lean(0, -2);
        low.repeat(0, 0);
        Due.is("-6 / 3", low.ofTaster(0, 0), -2);
        low.lean(0, -1);
        low.repeat(0, 0);
        Due.is("-9 / 6 to the nearer one, away from 0", low.ofTaster(0, 0), -2);
        Due.is("9 and 9 and 8 less -2", low.taste(1, 0), 9);
        Due.is("5 and 5 and 4 less -2", low.taste(0, 0), 5);
    }

    @Says("divided by 3, held to 0 to 9.")
    static void promise24_held() {
        for (int lean = -2; lean <= 2; lean++) {
            FlushGarden high = twoNoted();
            for (int taster = 0; taster < 3; taster++) {
                high.lean(taster, lean);
                high.repeat(taster, 0);
                high.lean(taster, 0);
            }
            Due.is("9 less the GUESS " + lean, high.taste(1, 0), Math.min(9, 9 - lean));
        }
        for (int lean = 0; lean <= 2; lean++) {
            FlushGarden low = bitter();
            for (int taster = 0; taster < 3; taster++) {
                low.lean(taster, lean);
                low.repeat(taster, 0);
                Due.is("GUESS", low.ofTaster(taster, 0), lean);
                low.lean(taster, 0);
            }
            Due.is("0 less the GUESS " + lean, low.taste(0, 0), 0);
        }
        FlushGarden told = bitter();
        told.lean(0, 2);
        told.lean(1, 1);
        Due.is("2, 1 and 0 told of 0", told.taste(0, 0), 1);
        told.lean(1, -2);
        Due.is("2, 0 and 0 told of 0", told.taste(0, 0), 0);
    }

    @Says("taster is not 0 to 2")
    static void promise25_taster0To2() {
        Bounds.index("ofTaster(x, 1)", () -> {
            FlushGarden g = Gardens.made(1);
            g.repeat(1, 0);
            g.repeat(2, 0);
            g.repeat(2, 0);
            return g;
        }, 0, 2, (g, x) -> Due.is("REPEATS", g.ofTaster(x, 1), x));
    }

    @Says("what is not 0 or 1")
    static void promise25_what0Or1() {
        int[] want = {-2, 3};
        Bounds.argument("ofTaster(1, x)", () -> {
            FlushGarden g = twoNoted();
            g.lean(1, -2);
            g.repeat(1, 0);
            g.repeat(1, 1);
            g.repeat(1, 0);
            return g;
        }, 0, 1, (g, x) -> Due.is("ofTaster(1, " + x + ")", g.ofTaster(1, x), want[x]));
    }

    @Says("The HOUSE does not see that; it has GUESSES (0 at first)")
    static void promise25_notSeenTillRepeated() {
        FlushGarden g = twoNoted();
        for (int taster = 0; taster < 3; taster++) {
            g.lean(taster, 2);
            Due.is("GUESS at first", g.ofTaster(taster, 0), 0);
            g.taste(0, 0);
            Due.is("GUESS as it TASTES", g.ofTaster(taster, 0), 0);
            g.repeat(taster, 0);
            Due.is("GUESS as it REPEATS", g.ofTaster(taster, 0), 2);
            g.lean(taster, -2);
            Due.is("GUESS as it LEANS otherwise", g.ofTaster(taster, 0), 2);
        }
    }

    @Says("buyer is not 0 to 3")
    static void promise26_buyer0To3() {
        Bounds.index("bidOf(x, 0)", () -> {
            FlushGarden g = Gardens.offered(1);
            for (int buyer = 1; buyer < 4; buyer++) {
                g.bid(buyer, 0, buyer);
            }
            return g;
        }, 0, 3, (g, x) -> Due.is("BID", g.bidOf(x, 0), x == 0 ? -1 : x));
    }

    @Says("there is no such LOT")
    static void promise26_noSuchLot() {
        for (int count : new int[] {0, 1, 16}) {
            Bounds.index("bidOf(3, x) of " + count, () -> Gardens.green(count), 0, count - 1,
                (g, x) -> Due.is("without one", g.bidOf(3, x), -1));
        }
    }

    @Says({"Returns its BID there; NONE without one.", "NONE is -1."})
    static void promise26_noneWithoutOne() {
        FlushGarden g = Gardens.offered(2);
        Due.is("before", g.bidOf(3, 0), -1);
        g.bid(3, 0, 1);
        Due.is("the least one", g.bidOf(3, 0), 1);
        Due.is("there, not here", g.bidOf(3, 1), -1);
        g.bid(3, 0, 99);
        Due.is("the greatest one", g.bidOf(3, 0), 99);
        g.knock(0);
        Due.is("behind", g.bidOf(3, 0), -1);
    }

    // ---- promises 27 and 28

    @Says("what is not 0 to 14")
    static void promise27_what0To14() {
        int[] empty = {0, 0, 0, 0, 0, 0, 0, 0, 0, 0, 0, 0, 0, 0, 0};
        Bounds.argument("many(x) of a new one", FlushGarden::new, 0, 14, (g, x) -> Due.is("many(" + x + ")", g.many(x), empty[x]));
        int[] full = {1, 20, 10, 3, 2, 4, -18 + 4, 1, 8 * 40, 9 * 40, 40, 96, 1, 9999, 42};
        Bounds.argument("many(x) of a full one", MarketBoundsTest::someOfAll, 0, 14,
            (g, x) -> Due.is("many(" + x + ")", g.many(x), full[x]));
    }

    /** Three green lots, two rolled ones, four made ones, and a sold one. */
    private static FlushGarden someOfAll() {
        FlushGarden g = Gardens.green(9);
        for (int lot = 3; lot < 9; lot++) {
            g.wither(lot, 2, 3);
            g.roll(lot, 5);
        }
        for (int lot = 5; lot < 9; lot++) {
            g.fire(lot, 2, 14);
        }
        g.mix(7, 1, 8, 1);
        g.purse(0, 100);
        g.purse(1, 1);
        g.purse(2, 9999);
        g.purse(3, 42);
        g.offer(5, 1);
        g.bid(0, 5, 9);
        g.knock(5);
        return g;
    }

    @Says("3 GREEN ones, 4 ROLLED ones, 5 MADE ones")
    static void promise27_ofEachState() {
        int[] states = {0, 0, 1, 1, 2, 2, 3, 0, 3, 2, 2, 2, 2};
        FlushGarden g = Gardens.ofEachState();
        for (int lot = 0; lot < states.length; lot++) {
            Due.is("STATE of " + lot, g.ofLot(lot, STATE), states[lot]);
        }
        Due.is("GREEN ones", g.many(3), 3);
        Due.is("ROLLED ones", g.many(4), 2);
        Due.is("MADE ones", g.many(5), 6);
    }

    @Says("Returns the mean of the sums of the three NOTES of all MADE LOTS, each by its DRY, not rounded; 0 without any.")
    static void promise28_0WithoutAny() {
        Due.isDouble("of a new garden", new FlushGarden().meanNotes(), 0.0);
        Due.isDouble("of GREEN ones", Gardens.green(16).meanNotes(), 0.0);
        Due.isDouble("of ROLLED ones", Gardens.rolled(16).meanNotes(), 0.0);
        FlushGarden g = Gardens.offered(1);
        Due.isDouble("of one that is OFFERED", g.meanNotes(), 3.0);
        g.purse(0, 4);
        g.bid(0, 0, 1);
        g.knock(0);
        Due.isDouble("of one that is sold", g.meanNotes(), 0.0);
        Due.isDouble("of 16", Gardens.made(16).meanNotes(), 3.0);
        FlushGarden unit = Gardens.fired(2);
        unit.mix(0, 40, 1, 39);
        unit.purse(0, 7);
        unit.offer(2, 1);
        unit.bid(0, 2, 1);
        Due.is("79 units are sold", unit.knock(2), 0);
        Due.is("DRY of all LOTS", unit.many(8), 1);
        Due.isDouble("of one UNIT", unit.meanNotes(), 3.0);
        Due.isDouble("of a lot without any NOTE", bitter().meanNotes(), 0.0);
        FlushGarden two = twoNoted();
        Due.isDouble("of 40 and 54 units", two.meanNotes(), (40 * 12 + 54 * 27) / 94.0);
        two.mix(0, 40, 1, 53);
        Due.isDouble("of 93 units (7 6 6) and one", two.meanNotes(), (93 * 19 + 27) / 94.0);
        two.pluck(0, 3, 1);
        Due.isDouble("one that is not MADE", two.meanNotes(), (93 * 19 + 27) / 94.0);
    }

    @Says({"7 LOTS that were sold", "10 those that were sold"})
    static void promise27_allThatWereSold() {
        FlushGarden g = Gardens.offered(2);
        g.purse(3, 8);
        for (int lot = 0; lot < 2; lot++) {
            Due.is("LOTS that were sold", g.many(7), lot);
            Due.is("UNITS that were sold", g.many(10), 40 * lot);
            g.bid(3, lot, 1);
            Due.is("the BUYER", g.knock(lot), 3);
        }
        Due.is("LOTS that were sold", g.many(7), 2);
        Due.is("UNITS that were sold", g.many(10), 80);
        Due.is("DRY of all LOTS", g.many(8), 0);
        Due.is("MONEY", g.many(MONEY), 8 - 4);
    }

    // ---- promise 32

    @Says("there is no such LOT")
    static void promise32_noSuchLot() {
        for (int count : new int[] {0, 1, 16}) {
            Bounds.index("wouldPay(x) of " + count, () -> Gardens.offered(count), 0, count - 1,
                (g, x) -> Due.is("nobody", g.wouldPay(x), 0));
        }
    }

    @Says("it is not OFFERED")
    static void promise32_offered() {
        Bounds.state("wouldPay(x)", FlushGarden::wouldPay);
        FlushGarden g = Gardens.made(2);
        g.offer(1, 1);
        Due.state("another one is OFFERED", () -> g.wouldPay(0));
        Due.is("that one", g.wouldPay(1), 0);
        g.knock(1);
        Due.state("OFFERED no more", () -> g.wouldPay(1));
    }

    @Says("0, if nobody would have it.")
    static void promise32_0IfNobody() {
        FlushGarden g = forty(10, 39, 400);
        Due.is("without a BID", g.wouldPay(0), 0);
        g.bid(0, 0, 10);
        Due.is("39 of 40", g.wouldPay(0), 0);
        g.bid(1, 0, 9);
        Due.is("9 of 10", g.wouldPay(0), 0);
        g.purse(0, 1);
        Due.is("40 of 40", g.wouldPay(0), 40);
        g.bid(1, 0, 10);
        Due.is("two of them", g.wouldPay(0), 40);
        g.bid(1, 0, 11);
        long before = g.digest();
        Due.is("44 of 400", g.wouldPay(0), 44);
        Due.is("nothing is changed", g.digest(), before);
        Due.is("a BID is there still", g.bidOf(1, 0), 11);
    }

    // ---- promise 33

    @Says({"flushIn() of 3 and 2", "bestMix() of 3, 3 and 3"})
    static void promise33_ofThese() {
        for (int shade = 0; shade <= 2; shade++) {
            FlushGarden g = new FlushGarden();
            g.section(9, shade);
            digest("the shade " + shade, g);
        }
        FlushGarden some = Gardens.sections(1);
        some.prune(0);
        digest("the REST 4", some);
        digest("apart in BODY", Gardens.apartInBody());
        digest("apart in BRISK", Gardens.apartInBrisk());
        digest("apart in AROMA", Gardens.apartInAroma());
        digest("none to be MIXED so", Gardens.made(2));
    }

    /** The number that promise 33 tells without a wrap, by the answers of the other calls. */
    private static BigInteger whole(FlushGarden g) {
        BigInteger d = BigInteger.valueOf(5402);
        for (int what = 0; what <= 14; what++) {
            d = next(d, g.many(what));
        }
        for (int section = 0; section < g.many(0); section++) {
            for (int what = 0; what <= 10; what++) {
                d = next(d, g.ofSection(section, what));
            }
            d = next(d, g.flushIn(section, 3, 2));
        }
        for (int lot = 0; lot < g.many(2); lot++) {
            d = ofLot(d, g, lot);
        }
        for (int taster = 0; taster < 3; taster++) {
            d = next(next(d, g.ofTaster(taster, 0)), g.ofTaster(taster, 1));
        }
        return next(d, g.bestMix(3, 3, 3));
    }

    private static BigInteger ofLot(BigInteger before, FlushGarden g, int lot) {
        BigInteger d = before;
        for (int what = 0; what <= 17; what++) {
            d = next(d, g.ofLot(lot, what));
        }
        int state = g.ofLot(lot, STATE);
        for (int note = 0; note < 6 && state == MADE; note++) {
            d = next(d, note < 3 ? g.note(lot, note) : g.taste(lot, note - 3));
        }
        if (state == 1) {
            d = next(d, g.bestFire(lot));
        }
        if (g.ofLot(lot, RESERVE) > 0) {
            d = next(d, g.wouldPay(lot));
            for (int buyer = 0; buyer < 4; buyer++) {
                d = next(d, g.bidOf(buyer, lot));
            }
        }
        return d;
    }

    private static BigInteger next(BigInteger d, int v) {
        return d.multiply(BigInteger.valueOf(31)).add(BigInteger.valueOf(v));
    }

    private static void digest(String told, FlushGarden g) {
        BigInteger whole = whole(g);
        Due.is(told + ": it wraps around", whole.bitLength() > 64 ? 1 : 0, 1);
        Due.is(told + ": digest", g.digest(), whole.longValue());
        Due.is(told + ": digest once more", g.digest(), whole.longValue());
    }

    @Says("A number d starts with 5402; then d becomes d * 31 + v, which wraps around as a 64-bit integer")
    static void promise33_wrapsAround() {
        digest("a new one", new FlushGarden());
        digest("four sections", Gardens.blighted(1, 2, 3, 9));
        digest("16 GREEN ones", Gardens.green(16));
        digest("below 0", someOfAll());
    }

    @Says("if it is MADE note() of 0 to 2 and taste() of 0 to 2, if it is ROLLED bestFire(), if it is OFFERED wouldPay() and "
        + "bidOf() of each BUYER")
    static void promise33_byStates() {
        digest("one of each STATE", Gardens.ofEachState());
        FlushGarden g = twoNoted();
        g.lean(0, 2);
        g.repeat(0, 0);
        g.lean(0, -2);
        g.lean(1, -1);
        digest("TASTED otherwise than noted", g);
        g.offer(1, 7);
        digest("OFFERED without a BID", g);
        g.purse(2, 300);
        g.bid(2, 1, 8);
        g.bid(3, 1, 9);
        digest("OFFERED with BIDS", g);
        g.knock(1);
        digest("sold", g);
    }

    public static void main(String[] args) throws IOException, IllegalAccessException {
        Bounds.run(MarketBoundsTest.class);
    }
}
