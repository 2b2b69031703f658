import java.io.IOException;
import java.util.List;
import java.util.function.Consumer;

/** Of each method: a call that is refused changes nothing, and of several exceptions the first one named is thrown. */
public final class RefusedBoundsTest {
    private static final String CHANGES_NOTHING = "A method that throws an exception changes nothing.";
    private static final String FIRST_NAMED = "If several exceptions apply, the one that is named first is thrown.";

    private static final int MIN = Integer.MIN_VALUE;
    private static final int MAX = Integer.MAX_VALUE;

    /** Three sections, lots of each state (see Gardens), 9 and 12 offered with bids, leans, repeats and purses. */
    private static FlushGarden rich() {
        FlushGarden g = Gardens.ofEachState();
        g.section(3, 1);
        g.section(5, 2);
        g.pass(3, 4, 4);
        g.spray(1);
        g.prune(2);
        g.lean(0, 1);
        g.lean(1, -2);
        g.repeat(0, 4);
        g.repeat(0, 10);
        g.repeat(2, 5);
        g.offer(9, 5);
        g.offer(12, 1);
        for (int buyer = 0; buyer < 4; buyer++) {
            g.purse(buyer, 200 + buyer);
            g.bid(3 - buyer, 9, 20);
        }
        g.bid(2, 12, 9);
        return g;
    }

    /** That garden with 4 sections and 16 lots. */
    private static FlushGarden full() {
        FlushGarden g = rich();
        g.section(9, 0);
        for (int lot = 13; lot < 16; lot++) {
            g.mix(4, 1, 5, 1);
        }
        return g;
    }

    /** All that can be found out of a garden, what no answer tells at once too; the garden is used up by that. */
    private static String picture(FlushGarden g) {
        StringBuilder seen = new StringBuilder();
        seen.append(g.digest()).append(' ').append(g.meanNotes());
        for (int lot = 0; lot < g.many(2); lot++) {
            for (int buyer = 0; buyer < 4; buyer++) {
                seen.append(' ').append(g.bidOf(buyer, lot));
            }
        }
        for (int taster = 0; taster < 3; taster++) {
            seen.append(" repeat ").append(g.repeat(taster, 4)).append(" lean ").append(g.lean(taster, 0));
        }
        for (int lot : new int[] {9, 12}) {
            seen.append(" knock ").append(g.knock(lot)).append(' ').append(g.digest());
        }
        seen.append(" join ").append(g.join(0, 7));
        seen.append(" pass ").append(g.pass(6, 3, 5)).append(' ').append(g.digest());
        for (int section = 0; section < g.many(0); section++) {
            seen.append(" prune ").append(g.prune(section));
        }
        return seen.append(' ').append(g.digest()).toString();
    }

    /** Each of the calls is refused, and behind all of them the garden is as one on which none was tried. */
    private static void changesNothing(List<Consumer<FlushGarden>> calls) {
        FlushGarden g = rich();
        FlushGarden atTheLimits = full();
        for (int i = 0; i < calls.size(); i++) {
            Due.is("call " + i + " is refused", refuses(g, calls.get(i)) ? 1 : 0, 1);
            Due.is("call " + i + " is refused by a full garden", refuses(atTheLimits, calls.get(i)) ? 1 : 0, 1);
        }
        Due.isText("the garden", picture(g), picture(rich()));
        Due.isText("the full garden", picture(atTheLimits), picture(full()));
    }

    private static boolean refuses(FlushGarden g, Consumer<FlushGarden> call) {
        try {
            call.accept(g);
            return false;
        } catch (IllegalArgumentException | IllegalStateException | IndexOutOfBoundsException e) {
            return true;
        }
    }

    /** Each of the calls is refused by a full garden alone. */
    private static void changesNothingIfFull(List<Consumer<FlushGarden>> calls) {
        FlushGarden g = full();
        for (int i = 0; i < calls.size(); i++) {
            Due.is("call " + i + " is refused", refuses(g, calls.get(i)) ? 1 : 0, 1);
            Due.is("call " + i + " is taken, if there is room", refuses(rich(), calls.get(i)) ? 1 : 0, 0);
        }
        Due.isText("the full garden", picture(g), picture(full()));
    }

    // ---- a method that throws an exception changes nothing

    @Says(CHANGES_NOTHING)
    static void promise02_changesNothing() {
        changesNothing(List.of(g -> g.section(0, 1), g -> g.section(10, 1), g -> g.section(1, -1), g -> g.section(1, 3)));
        changesNothingIfFull(List.of(g -> g.section(1, 1)));
    }

    @Says(CHANGES_NOTHING)
    static void promise03_changesNothing() {
        changesNothing(List.of(g -> g.pass(-1, 1, 1), g -> g.pass(7, 1, 1), g -> g.pass(1, -1, 1), g -> g.pass(1, 7, 1),
            g -> g.pass(1, 1, 0), g -> g.pass(1, 1, 31), g -> g.pass(6, 6, MAX), g -> g.pass(6, 6, MIN)));
    }

    @Says(CHANGES_NOTHING)
    static void promise04_changesNothing() {
        changesNothing(List.of(g -> g.prune(-1), g -> g.prune(4), g -> g.prune(MAX), g -> g.prune(MIN)));
        Due.index("of three", () -> rich().prune(3));
    }

    @Says(CHANGES_NOTHING)
    static void promise05_changesNothing() {
        changesNothing(List.of(g -> g.spray(-1), g -> g.spray(4), g -> g.spray(MAX), g -> g.spray(MIN)));
        Due.index("of three", () -> rich().spray(3));
    }

    @Says(CHANGES_NOTHING)
    static void promise06_changesNothing() {
        changesNothing(List.of(g -> g.pluck(-1, 3, 9), g -> g.pluck(4, 3, 9), g -> g.pluck(0, 0, 9), g -> g.pluck(0, 4, 9),
            g -> g.pluck(0, 3, 0), g -> g.pluck(0, 3, 10), g -> g.pluck(2, 3, 9)));
        changesNothingIfFull(List.of(g -> g.pluck(0, 3, 1)));
    }

    @Says(CHANGES_NOTHING)
    static void promise07_changesNothing() {
        changesNothing(List.of(g -> g.join(-1, 0), g -> g.join(0, 16), g -> g.join(0, 0), g -> g.join(0, 1), g -> g.join(1, 0),
            g -> g.join(0, 2), g -> g.join(2, 0), g -> g.join(0, 4), g -> g.join(0, 6), g -> g.join(6, 0)));
    }

    @Says(CHANGES_NOTHING)
    static void promise08_changesNothing() {
        changesNothing(List.of(g -> g.wither(-1, 1, 1), g -> g.wither(16, 1, 1), g -> g.wither(0, 0, 1),
            g -> g.wither(0, 21, 1), g -> g.wither(0, 1, 0), g -> g.wither(0, 1, 4), g -> g.wither(1, 1, 1),
            g -> g.wither(2, 1, 1), g -> g.wither(4, 1, 1), g -> g.wither(6, 1, 1)));
    }

    @Says(CHANGES_NOTHING)
    static void promise09_changesNothing() {
        changesNothing(List.of(g -> g.kill(-1), g -> g.kill(16), g -> g.kill(1), g -> g.kill(2), g -> g.kill(4),
            g -> g.kill(6)));
    }

    @Says(CHANGES_NOTHING)
    static void promise10_changesNothing() {
        changesNothing(List.of(g -> g.roll(-1, 1), g -> g.roll(16, 1), g -> g.roll(0, 0), g -> g.roll(0, 6),
            g -> g.roll(4, 1), g -> g.roll(6, 1), g -> g.roll(9, 1)));
        FlushGarden wet = Gardens.green(1);
        Due.state("WATER above 2 times DRY", () -> wet.roll(0, 5));
        Due.is("digest", wet.digest(), Gardens.green(1).digest());
    }

    @Says(CHANGES_NOTHING)
    static void promise11_changesNothing() {
        changesNothing(List.of(g -> g.rest(-1, 1, 1), g -> g.rest(16, 1, 1), g -> g.rest(2, 0, 1), g -> g.rest(2, 21, 1),
            g -> g.rest(2, 1, 0), g -> g.rest(2, 1, 5), g -> g.rest(0, 1, 1), g -> g.rest(3, 1, 1), g -> g.rest(4, 1, 1),
            g -> g.rest(6, 1, 1)));
    }

    @Says(CHANGES_NOTHING)
    static void promise12_changesNothing() {
        changesNothing(List.of(g -> g.fire(-1, 1, 1), g -> g.fire(16, 1, 1), g -> g.fire(2, 0, 1), g -> g.fire(2, 6, 1),
            g -> g.fire(2, 1, 0), g -> g.fire(2, 1, 31), g -> g.fire(0, 1, 1), g -> g.fire(4, 5, 9), g -> g.fire(6, 1, 1)));
    }

    @Says(CHANGES_NOTHING)
    static void promise13_changesNothing() {
        changesNothing(List.of(g -> g.sort(-1), g -> g.sort(16), g -> g.sort(0), g -> g.sort(2), g -> g.sort(6),
            g -> g.sort(9), g -> g.sort(10), g -> g.sort(12)));
        changesNothingIfFull(List.of(g -> g.sort(4), g -> g.sort(5)));
    }

    @Says(CHANGES_NOTHING)
    static void promise14_changesNothing() {
        changesNothing(List.of(g -> g.mix(-1, 1, 4, 1), g -> g.mix(4, 1, 16, 1), g -> g.mix(4, 1, 4, 1),
            g -> g.mix(4, 0, 5, 1), g -> g.mix(4, 1, 5, 0), g -> g.mix(4, 40, 5, 1), g -> g.mix(4, 1, 5, 40),
            g -> g.mix(0, 1, 5, 1), g -> g.mix(4, 1, 2, 1), g -> g.mix(4, 1, 6, 1), g -> g.mix(4, 1, 9, 1),
            g -> g.mix(12, 1, 5, 1), g -> g.mix(4, MAX, 5, MAX), g -> g.mix(4, MIN, 5, MIN), g -> g.mix(4, 1, 5, MAX)));
        changesNothingIfFull(List.of(g -> g.mix(4, 1, 5, 1), g -> g.mix(10, 1, 11, 1)));
    }

    @Says(CHANGES_NOTHING)
    static void promise15_changesNothing() {
        changesNothing(List.of(g -> g.lean(-1, 1), g -> g.lean(3, 1), g -> g.lean(0, -3), g -> g.lean(0, 3),
            g -> g.lean(1, MAX), g -> g.lean(1, MIN)));
    }

    @Says(CHANGES_NOTHING)
    static void promise16_changesNothing() {
        changesNothing(List.of(g -> g.repeat(-1, 4), g -> g.repeat(3, 4), g -> g.repeat(0, -1), g -> g.repeat(0, 16),
            g -> g.repeat(0, 0), g -> g.repeat(0, 2), g -> g.repeat(0, 6)));
    }

    @Says(CHANGES_NOTHING)
    static void promise17_changesNothing() {
        changesNothing(List.of(g -> g.purse(-1, 1), g -> g.purse(4, 1), g -> g.purse(0, 0), g -> g.purse(0, -1),
            g -> g.purse(0, 10000), g -> g.purse(0, MAX), g -> g.purse(0, MIN)));
    }

    @Says(CHANGES_NOTHING)
    static void promise18_changesNothing() {
        changesNothing(List.of(g -> g.offer(-1, 1), g -> g.offer(16, 1), g -> g.offer(9, 0), g -> g.offer(9, 100),
            g -> g.offer(4, 0), g -> g.offer(4, 100), g -> g.offer(0, 1), g -> g.offer(2, 1), g -> g.offer(6, 1)));
    }

    @Says(CHANGES_NOTHING)
    static void promise19_changesNothing() {
        changesNothing(List.of(g -> g.bid(-1, 9, 1), g -> g.bid(4, 9, 1), g -> g.bid(0, -1, 1), g -> g.bid(0, 16, 1),
            g -> g.bid(3, 9, 0), g -> g.bid(3, 9, 100), g -> g.bid(3, 9, MAX), g -> g.bid(3, 4, 20), g -> g.bid(3, 0, 20),
            g -> g.bid(3, 6, 20)));
    }

    @Says(CHANGES_NOTHING)
    static void promise20_changesNothing() {
        changesNothing(List.of(g -> g.knock(-1), g -> g.knock(16), g -> g.knock(4), g -> g.knock(0), g -> g.knock(6)));
    }

    @Says(CHANGES_NOTHING)
    static void promise32_askedInVainChangesNothing() {
        changesNothing(List.of(g -> g.ofSection(4, 0), g -> g.ofSection(0, 11), g -> g.ofLot(16, 0), g -> g.ofLot(0, 18),
            g -> g.note(0, 0), g -> g.note(4, 3), g -> g.taste(2, 0), g -> g.taste(16, 0), g -> g.ofTaster(3, 0),
            g -> g.bidOf(4, 9), g -> g.many(15), g -> g.flushIn(4, 0, 0), g -> g.flushIn(0, 7, 0), g -> g.bestFire(0),
            g -> g.bestFire(16), g -> g.bestMix(10, 0, 0), g -> g.wouldPay(4), g -> g.wouldPay(16)));
    }

    // ---- the first one named

    @Says(FIRST_NAMED)
    static void promise02_firstNamed() {
        FlushGarden g = Gardens.sections(4);
        Due.argument("a wrong area, there are 4", () -> g.section(10, 0));
        Due.argument("a wrong shade, there are 4", () -> g.section(1, 3));
        Due.state("there are 4", () -> g.section(9, 2));
    }

    @Says(FIRST_NAMED)
    static void promise06_firstNamed() {
        FlushGarden g = full();
        Due.index("no such section, a wrong standard, 16 lots", () -> g.pluck(4, 4, 1));
        Due.index("no such section, wrong hands, 16 lots", () -> g.pluck(-1, 1, 10));
        Due.index("no such section, 16 lots", () -> g.pluck(4, 3, 9));
        Due.argument("a wrong standard, 16 lots", () -> g.pluck(0, 0, 1));
        Due.argument("wrong hands, none, 16 lots", () -> g.pluck(2, 1, 0));
        Due.state("16 lots", () -> g.pluck(0, 3, 1));
        FlushGarden none = Gardens.sections(1);
        Due.index("no such section, of one without shoots", () -> none.pluck(1, 3, 10));
        Due.argument("wrong hands, none may be taken", () -> none.pluck(0, 3, 10));
        Due.state("none may be taken", () -> none.pluck(0, 3, 9));
    }

    @Says(FIRST_NAMED)
    static void promise07_firstNamed() {
        FlushGarden g = rich();
        Due.index("no such lot, the same", () -> g.join(13, 13));
        Due.index("no such lot, a gone one", () -> g.join(6, 13));
        Due.index("no such lot first, a gone one", () -> g.join(-1, 6));
        Due.argument("the same, a gone one", () -> g.join(6, 6));
        Due.argument("the same, a made one", () -> g.join(4, 4));
        Due.state("a gone one", () -> g.join(0, 6));
    }

    @Says(FIRST_NAMED)
    static void promise08_firstNamed() {
        FlushGarden g = rich();
        Due.index("no such lot, wrong hours", () -> g.wither(13, 0, 1));
        Due.index("no such lot, a wrong air", () -> g.wither(-1, 1, 4));
        Due.argument("wrong hours, a killed one", () -> g.wither(1, 21, 1));
        Due.argument("a wrong air, a gone one", () -> g.wither(6, 1, 0));
        Due.state("a killed one", () -> g.wither(1, 20, 3));
    }

    @Says(FIRST_NAMED)
    static void promise10_firstNamed() {
        FlushGarden g = rich();
        Due.index("no such lot, a wrong force", () -> g.roll(13, 0));
        Due.argument("a wrong force, a made one", () -> g.roll(4, 6));
        Due.argument("a wrong force, a gone one", () -> g.roll(6, 0));
        Due.state("a made one", () -> g.roll(4, 5));
        FlushGarden wet = Gardens.green(1);
        Due.argument("a wrong force, too much water", () -> wet.roll(0, 6));
        Due.state("too much water", () -> wet.roll(0, 5));
    }

    @Says(FIRST_NAMED)
    static void promise11_firstNamed() {
        FlushGarden g = rich();
        Due.index("no such lot, wrong quarters", () -> g.rest(13, 0, 1));
        Due.index("no such lot, a wrong warmth", () -> g.rest(-1, 1, 5));
        Due.argument("wrong quarters, a green one", () -> g.rest(0, 21, 1));
        Due.argument("a wrong warmth, a killed one", () -> g.rest(3, 1, 0));
        Due.state("a killed one", () -> g.rest(3, 20, 4));
    }

    @Says(FIRST_NAMED)
    static void promise12_firstNamed() {
        FlushGarden g = rich();
        Due.index("no such lot, a wrong heat", () -> g.fire(13, 0, 1));
        Due.index("no such lot, wrong minutes", () -> g.fire(-1, 1, 31));
        Due.argument("a wrong heat, a green one", () -> g.fire(0, 6, 1));
        Due.argument("wrong minutes, a made one", () -> g.fire(4, 1, 0));
        Due.state("a made one", () -> g.fire(4, 5, 30));
    }

    @Says(FIRST_NAMED)
    static void promise14_firstNamed() {
        FlushGarden g = full();
        Due.index("no such lot, the same", () -> g.mix(16, 1, 16, 1));
        Due.index("no such lot, no units", () -> g.mix(4, 0, 16, 0));
        Due.index("no such lot first, a gone one", () -> g.mix(-1, 1, 6, 1));
        Due.argument("the same, no units, 16 lots", () -> g.mix(4, 0, 4, 0));
        Due.argument("the same, a gone one", () -> g.mix(6, 1, 6, 1));
        Due.argument("the same, an offered one", () -> g.mix(9, 1, 9, 1));
        Due.state("16 lots", () -> g.mix(4, 1, 5, 1));
    }

    @Says(FIRST_NAMED)
    static void promise15_firstNamed() {
        FlushGarden g = rich();
        Due.index("no such taster, a wrong lean", () -> g.lean(3, 3));
        Due.index("no such taster, a wrong lean", () -> g.lean(-1, -3));
        Due.argument("a wrong lean", () -> g.lean(2, 3));
    }

    @Says(FIRST_NAMED)
    static void promise16_firstNamed() {
        FlushGarden g = rich();
        Due.index("no such taster, a green one", () -> g.repeat(3, 0));
        Due.index("no such taster, a gone one", () -> g.repeat(-1, 6));
        Due.state("a green one", () -> g.repeat(2, 0));
    }

    @Says(FIRST_NAMED)
    static void promise17_firstNamed() {
        FlushGarden g = rich();
        Due.index("no such buyer, nothing more", () -> g.purse(4, 0));
        Due.index("no such buyer, too much", () -> g.purse(-1, 10000));
        Due.argument("nothing more", () -> g.purse(3, 0));
    }

    @Says(FIRST_NAMED)
    static void promise18_firstNamed() {
        FlushGarden g = rich();
        Due.index("no such lot, a wrong reserve", () -> g.offer(13, 0));
        Due.argument("a wrong reserve, a green one", () -> g.offer(0, 100));
        Due.argument("a wrong reserve, a gone one", () -> g.offer(6, 0));
        Due.state("a green one", () -> g.offer(0, 99));
    }

    @Says(FIRST_NAMED)
    static void promise19_firstNamed() {
        FlushGarden g = rich();
        Due.index("no such buyer, a wrong price", () -> g.bid(4, 9, 0));
        Due.index("no such buyer, not offered", () -> g.bid(-1, 4, 1));
        Due.index("no such lot, a wrong price", () -> g.bid(0, 13, 100));
        Due.argument("a wrong price, not offered", () -> g.bid(0, 4, 0));
        Due.state("not offered", () -> g.bid(0, 4, 99));
    }

    @Says(FIRST_NAMED)
    static void promise21_firstNamed() {
        FlushGarden g = rich();
        Due.index("no such section, a wrong what", () -> g.ofSection(3, 11));
        Due.argument("a wrong what", () -> g.ofSection(2, 11));
    }

    @Says(FIRST_NAMED)
    static void promise22_firstNamed() {
        FlushGarden g = rich();
        Due.index("no such lot, a wrong what", () -> g.ofLot(13, 18));
        Due.argument("a wrong what", () -> g.ofLot(12, 18));
    }

    @Says(FIRST_NAMED)
    static void promise23_firstNamed() {
        FlushGarden g = rich();
        Due.index("no such lot, a wrong note", () -> g.note(13, 3));
        Due.argument("a wrong note, a green one", () -> g.note(0, 3));
        Due.argument("a wrong note, a gone one", () -> g.note(6, -1));
        Due.state("a gone one", () -> g.note(6, 0));
    }

    @Says(FIRST_NAMED)
    static void promise24_firstNamed() {
        FlushGarden g = rich();
        Due.index("no such lot, a wrong note", () -> g.taste(13, 3));
        Due.argument("a wrong note, a rolled one", () -> g.taste(2, 3));
        Due.argument("a wrong note, a gone one", () -> g.taste(6, -1));
        Due.state("a rolled one", () -> g.taste(2, 0));
    }

    @Says(FIRST_NAMED)
    static void promise25_firstNamed() {
        FlushGarden g = rich();
        Due.index("no such taster, a wrong what", () -> g.ofTaster(3, 2));
        Due.argument("a wrong what", () -> g.ofTaster(2, 2));
    }

    @Says(FIRST_NAMED)
    static void promise29_firstNamed() {
        FlushGarden g = rich();
        Due.index("no such section, a wrong warmth", () -> g.flushIn(3, 7, 0));
        Due.index("no such section, a wrong wet", () -> g.flushIn(-1, 0, -1));
        Due.argument("a wrong wet", () -> g.flushIn(2, 0, 7));
    }

    public static void main(String[] args) throws IOException, IllegalAccessException {
        Bounds.run(RefusedBoundsTest.class);
    }
}
