// A garden of tea: sections of bushes are plucked, the lots of leaf are made, tasted and sold.
public final class FlushGarden {
    private static final int NONE = -1;

    private static final int MOST_SECTIONS = 4;
    private static final int MOST_LOTS = 16;
    private static final int BUYERS = 4;
    private static final int TASTERS = 3;
    private static final int NOTES = 3;
    private static final int GRADES = 3;
    private static final int GREATEST_NOTE = 9;

    private static final int GREEN = 0;
    private static final int ROLLED = 1;
    private static final int MADE = 2;
    private static final int GONE = 3;

    private static final int BODY = 0;
    private static final int BRISK = 1;
    private static final int AROMA = 2;

    private static final int MOST_DAYS = 30;
    private static final int MOST_MINUTES = 30;
    private static final int MOST_HEAT = 5;
    private static final int MOST_WEATHER = 6;
    private static final int SAP_OF_A_FLUSH = 5;
    private static final int MIX_SUM = 100000;
    private static final int NO_MIX = 1000 * MIX_SUM;

    private final Section[] sections = new Section[MOST_SECTIONS];
    private int sectionCount = 0;
    private int now = 0;
    private final Lot[] lots = new Lot[MOST_LOTS];
    private int lotCount = 0;
    // A lot to try fires on, so that what would be is found by the same code as what is.
    private final Lot trial = new Lot();
    private final Taster[] tasters = new Taster[TASTERS];
    private final int[] purses = new int[BUYERS];
    private int money = 0;
    private int soldLots = 0;
    private int soldUnits = 0;
    private int pluckedUnits = 0;

    public FlushGarden() {
        for (int i = 0; i < sections.length; i++) {
            sections[i] = new Section();
        }
        for (int i = 0; i < lots.length; i++) {
            lots[i] = new Lot();
        }
        for (int i = 0; i < tasters.length; i++) {
            tasters[i] = new Taster();
        }
    }

    // ---- sections

    public int section(int area, int shade) throws IllegalArgumentException, IllegalStateException {
        requireArgument(area, 1, 9);
        requireArgument(shade, 0, 2);
        requireState(sectionCount < MOST_SECTIONS);
        Section it = sections[sectionCount];
        it.area = area;
        it.shade = shade;
        sectionCount++;
        return sectionCount - 1;
    }

    public int pass(int warmth, int wet, int days) throws IllegalArgumentException {
        requireArgument(warmth, 0, MOST_WEATHER);
        requireArgument(wet, 0, MOST_WEATHER);
        requireArgument(days, 1, MOST_DAYS);
        int flushes = 0;
        for (int day = 0; day < days; day++) {
            now++;
            for (int i = 0; i < sectionCount; i++) {
                flushes += sections[i].growDay(warmth, wet);
            }
        }
        return flushes;
    }

    public int prune(int section) throws IndexOutOfBoundsException {
        return sectionAt(section).cutBack();
    }

    public int spray(int section) throws IndexOutOfBoundsException {
        Section it = sectionAt(section);
        int before = it.blight;
        it.blight = 0;
        it.poison = 3;
        return before;
    }

    public int pluck(int section, int standard, int hands) throws IndexOutOfBoundsException, IllegalArgumentException, IllegalStateException {
        Section from = sectionAt(section);
        requireArgument(standard, 1, 3);
        requireArgument(hands, 1, 9);
        int most = 8 * hands;
        int hard = standard < 3 ? 0 : Math.min(most, from.hard);
        int old = standard < 2 ? 0 : Math.min(most - hard, from.shoots[3]);
        int young = Math.min(most - hard - old, from.shoots[2]);
        requireState(hard + old + young > 0);
        Lot it = newLot();
        from.hard -= hard;
        from.shoots[3] -= old;
        from.shoots[2] -= young;
        it.state = GREEN;
        it.fine = 3 * young;
        it.dry = 5 * hard + 4 * old + it.fine;
        it.units[section] = it.dry;
        it.water = 3 * it.dry;
        it.tainted = from.poison > 0;
        money -= 2 * hands;
        pluckedUnits += it.dry;
        return lotCount - 1;
    }

    // ---- lots

    public int join(int lot, int other) throws IndexOutOfBoundsException, IllegalArgumentException, IllegalStateException {
        Lot first = lotAt(lot);
        Lot second = lotAt(other);
        requireDifferent(lot, other);
        requireState(first.state == GREEN && second.state == GREEN);
        requireState(first.chem == second.chem && first.killed == second.killed);
        for (int i = 0; i < first.units.length; i++) {
            first.units[i] += second.units[i];
        }
        first.dry += second.dry;
        first.fine += second.fine;
        first.water += second.water;
        first.tainted = first.tainted || second.tainted;
        second.vanish();
        return first.dry;
    }

    public int wither(int lot, int hours, int air) throws IndexOutOfBoundsException, IllegalArgumentException, IllegalStateException {
        Lot it = lotAt(lot);
        requireArgument(hours, 1, 20);
        requireArgument(air, 1, 3);
        requireState(it.state == GREEN && !it.killed);
        for (int hour = 0; hour < hours; hour++) {
            it.water = Math.max(it.dry, it.water - (it.water * air + 9) / 10);
            it.chem++;
        }
        return it.water;
    }

    public int kill(int lot) throws IndexOutOfBoundsException, IllegalStateException {
        Lot it = lotAt(lot);
        requireState(it.state == GREEN && !it.killed);
        it.water -= it.water / 5;
        it.killed = true;
        return it.water;
    }

    public int roll(int lot, int force) throws IndexOutOfBoundsException, IllegalArgumentException, IllegalStateException {
        Lot it = lotAt(lot);
        requireArgument(force, 1, 5);
        requireState(it.state == GREEN || it.state == ROLLED);
        requireState(it.water <= 2 * it.dry);
        it.broken += force;
        it.state = ROLLED;
        return it.broken;
    }

    public int rest(int lot, int quarters, int warmth) throws IndexOutOfBoundsException, IllegalArgumentException, IllegalStateException {
        Lot it = lotAt(lot);
        requireArgument(quarters, 1, 20);
        requireArgument(warmth, 1, 4);
        requireState(it.state == ROLLED && !it.killed);
        it.ox = Math.min(60, it.ox + quarters * warmth);
        return it.ox;
    }

    public int fire(int lot, int heat, int minutes) throws IndexOutOfBoundsException, IllegalArgumentException, IllegalStateException {
        Lot it = lotAt(lot);
        requireArgument(heat, 1, MOST_HEAT);
        requireArgument(minutes, 1, MOST_MINUTES);
        requireState(it.state == ROLLED);
        for (int minute = 0; minute < minutes; minute++) {
            it.heatMinute(heat);
        }
        if (it.isDried()) {
            it.state = MADE;
        }
        return it.water;
    }

    public int sort(int lot) throws IndexOutOfBoundsException, IllegalStateException {
        Lot it = lotAt(lot);
        requireState(it.isFreeMade() && it.grade == NONE && !it.mixed);
        int made = 0;
        for (int grade = 0; grade < GRADES; grade++) {
            if (it.dryOfGrade(grade) > 0) {
                made++;
            }
        }
        requireState(lotCount + made <= MOST_LOTS);
        for (int grade = 0; grade < GRADES; grade++) {
            if (it.dryOfGrade(grade) > 0) {
                newLot().becomeGrade(it, grade);
            }
        }
        it.vanish();
        return made;
    }

    public int mix(int lot, int units, int other, int otherUnits) throws IndexOutOfBoundsException, IllegalArgumentException, IllegalStateException {
        Lot first = lotAt(lot);
        Lot second = lotAt(other);
        requireDifferent(lot, other);
        requireState(first.isFreeMade() && units >= 1 && units <= first.dry);
        requireState(second.isFreeMade() && otherUnits >= 1 && otherUnits <= second.dry);
        Lot it = newLot();
        it.state = MADE;
        it.mixed = true;
        it.tainted = first.tainted || second.tainted;
        int all = units + otherUnits;
        for (int i = 0; i < NOTES; i++) {
            it.notes[i] = (first.noteOf(i) * units + second.noteOf(i) * otherUnits) / all;
        }
        it.takeUnits(first, units);
        it.takeUnits(second, otherUnits);
        return lotCount - 1;
    }

    // ---- tasters and market

    public int lean(int taster, int by) throws IndexOutOfBoundsException, IllegalArgumentException {
        Taster it = tasterAt(taster);
        requireArgument(by, -2, 2);
        int before = it.leans;
        it.leans = by;
        return before;
    }

    public int repeat(int taster, int lot) throws IndexOutOfBoundsException, IllegalStateException {
        Taster it = tasterAt(taster);
        Lot tasted = madeLotAt(lot);
        for (int i = 0; i < NOTES; i++) {
            int known = tasted.noteOf(i);
            it.toldTooMuch += it.tells(known) - known;
        }
        it.repeats++;
        return it.guess();
    }

    public int purse(int buyer, int more) throws IndexOutOfBoundsException, IllegalArgumentException {
        requireIndex(buyer, BUYERS);
        requireArgument(more, 1, 9999);
        purses[buyer] += more;
        return purses[buyer];
    }

    public int offer(int lot, int reserve) throws IndexOutOfBoundsException, IllegalArgumentException, IllegalStateException {
        Lot it = lotAt(lot);
        requireArgument(reserve, 1, 99);
        requireState(it.state == MADE);
        it.auction.reserve = reserve;
        int offered = 0;
        for (int i = 0; i < lotCount; i++) {
            if (lots[i].auction.isOpen()) {
                offered++;
            }
        }
        return offered;
    }

    public int bid(int buyer, int lot, int price) throws IndexOutOfBoundsException, IllegalArgumentException, IllegalStateException {
        requireIndex(buyer, BUYERS);
        Lot it = lotAt(lot);
        requireArgument(price, 1, 99);
        requireState(it.auction.isOpen());
        it.auction.place(buyer, price);
        return it.auction.countBids();
    }

    public int knock(int lot) throws IndexOutOfBoundsException, IllegalStateException {
        Lot it = lotAt(lot);
        requireState(it.auction.isOpen());
        int buyer = winnerOf(it);
        if (buyer != NONE) {
            int paid = costOf(it, priceFor(it, buyer));
            purses[buyer] -= paid;
            money += paid;
            soldLots++;
            soldUnits += it.dry;
            it.vanish();
        }
        it.auction.close();
        return buyer;
    }

    // ---- what one asks

    public int ofSection(int section, int what) throws IndexOutOfBoundsException, IllegalArgumentException {
        Section it = sectionAt(section);
        requireArgument(what, 0, 10);
        switch (what) {
            case 0: return it.area;
            case 1: return it.shade;
            case 2: return it.sap;
            case 3: return it.resting;
            case 4: return it.blight;
            case 5: return it.poison;
            case 10: return it.hard;
            default: return it.shoots[what - 6];
        }
    }

    public int ofLot(int lot, int what) throws IndexOutOfBoundsException, IllegalArgumentException {
        Lot it = lotAt(lot);
        requireArgument(what, 0, 17);
        switch (what) {
            case 0: return it.state;
            case 1: return it.dry;
            case 2: return it.fine;
            case 3: return it.water;
            case 4: return it.chem;
            case 5: return it.broken;
            case 6: return it.ox;
            case 7: return it.cased;
            case 8: return it.burn;
            case 9: return it.grade;
            case 10: return it.killed ? 1 : 0;
            case 11: return it.tainted ? 1 : 0;
            case 12: return it.mixed ? 1 : 0;
            case 13: return it.auction.reserve;
            default: return it.units[what - 14];
        }
    }

    public int note(int lot, int note) throws IndexOutOfBoundsException, IllegalArgumentException, IllegalStateException {
        Lot it = lotAt(lot);
        requireArgument(note, 0, NOTES - 1);
        requireState(it.state == MADE);
        return it.noteOf(note);
    }

    public int taste(int lot, int note) throws IndexOutOfBoundsException, IllegalArgumentException, IllegalStateException {
        int known = note(lot, note);
        int sum = 0;
        for (int i = 0; i < tasters.length; i++) {
            sum += tasters[i].tells(known) - tasters[i].guess();
        }
        return heldNote(sum / TASTERS);
    }

    public int ofTaster(int taster, int what) throws IndexOutOfBoundsException, IllegalArgumentException {
        Taster it = tasterAt(taster);
        requireArgument(what, 0, 1);
        return what == 0 ? it.guess() : it.repeats;
    }

    public int bidOf(int buyer, int lot) throws IndexOutOfBoundsException {
        requireIndex(buyer, BUYERS);
        Lot it = lotAt(lot);
        return it.auction.hasBid(buyer) ? it.auction.prices[buyer] : NONE;
    }

    public int many(int what) throws IllegalArgumentException {
        requireArgument(what, 0, 14);
        switch (what) {
            case 0: return sectionCount;
            case 1: return now;
            case 2: return lotCount;
            case 3: return countLots(GREEN);
            case 4: return countLots(ROLLED);
            case 5: return countLots(MADE);
            case 6: return money;
            case 7: return soldLots;
            case 8: return dryOfAll();
            case 9: return pluckedUnits;
            case 10: return soldUnits;
            default: return purses[what - 11];
        }
    }

    public double meanNotes() {
        int dry = 0;
        int weighed = 0;
        for (int i = 0; i < lotCount; i++) {
            if (lots[i].state == MADE) {
                dry += lots[i].dry;
                weighed += lots[i].dry * lots[i].sumOfNotes();
            }
        }
        return dry > 0 ? (double) weighed / (double) dry : 0.0;
    }

    // ---- what would be (nothing is changed)

    public int flushIn(int section, int warmth, int wet) throws IndexOutOfBoundsException, IllegalArgumentException {
        Section it = sectionAt(section);
        requireArgument(warmth, 0, MOST_WEATHER);
        requireArgument(wet, 0, MOST_WEATHER);
        int sap = it.sap;
        for (int day = 1; day <= MOST_DAYS; day++) {
            if (day > it.resting) {
                sap += it.sapOfDay(warmth, wet);
            }
            if (sap >= SAP_OF_A_FLUSH) {
                return day;
            }
        }
        return NONE;
    }

    public int bestFire(int lot) throws IndexOutOfBoundsException, IllegalStateException {
        Lot it = lotAt(lot);
        requireState(it.state == ROLLED);
        int best = NONE;
        int bestSum = NONE;
        for (int heat = 1; heat <= MOST_HEAT; heat++) {
            trial.copyLeaf(it);
            for (int minutes = 1; minutes <= MOST_MINUTES; minutes++) {
                trial.heatMinute(heat);
                int sum = trial.isDried() ? trial.sumOfNotes() : NONE;
                if (sum > bestSum) {
                    bestSum = sum;
                    best = 100 * heat + minutes;
                }
            }
        }
        return best;
    }

    public int bestMix(int body, int brisk, int aroma) throws IllegalArgumentException {
        requireArgument(body, 0, GREATEST_NOTE);
        requireArgument(brisk, 0, GREATEST_NOTE);
        requireArgument(aroma, 0, GREATEST_NOTE);
        int least = NO_MIX;
        for (int i = 0; i < lotCount; i++) {
            for (int j = i + 1; j < lotCount; j++) {
                if (lots[i].isFreeMade() && lots[j].isFreeMade()) {
                    int pair = 1000 * i + 10 * j;
                    least = Math.min(least, leastMix(pair, lots[i], lots[j], body, brisk, aroma));
                }
            }
        }
        return least == NO_MIX ? NONE : least % MIX_SUM;
    }

    public int wouldPay(int lot) throws IndexOutOfBoundsException, IllegalStateException {
        Lot it = lotAt(lot);
        requireState(it.auction.isOpen());
        int buyer = winnerOf(it);
        return buyer == NONE ? 0 : costOf(it, priceFor(it, buyer));
    }

    public long digest() {
        long d = 5402;
        for (int what = 0; what <= 14; what++) {
            d = d * 31 + many(what);
        }
        for (int i = 0; i < sectionCount; i++) {
            for (int what = 0; what <= 10; what++) {
                d = d * 31 + ofSection(i, what);
            }
            d = d * 31 + flushIn(i, 3, 2);
        }
        for (int i = 0; i < lotCount; i++) {
            d = digestLot(d, i);
        }
        for (int i = 0; i < TASTERS; i++) {
            d = d * 31 + ofTaster(i, 0);
            d = d * 31 + ofTaster(i, 1);
        }
        return d * 31 + bestMix(3, 3, 3);
    }

    private long digestLot(long digestBefore, int lot) {
        long d = digestBefore;
        for (int what = 0; what <= 17; what++) {
            d = d * 31 + ofLot(lot, what);
        }
        Lot it = lotAt(lot);
        for (int i = 0; it.state == MADE && i < NOTES; i++) {
            d = d * 31 + note(lot, i);
        }
        for (int i = 0; it.state == MADE && i < NOTES; i++) {
            d = d * 31 + taste(lot, i);
        }
        if (it.state == ROLLED) {
            d = d * 31 + bestFire(lot);
        }
        if (it.auction.isOpen()) {
            d = d * 31 + wouldPay(lot);
            for (int buyer = 0; buyer < BUYERS; buyer++) {
                d = d * 31 + bidOf(buyer, lot);
            }
        }
        return d;
    }

    // ---- helpers

    private static void requireArgument(int value, int least, int most) {
        if (value < least || value > most) {
            throw new IllegalArgumentException();
        }
    }

    private static void requireDifferent(int lot, int other) {
        if (lot == other) {
            throw new IllegalArgumentException();
        }
    }

    private static void requireIndex(int value, int count) {
        if (value < 0 || value >= count) {
            throw new IndexOutOfBoundsException();
        }
    }

    private static void requireState(boolean holds) {
        if (!holds) {
            throw new IllegalStateException();
        }
    }

    private static int heldNote(int value) {
        return Math.max(0, Math.min(GREATEST_NOTE, value));
    }

    private Section sectionAt(int section) {
        requireIndex(section, sectionCount);
        return sections[section];
    }

    private Lot lotAt(int lot) {
        requireIndex(lot, lotCount);
        return lots[lot];
    }

    private Lot madeLotAt(int lot) {
        Lot it = lotAt(lot);
        requireState(it.state == MADE);
        return it;
    }

    private Taster tasterAt(int taster) {
        requireIndex(taster, TASTERS);
        return tasters[taster];
    }

    // Every lot is made with the garden and used once, so it is still as new here.
    private Lot newLot() {
        requireState(lotCount < MOST_LOTS);
        Lot it = lots[lotCount];
        lotCount++;
        return it;
    }

    private int countLots(int state) {
        int count = 0;
        for (int i = 0; i < lotCount; i++) {
            if (lots[i].state == state) {
                count++;
            }
        }
        return count;
    }

    private int dryOfAll() {
        int dry = 0;
        for (int i = 0; i < lotCount; i++) {
            dry += lots[i].dry;
        }
        return dry;
    }

    private static int costOf(Lot lot, int price) {
        return price * lot.dry / 10;
    }

    private boolean mayBuy(Lot lot, int buyer) {
        int price = lot.auction.prices[buyer];
        return lot.auction.hasBid(buyer) && price >= lot.auction.reserve
            && purses[buyer] >= costOf(lot, price);
    }

    private int winnerOf(Lot lot) {
        int winner = NONE;
        for (int i = 0; i < BUYERS; i++) {
            if (mayBuy(lot, i) && (winner == NONE || lot.auction.isAhead(i, winner))) {
                winner = i;
            }
        }
        return winner;
    }

    private int priceFor(Lot lot, int winner) {
        int rival = NONE;
        for (int i = 0; i < BUYERS; i++) {
            if (i != winner && mayBuy(lot, i)) {
                rival = Math.max(rival, lot.auction.prices[i]);
            }
        }
        return rival == NONE ? lot.auction.reserve : Math.min(lot.auction.prices[winner], rival + 1);
    }

    // A sum of notes goes ahead of the mix's number, so that the least of such keys is the best mix.
    private static int leastMix(int pair, Lot first, Lot second, int body, int brisk, int aroma) {
        int firstBody = first.noteOf(BODY);
        int firstBrisk = first.noteOf(BRISK);
        int firstAroma = first.noteOf(AROMA);
        int secondBody = second.noteOf(BODY);
        int secondBrisk = second.noteOf(BRISK);
        int secondAroma = second.noteOf(AROMA);
        int least = NO_MIX;
        for (int tenths = 1; tenths <= 9; tenths++) {
            int itsBody = tenths * firstBody + (10 - tenths) * secondBody;
            int itsBrisk = tenths * firstBrisk + (10 - tenths) * secondBrisk;
            int itsAroma = tenths * firstAroma + (10 - tenths) * secondAroma;
            if (itsBody / 10 >= body && itsBrisk / 10 >= brisk && itsAroma / 10 >= aroma) {
                int sum = itsBody + itsBrisk + itsAroma;
                least = Math.min(least, sum * MIX_SUM + pair + tenths);
            }
        }
        return least;
    }

    private static final class Section {
        int area = 0;
        int shade = 0;
        int sap = 0;
        int resting = 0;
        int blight = 0;
        int poison = 0;
        int hard = 0;
        final int[] shoots = new int[4];

        int sapOfDay(int warmth, int wet) {
            return Math.max(0, warmth - shade) + Math.min(3, wet);
        }

        int growDay(int warmth, int wet) {
            if (poison > 0) {
                poison--;
            }
            if (resting > 0) {
                resting--;
                return 0;
            }
            blight = wet + shade >= 5 ? blight + 1 : Math.max(0, blight - 1);
            sap += sapOfDay(warmth, wet);
            int flushes = sap / SAP_OF_A_FLUSH;
            for (int i = 0; i < flushes; i++) {
                flushOnce();
            }
            return flushes;
        }

        void flushOnce() {
            sap -= SAP_OF_A_FLUSH;
            hard += shoots[3];
            shoots[3] = shoots[2];
            shoots[2] = shoots[1];
            shoots[1] = shoots[0];
            shoots[0] = blight >= 3 ? area : 2 * area;
        }

        int cutBack() {
            int gone = hard;
            hard = 0;
            for (int i = 0; i < shoots.length; i++) {
                gone += shoots[i];
                shoots[i] = 0;
            }
            sap = 0;
            blight = 0;
            resting = 4;
            return gone;
        }
    }

    private static final class Lot {
        int state = GREEN;
        int dry = 0;
        int fine = 0;
        int water = 0;
        int chem = 0;
        int broken = 0;
        int ox = 0;
        int cased = 0;
        int burn = 0;
        int grade = NONE;
        boolean killed = false;
        boolean tainted = false;
        boolean mixed = false;
        final int[] units = new int[MOST_SECTIONS];
        // Only those of a mixed lot stand here: others follow from the leaf.
        final int[] notes = new int[NOTES];
        final Auction auction = new Auction();

        boolean isFreeMade() {
            return state == MADE && !auction.isOpen();
        }

        boolean isDried() {
            return 20 * water <= dry;
        }

        void vanish() {
            state = GONE;
            dry = 0;
            for (int i = 0; i < units.length; i++) {
                units[i] = 0;
            }
        }

        // Without state, grade and units: a grade gets its own, and a lot to be fired has no grade yet.
        void copyLeaf(Lot from) {
            dry = from.dry;
            fine = from.fine;
            water = from.water;
            chem = from.chem;
            broken = from.broken;
            ox = from.ox;
            cased = from.cased;
            burn = from.burn;
            killed = from.killed;
            tainted = from.tainted;
        }

        void heatMinute(int heat) {
            if (isDried()) {
                burn += heat;
            } else if (heat >= 4 && water > dry) {
                cased++;
            }
            water = Math.max(0, water - heat - dry / 20);
        }

        int shareOfGrade(int whole, int ofGrade) {
            int b = Math.min(10, broken);
            int second = whole * b / 40;
            int first = whole * b / 20;
            if (ofGrade == 2) {
                return second;
            }
            return ofGrade == 1 ? first : whole - first - second;
        }

        int dryOfGrade(int ofGrade) {
            int sum = 0;
            for (int i = 0; i < units.length; i++) {
                sum += shareOfGrade(units[i], ofGrade);
            }
            return sum;
        }

        void becomeGrade(Lot from, int itsGrade) {
            copyLeaf(from);
            state = MADE;
            grade = itsGrade;
            water = 0;
            for (int i = 0; i < units.length; i++) {
                units[i] = from.shareOfGrade(from.units[i], itsGrade);
            }
            dry = from.dryOfGrade(itsGrade);
            fine = Math.min(dry, from.shareOfGrade(from.fine, itsGrade));
        }

        void takeUnits(Lot from, int count) {
            int left = count;
            for (int i = 0; i < units.length; i++) {
                int taken = Math.min(left, from.units[i]);
                units[i] += taken;
                from.units[i] -= taken;
                left -= taken;
            }
            dry += count;
            from.dry -= count;
            from.fine = Math.min(from.fine, from.dry);
            if (from.dry <= 0) {
                from.vanish();
            }
        }

        int noteOf(int which) {
            if (mixed) {
                return notes[which];
            }
            int tenthsFine = dry > 0 ? 10 * fine / dry : 0;
            if (which == BODY) {
                return heldNote(bodyOfLeaf());
            }
            return heldNote(which == BRISK ? briskOfLeaf(tenthsFine) : aromaOfLeaf(tenthsFine));
        }

        int sumOfNotes() {
            int sum = 0;
            for (int i = 0; i < NOTES; i++) {
                sum += noteOf(i);
            }
            return sum;
        }

        int bodyOfLeaf() {
            return ox / 8 + broken / 3 + (grade == 2 ? 2 : 0) - cased;
        }

        int briskOfLeaf(int tenthsFine) {
            int ofOx = killed ? 3 : 4 - Math.abs(ox - 30) / 8;
            return tenthsFine / 2 + ofOx - burn / 4;
        }

        int aromaOfLeaf(int tenthsFine) {
            int ofChem = Math.min(12, chem) / 2;
            return ofChem + tenthsFine / 3 - cased - burn / 5 - (tainted ? 5 : 0);
        }
    }

    private static final class Taster {
        int leans = 0;
        int toldTooMuch = 0;
        int repeats = 0;

        int tells(int known) {
            return heldNote(known + leans);
        }

        int guess() {
            int told = NOTES * repeats;
            if (told <= 0) {
                return 0;
            }
            int nearest = (2 * Math.abs(toldTooMuch) + told) / (2 * told);
            return toldTooMuch < 0 ? -nearest : nearest;
        }
    }

    // A reserve of 0 is that of a lot that is not offered, a price of 0 that of a buyer without a bid.
    private static final class Auction {
        int reserve = 0;
        int turns = 0;
        final int[] prices = new int[BUYERS];
        final int[] turnOf = new int[BUYERS];

        boolean isOpen() {
            return reserve > 0;
        }

        boolean hasBid(int buyer) {
            return prices[buyer] > 0;
        }

        void place(int buyer, int price) {
            turns++;
            prices[buyer] = price;
            turnOf[buyer] = turns;
        }

        int countBids() {
            int count = 0;
            for (int i = 0; i < prices.length; i++) {
                if (hasBid(i)) {
                    count++;
                }
            }
            return count;
        }

        boolean isAhead(int buyer, int other) {
            return prices[buyer] > prices[other]
                || prices[buyer] == prices[other] && turnOf[buyer] < turnOf[other];
        }

        void close() {
            reserve = 0;
            for (int i = 0; i < prices.length; i++) {
                prices[i] = 0;
            }
        }
    }
}
