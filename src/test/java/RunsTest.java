import java.util.ArrayList;
import java.util.Arrays;
import java.util.HashMap;
import java.util.List;
import java.util.Map;
import java.util.Random;
import java.util.function.Supplier;

/**
 * Promise 33, and what all promises share: runs in which each call throws only what its promise
 * names, changes nothing if it throws or only asks, and the digest is that of the answers. What
 * would go beyond the 512 calls of an object is asked of another one, for which the run is called anew.
 */
public final class RunsTest {
    private static final int ARGUMENT = 1;
    private static final int INDEX = 2;
    private static final int STATE = 4;

    // Each call of a run costs four: two to draw it, itself, and the digest.
    private static final int MOST_CALLS = 115;

    private static final String[] CHANGES = {"section", "pass", "prune", "spray", "pluck", "join", "wither", "kill",
        "roll", "rest", "fire", "sort", "mix", "lean", "repeat", "purse", "offer", "bid", "knock"};
    private static final List<String> ASKED = List.of("ofSection", "ofLot", "note", "taste", "ofTaster", "bidOf",
        "many", "flushIn", "bestFire", "bestMix", "wouldPay");

    private static final Map<String, Integer> THROWN = new HashMap<>();

    private record Call(String name, int[] with) {
    }

    private static void mayThrow(int which, String... names) {
        for (String name : names) {
            THROWN.put(name, which);
        }
    }

    private static int call(FlushGarden g, String name, int[] a) {
        switch (name) {
            case "section": return g.section(a[0], a[1]);
            case "pass": return g.pass(a[0], a[1], a[2]);
            case "prune": return g.prune(a[0]);
            case "spray": return g.spray(a[0]);
            case "pluck": return g.pluck(a[0], a[1], a[2]);
            case "join": return g.join(a[0], a[1]);
            case "wither": return g.wither(a[0], a[1], a[2]);
            case "kill": return g.kill(a[0]);
            case "roll": return g.roll(a[0], a[1]);
            case "rest": return g.rest(a[0], a[1], a[2]);
            case "fire": return g.fire(a[0], a[1], a[2]);
            case "sort": return g.sort(a[0]);
            case "mix": return g.mix(a[0], a[1], a[2], a[3]);
            case "lean": return g.lean(a[0], a[1]);
            case "repeat": return g.repeat(a[0], a[1]);
            case "purse": return g.purse(a[0], a[1]);
            case "offer": return g.offer(a[0], a[1]);
            case "bid": return g.bid(a[0], a[1], a[2]);
            case "knock": return g.knock(a[0]);
            case "ofSection": return g.ofSection(a[0], a[1]);
            case "ofLot": return g.ofLot(a[0], a[1]);
            case "note": return g.note(a[0], a[1]);
            case "taste": return g.taste(a[0], a[1]);
            case "ofTaster": return g.ofTaster(a[0], a[1]);
            case "bidOf": return g.bidOf(a[0], a[1]);
            case "many": return g.many(a[0]);
            case "flushIn": return g.flushIn(a[0], a[1], a[2]);
            case "bestFire": return g.bestFire(a[0]);
            case "bestMix": return g.bestMix(a[0], a[1], a[2]);
            default: return g.wouldPay(a[0]);
        }
    }

    private static int kind(RuntimeException e) {
        if (e.getClass() == IllegalArgumentException.class) {
            return ARGUMENT;
        }
        if (e.getClass() == IndexOutOfBoundsException.class) {
            return INDEX;
        }
        return e.getClass() == IllegalStateException.class ? STATE : 8;
    }

    /** A garden on which these calls were done, whatever they throw. */
    private static FlushGarden garden(int seed, List<Call> calls) {
        FlushGarden g = seed % 2 == 0 ? new FlushGarden() : Gardens.fired(4);
        g.section(1 + seed % 9, seed % 3);
        g.section(9, 0);
        for (Call it : calls) {
            try {
                call(g, it.name, it.with);
            } catch (RuntimeException e) {
                // The run itself has looked at what is thrown.
            }
        }
        return g;
    }

    private static long digestOfLot(long digestBefore, FlushGarden g, int lot) {
        long d = digestBefore;
        for (int what = 0; what <= 17; what++) {
            d = d * 31 + g.ofLot(lot, what);
        }
        int state = g.ofLot(lot, 0);
        for (int note = 0; note < 6 && state == 2; note++) {
            d = d * 31 + (note < 3 ? g.note(lot, note) : g.taste(lot, note - 3));
        }
        d = state == 1 ? d * 31 + g.bestFire(lot) : d;
        if (g.ofLot(lot, 13) > 0) {
            d = d * 31 + g.wouldPay(lot);
            for (int buyer = 0; buyer < 4; buyer++) {
                d = d * 31 + g.bidOf(buyer, lot);
            }
        }
        return d;
    }

    /** The digest as promise 33 tells it, by the answers of the other calls; each lot is asked of a garden of its own. */
    private static long digestOf(Supplier<FlushGarden> made) {
        FlushGarden g = made.get();
        long d = 5402;
        for (int what = 0; what <= 14; what++) {
            d = d * 31 + g.many(what);
        }
        for (int section = 0; section < g.many(0); section++) {
            for (int what = 0; what <= 10; what++) {
                d = d * 31 + g.ofSection(section, what);
            }
            d = d * 31 + g.flushIn(section, 3, 2);
        }
        for (int lot = 0; lot < g.many(2); lot++) {
            d = digestOfLot(d, made.get(), lot);
        }
        for (int taster = 0; taster < 3; taster++) {
            d = (d * 31 + g.ofTaster(taster, 0)) * 31 + g.ofTaster(taster, 1);
        }
        return d * 31 + g.bestMix(3, 3, 3);
    }

    /** Mostly what the promise allows, now and then something odd. */
    private static int any(Random random, int least, int most) {
        int[] odd = {Integer.MIN_VALUE, Integer.MAX_VALUE, -1, -3, 0, least - 1, most + 1, 10000};
        if (random.nextInt(50) == 0) {
            return odd[random.nextInt(odd.length)];
        }
        return least + random.nextInt(Math.max(1, most - least + 1));
    }

    private static int[] arguments(Random random, FlushGarden g, String name) {
        // Mostly the first lots, so that one lot is called often enough to be sold.
        int last = Math.min(g.many(2) - 1, random.nextInt(16));
        int lot = any(random, 0, last);
        int other = any(random, 0, last);
        int section = any(random, 0, g.many(0) - 1);
        int buyer = any(random, 0, 3);
        int taster = any(random, 0, 2);
        int ten = any(random, 0, 10);
        switch (name) {
            case "section": return new int[] {any(random, 1, 9), any(random, 0, 2)};
            case "pass": return new int[] {any(random, 0, 6), any(random, 0, 6), any(random, 1, 9)};
            case "pluck": return new int[] {section, any(random, 1, 3), any(random, 1, 4)};
            case "join": return new int[] {lot, other};
            case "wither": return new int[] {lot, any(random, 1, 8), any(random, 1, 3)};
            case "roll": return new int[] {lot, any(random, 1, 5)};
            case "rest": return new int[] {lot, any(random, 1, 9), any(random, 1, 4)};
            case "fire": return new int[] {lot, any(random, 1, 5), any(random, 1, 30)};
            case "mix": return new int[] {lot, any(random, 1, 20), other, any(random, 1, 20)};
            case "lean": return new int[] {taster, any(random, -2, 2)};
            case "repeat": return new int[] {taster, lot};
            case "purse": return new int[] {buyer, any(random, 1, 900)};
            case "offer": return new int[] {lot, any(random, 1, 60)};
            case "bid": return new int[] {buyer, lot, any(random, 1, 99)};
            case "bidOf": return new int[] {buyer, lot};
            case "ofTaster": return new int[] {taster, any(random, 0, 1)};
            case "flushIn": return new int[] {section, any(random, 0, 6), any(random, 0, 6)};
            case "ofSection": return new int[] {section, ten};
            case "prune": case "spray": return new int[] {section};
            case "bestMix": return new int[] {any(random, 0, 9), any(random, 0, 9), any(random, 0, 9)};
            case "many": return new int[] {any(random, 0, 14)};
            default: return new int[] {lot, any(random, 0, 2)};
        }
    }

    private static Call draw(Random random, FlushGarden g) {
        String[] often = {"pass", "pluck", "wither", "wither", "roll", "rest", "fire", "fire", "offer", "offer", "purse",
            "purse", "bid", "bid", "knock", "repeat", "mix"};
        String name = often[random.nextInt(often.length)];
        int kind = random.nextInt(4);
        if (kind == 0) {
            name = ASKED.get(random.nextInt(ASKED.size()));
        } else if (kind == 1) {
            name = CHANGES[random.nextInt(CHANGES.length)];
        }
        return new Call(name, arguments(random, g, name));
    }

    private static void run(int seed, int[] answered) {
        Random random = new Random(seed);
        FlushGarden g = garden(seed, List.of());
        List<Call> done = new ArrayList<>();
        List<Call> changing = new ArrayList<>();
        long digest = g.digest();
        for (int i = seed % (MOST_CALLS / 2); i < MOST_CALLS; i++) {
            Call it = draw(random, g);
            String told = "run " + seed + ", call " + done.size() + ": " + it.name + Arrays.toString(it.with);
            boolean changes = !ASKED.contains(it.name);
            try {
                call(g, it.name, it.with);
                answered[0]++;
            } catch (RuntimeException e) {
                changes = false;
                int kind = kind(e);
                Due.is(told + " threw " + e + ", is it promised", THROWN.get(it.name) & kind, kind);
            }
            long behind = g.digest();
            if (changes) {
                changing.add(it);
            } else {
                Due.is(told + ": digest", behind, digest);
            }
            done.add(it);
            digest = behind;
        }
        String told = "run " + seed + ": digest ";
        Due.is(told + "without what throws or only asks", garden(seed, changing).digest(), digest);
        Due.is(told + "as told", digest, digestOf(() -> garden(seed, done)));
        answered[1] += g.many(5);
        answered[2] += g.many(7);
    }

    public static void main(String[] args) {
        mayThrow(ARGUMENT, "pass", "many", "bestMix");
        mayThrow(ARGUMENT | STATE, "section");
        mayThrow(INDEX, "prune", "spray", "bidOf");
        mayThrow(INDEX | STATE, "kill", "sort", "repeat", "knock", "bestFire", "wouldPay");
        mayThrow(INDEX | ARGUMENT, "lean", "purse", "ofSection", "ofLot", "ofTaster", "flushIn");
        mayThrow(INDEX | ARGUMENT | STATE, "pluck", "join", "wither", "roll", "rest", "fire", "mix", "offer", "bid",
            "note", "taste");
        Due.is("digest of a new one", new FlushGarden().digest(), 444618139517052313L);
        int[] answered = new int[3];
        for (int seed = 0; seed < 500; seed++) {
            run(seed, answered);
        }
        System.out.println("answered " + answered[0] + ", made " + answered[1] + ", sold " + answered[2]);
        Due.is("runs that reach MADE and sold lots", answered[1] > 100 && answered[2] > 20 ? 1 : 0, 1);
        Due.end();
    }
}
