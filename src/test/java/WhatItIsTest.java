import java.util.Random;

/**
 * What the document says of the whole in its first lines, in runs by lots. No model speaks here: each answer is
 * held against other answers of the class, with which it must agree.
 */
public final class WhatItIsTest {
    private static final int NONE = SafeParts.NONE;
    private static final int NOT = SafeParts.NOT;
    private static final int RUNS = 120;
    private static final int STEPS = 12;
    private static final int MOST_CALLS = 512;
    private static final Check CHECK = new Check("WhatItIsTest");

    public static void main(String[] args) {
        for (int seed = 0; seed < RUNS; seed++) {
            inTheOrderOfTimes(seed);
            nothingComesAhead(seed);
            promisesOn(seed);
            standsStill(seed);
            promisesNothing(seed);
            whatEachMayDo(seed);
            whoWaits(seed);
            whatLiesInChannels(seed);
            theSameInTheEnd(seed);
            theSameAllAlong(seed);
            inWhichRound(seed);
            thoseAskedForAlone(seed);
            takenBack(seed);
        }
        soManyCalls();
        CHECK.end();
    }

    private static void says(String words) {
        CHECK.says(words);
    }

    private static void due(String call, int got, int want) {
        CHECK.due(call, got, want);
    }

    // ---- worlds by lots

    /** PARTS, CHANNELS and no more EVENTS and LETTERS than THE RECORD holds (9 chains of 21 at most). */
    private static SafeParts world(int seed, int form) {
        Random random = new Random(seed);
        int parts = 2 + random.nextInt(5);
        SafeParts x = Make.parts(parts);
        x.form(form);
        int leastPromise = random.nextInt(2);
        int promises = 1 + random.nextInt(8);
        for (int tried = 2 + random.nextInt(24); tried > 0; tried--) {
            int promise = leastPromise + random.nextInt(promises);
            x.channel(random.nextInt(parts), random.nextInt(parts), promise, Math.max(1, promise + random.nextInt(6)));
        }
        int times = 1 + random.nextInt(60);
        for (int told = 1 + random.nextInt(9); told > 0; told--) {
            x.event(random.nextInt(parts), random.nextInt(times), random.nextInt(21));
        }
        return x;
    }

    /** A world that can be run in its FORM: one with a RING WITHOUT PROMISE in FORM 1 alone. */
    private static SafeParts worldToRun(int seed, int form) {
        SafeParts x = world(seed, form);
        if (x.told(11) == 1) {
            x.form(1);
        }
        return x;
    }

    /** A ROUND, or LET GO where the ROUND before was STILL and no PART MAY work. */
    private static void oneStep(SafeParts x, int k) {
        if (k % 2 == 1 && x.told(8) == 0 && x.told(3) > 0) {
            x.letGo();
        } else {
            x.run(1);
        }
    }

    private static String of(int seed, int form) {
        return "world " + seed + " in form " + form;
    }

    // ---- parts and times

    private static void inTheOrderOfTimes(int seed) {
        says("parts work on what comes to them in the order of times");
        for (int form = 0; form < 3; form++) {
            SafeParts x = worldToRun(seed, form);
            x.finish();
            int[] latest = new int[6];
            for (int k = 0; k < x.told(10) && k < 120; k++) {
                int p = x.record(k, 0);
                int time = x.record(k, 1);
                CHECK.holds(of(seed, form) + ": entry " + k + " is not earlier", time >= latest[p]);
                latest[p] = time;
            }
        }
    }

    private static void nothingComesAhead(int seed) {
        says("a part works only on what nothing can come ahead of any more");
        Random random = new Random(seed);
        SafeParts x = worldToRun(seed, seed % 3);
        for (int k = 0; k < STEPS; k++) {
            x.event(random.nextInt(x.told(0)), random.nextInt(60), random.nextInt(21));
            oneStep(x, k);
            for (int p = 0; p < x.told(0); p++) {
                boolean hasComeAhead = x.part(p, 0) > 0 && x.part(p, 5) < x.part(p, 2);
                CHECK.holds(of(seed, seed % 3) + ": nothing is ahead of NOW of " + p, !hasComeAhead);
            }
        }
    }

    // ---- promises

    private static void promisesOn(int seed) {
        says("it promises on by letters without anything in them");
        SafeParts x = world(seed, 0);
        if (x.told(11) == 0) {
            x.finish();
            due(of(seed, 0) + ": it is never LET GO, as no ROUND is STILL", x.told(7), 0);
        }
    }

    private static void standsStill(int seed) {
        says("or all stand still until what is earliest of all is let go");
        SafeParts x = world(seed, 1);
        x.run(40);
        boolean isEarliestLetGo = x.told(8) == 0 && x.told(3) > 0;
        int earliest = x.told(9);
        due(of(seed, 1) + ": letGo()", x.letGo(), isEarliestLetGo ? earliest : NOT);
        x.finish();
        due(of(seed, 1) + ": no EMPTY LETTER went", x.told(5), 0);
    }

    private static void promisesNothing(int seed) {
        says("rounds that promise nothing are refused");
        for (int form = 0; form < 3; form++) {
            SafeParts x = world(seed, form);
            boolean promisesNothing = false;
            for (int p = 0; p < x.told(0); p++) {
                promisesNothing |= x.ring(p) == 0;
            }
            due(of(seed, form) + ": told(11)", x.told(11), promisesNothing ? 1 : 0);
            boolean isRefused = promisesNothing && form != 1;
            due(of(seed, form) + ": run(1) is refused", x.run(1) == NOT ? 1 : 0, isRefused ? 1 : 0);
            due(of(seed, form) + ": finish() is refused", x.finish() == NOT ? 1 : 0, isRefused ? 1 : 0);
        }
    }

    // ---- what is told

    private static void whatEachMayDo(int seed) {
        says("what each part may do, what it waits for, how far it has come");
        SafeParts x = worldToRun(seed, seed % 3);
        for (int k = 0; k < 4; k++) {
            int set = 0;
            int workedOn = 0;
            for (int p = 0; p < x.told(0); p++) {
                boolean may = x.part(p, 4) > 0 && x.part(p, 5) < x.part(p, 3);
                due(of(seed, seed % 3) + ": part(" + p + ", 7)", x.part(p, 7), may ? 1 : 0);
                whatItWaitsFor(x, p, may);
                set |= may ? 1 << p : 0;
                workedOn += x.part(p, 0);
            }
            due(of(seed, seed % 3) + ": told(8)", x.told(8), set);
            due(of(seed, seed % 3) + ": told(4)", x.told(4), workedOn);
            oneStep(x, k);
        }
    }

    private static void whatItWaitsFor(SafeParts x, int p, boolean may) {
        int c = x.part(p, 8);
        if (may || x.part(p, 4) == 0) {
            due("the CHANNEL for which " + p + " waits", c, NONE);
        } else {
            due("it goes to " + p, x.channelOf(c, 1), p);
            due("its CLOCK is SAFE of " + p, x.channelOf(c, 4), x.part(p, 3));
        }
    }

    private static void whoWaits(int seed) {
        says("who waits for whom");
        SafeParts x = worldToRun(seed, seed % 3);
        for (int k = 0; k < 3; k++) {
            for (int p = 0; p < x.told(0); p++) {
                int set = 0;
                int c = x.part(p, 8);
                for (int q = p; c != NONE && (set >> x.channelOf(c, 0) & 1) == 0; c = x.part(q, 8)) {
                    q = x.channelOf(c, 0);
                    set |= 1 << q;
                }
                due(of(seed, seed % 3) + ": waits(" + p + ")", x.waits(p), set);
            }
            oneStep(x, k);
        }
    }

    private static void whatLiesInChannels(int seed) {
        says("what lies in channels");
        SafeParts x = worldToRun(seed, seed % 3);
        int channels = x.told(1);
        for (int k = 0; k < STEPS; k++) {
            int letters = 0;
            int empties = 0;
            for (int c = 0; c < channels; c++) {
                letters += x.channelOf(c, 5);
                empties += x.channelOf(c, 6);
            }
            due(of(seed, seed % 3) + ": by hand and LETTERS, that wait and were worked on", x.told(3) + x.told(4), x.told(12) + letters);
            due(of(seed, seed % 3) + ": EMPTY LETTERS", x.told(5), empties);
            oneStep(x, k);
        }
    }

    // ---- in the order of times

    private static void theSameInTheEnd(int seed) {
        says("how all would come out one by one in the order of times, which is the same");
        for (int form = 0; form < 3; form++) {
            SafeParts x = worldToRun(seed, form);
            int[] want = inOrder(x);
            for (int k = 0; k < 20 && x.told(3) > 0; k++) {
                x.finish();
            }
            due(of(seed, form) + ": no EVENT is left", x.told(3), 0);
            for (int k = 0; k < want.length; k++) {
                due(of(seed, form) + ": part(" + k / 2 + ", " + k % 2 + ")", x.part(k / 2, k % 2), want[k]);
            }
        }
    }

    /** Whatever FORM comes next, and whatever is told late, what is worked on does not change how all would come out. */
    private static void theSameAllAlong(int seed) {
        says("how all would come out one by one in the order of times, which is the same");
        Random random = new Random(seed);
        SafeParts x = worldToRun(seed, seed % 3);
        boolean hasRing = x.told(11) == 1;
        for (int k = 0; k < STEPS; k++) {
            int form = hasRing ? 1 : (seed + k) % 3;
            x.form(form);
            int p = random.nextInt(x.told(0));
            x.event(p, x.part(p, 2) + random.nextInt(8), random.nextInt(6));
            int[] want = inOrder(x);
            oneStep(x, k);
            int[] got = inOrder(x);
            for (int n = 0; n < want.length; n++) {
                due(of(seed, form) + ", step " + k + ": inOrder(" + n / 2 + ", " + n % 2 + ")", got[n], want[n]);
            }
        }
    }

    /** COUNT and SUM of each PART. */
    private static int[] inOrder(SafeParts x) {
        int[] all = new int[2 * x.told(0)];
        for (int k = 0; k < all.length; k++) {
            all[k] = x.inOrder(k / 2, k % 2);
        }
        return all;
    }

    // ---- what was done

    private static void inWhichRound(int seed) {
        says("what was done, part by part, in which round");
        SafeParts x = world(seed, 0);
        if (x.told(11) == 1) {
            return;
        }
        x.finish();
        int entries = x.told(10);
        due(of(seed, 0) + ": entries", entries, x.told(4));
        for (int k = 1; k < entries && k < 100; k++) {
            int before = 6 * x.record(k - 1, 3) + x.record(k - 1, 0);
            int here = 6 * x.record(k, 3) + x.record(k, 0);
            CHECK.holds(of(seed, 0) + ": entry " + k + ", by ROUND, then PARTS rising, each once", here > before);
        }
        CHECK.holds(of(seed, 0) + ": no ROUND that was not run", entries == 0 || x.record(entries - 1, 3) < x.told(6));
    }

    /**
     * In one ROUND no EMPTY LETTER goes as asked that would not have gone in FORM 0, and none to a PART without
     * an EVENT.
     */
    private static void thoseAskedForAlone(int seed) {
        says("letters without anything counted, those asked for alone");
        SafeParts x = world(seed, 0);
        if (x.told(11) == 1) {
            return;
        }
        int channels = x.told(1);
        for (int k = 0; k < STEPS / 2; k++) {
            int[] before = empties(x, channels);
            x.keep(0);
            x.form(0);
            x.run(1);
            int[] ofAll = empties(x, channels);
            x.goBack(0);
            x.form(2);
            x.run(1);
            int[] asked = empties(x, channels);
            for (int c = 0; c < channels; c++) {
                String here = of(seed, 2) + ", step " + k + ": ";
                CHECK.holds(here + "no more go by CHANNEL " + c, asked[c] <= ofAll[c]);
                boolean isAskedFor = x.part(x.channelOf(c, 1), 4) > 0;
                CHECK.holds(here + "none goes unasked by CHANNEL " + c, asked[c] == before[c] || isAskedFor);
            }
        }
    }

    /** EMPTY LETTERS that went by each CHANNEL. */
    private static int[] empties(SafeParts x, int channels) {
        int[] all = new int[channels];
        for (int c = 0; c < channels; c++) {
            all[c] = x.channelOf(c, 6);
        }
        return all;
    }

    private static void takenBack(int seed) {
        says("runs by lots, what was told taken back, images");
        SafeParts x = worldToRun(seed, seed % 3);
        x.run(3);
        x.keep(seed % 2);
        int came = x.drift(20, seed + 1);
        int[] want = inOrder(x);
        x.finish();
        due("goBack(" + seed % 2 + ")", x.goBack(seed % 2), 1);
        due(of(seed, seed % 3) + ": the same lots", x.drift(20, seed + 1), came);
        int[] got = inOrder(x);
        for (int k = 0; k < want.length; k++) {
            due(of(seed, seed % 3) + ": inOrder(" + k / 2 + ", " + k % 2 + ") again", got[k], want[k]);
        }
    }

    private static void soManyCalls() {
        says("An object is used for at most 512 calls after it has been made");
        SafeParts x = new SafeParts();
        for (int k = 1; k <= MOST_CALLS; k++) {
            due("call " + k, x.form(k % 3), (k - 1) % 3);
        }
        SafeParts y = Make.ring(6, 1, 99);
        for (int k = 2 + 6; k < MOST_CALLS; k++) {
            y.event(k % 6, k, 99);
        }
        due("the 512th call, of an object that is full", y.told(3), 30);
    }
}
