import java.util.Random;

/** Runs of 512 calls together, by lots, each answer against that of the Model. */
public final class RandomRunsTest {
    private static final int RUNS = 250;
    private static final int NUMBERS_TOLD = 13;

    /** What is told in the end counts, too: behind 512 calls every answer is free. */
    private static final int CALLS = 512 - NUMBERS_TOLD;
    private static final int[] STRANGE = {Integer.MIN_VALUE, Integer.MIN_VALUE + 1, -1000000001, -100, -2, -1, 0, 1, 2, 6, 7,
        11, 12, 13, 30, 31, 40, 41, 99, 100, 200, 9999, 10000, 999999, 1000000, 99999999, Integer.MAX_VALUE};

    /** How often each call comes, of all of these together. */
    private static final int[] OFTEN = {1, 20, 35, 5, 4, 14, 12, 2, 40, 50, 40, 8, 40, 10, 16, 6, 5, 5};

    public static void main(String[] args) {
        Check check = new Check("RandomRunsTest");
        for (int seed = 0; seed < RUNS && !check.hasFailed(); seed++) {
            oneRun(seed, check);
        }
        check.end();
    }

    private static void oneRun(int seed, Check check) {
        Random random = new Random(seed);
        SafeParts x = new SafeParts();
        Model model = new Model();
        int times = 1 + random.nextInt(200);
        int promises = random.nextInt(30);
        int channelsFirst = 0;
        for (int k = 0; k < CALLS && !check.hasFailed(); k++) {
            int which = k == 0 ? 0 : channelsFirst > 0 ? 1 : pick(random);
            // No CHANNEL comes behind a ROUND, so many are tried as soon as there are PARTS.
            channelsFirst = which == 0 ? random.nextInt(50) : channelsFirst - 1;
            int[] a = arguments(random, which, times, promises);
            check.due("seed " + seed + ", call " + k + ": " + Calls.text(which, a), Calls.call(x, which, a), model.call(which, a));
        }
        for (int what = 0; what < NUMBERS_TOLD; what++) {
            int[] a = {what};
            check.due("seed " + seed + ", in the end: told(" + what + ")", x.told(what), model.call(Calls.TOLD, a));
        }
    }

    private static int pick(Random random) {
        int all = 0;
        for (int often : OFTEN) {
            all += often;
        }
        int lot = random.nextInt(all);
        int which = 0;
        while (lot >= OFTEN[which]) {
            lot -= OFTEN[which];
            which++;
        }
        return which;
    }

    private static int[] arguments(Random random, int which, int times, int promises) {
        int[] a = new int[Calls.takes(which)];
        for (int k = 0; k < a.length; k++) {
            a[k] = ordinary(random, which, k, times, promises);
        }
        if (which == 1) {
            a[3] = Math.max(1, a[2] + a[3]);
        }
        if (a.length > 0 && random.nextInt(25) == 0) {
            a[random.nextInt(a.length)] = STRANGE[random.nextInt(STRANGE.length)];
        }
        return a;
    }

    private static int ordinary(Random random, int which, int place, int times, int promises) {
        switch (which) {
            case 0: return 2 + random.nextInt(5);
            case 1: return place < 2 ? random.nextInt(6) : place == 2 ? random.nextInt(promises + 1) : random.nextInt(20);
            case 2: return place == 0 ? random.nextInt(6) : place == 1 ? random.nextInt(times) : random.nextInt(100);
            case 3: return random.nextInt(3);
            case 4: return 1 + random.nextInt(place == 0 ? 6 : 999999);
            case 5: return 1 + random.nextInt(random.nextInt(4) == 0 ? 40 : 3);
            case 8: return random.nextInt(13);
            case 9: return random.nextInt(place == 0 ? 6 : 11);
            case 10: return random.nextInt(place == 0 ? 12 : 7);
            case 12: return random.nextInt(place == 0 ? 205 : 4);
            case 15: return random.nextInt(place == 0 ? 6 : 2);
            case 16: case 17: return random.nextInt(2);
            default: return random.nextInt(6);
        }
    }
}
