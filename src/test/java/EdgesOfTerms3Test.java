import java.math.BigInteger;
import java.util.ArrayList;
import java.util.Comparator;
import java.util.List;

/** The part of 'Terms' marked 3 (IN ORDER, THE RECORD, BY LOTS, IMAGES): each edge has a test of its own. */
public final class EdgesOfTerms3Test {
    private static final int NONE = SafeParts.NONE;
    private static final int UNKNOWN = SafeParts.UNKNOWN;
    private static final int NOT = SafeParts.NOT;
    private static final Check CHECK = new Check("EdgesOfTerms3Test");

    public static void main(String[] args) {
        inOrder();
        record();
        lots();
        images();
        CHECK.end();
    }

    private static void inOrder() {
        inOrderLeastTime();
        inOrderLeastPart();
        inOrderOfThePart();
        inOrderOfThePartFromNow();
        inOrderFirst300();
        inOrderLeastPartAt300();
        inOrderOfThePartAt300();
        inOrderWithoutEvents();
    }

    private static void record() {
        recordFirst200();
        recordOfEachEvent();
        recordRoundFromZero();
        recordLetGoCountsAsOne();
    }

    private static void lots() {
        lotsAsTold();
        lotsPartBounds();
        lotsTimeBounds();
        lotsValueBounds();
        lotsFromNow();
        lotsUpToTheLastTime();
        lotsGoOnBehindARefusal();
        lotsRefusedByClock();
        lotsRefusedByFull();
    }

    private static void images() {
        imagesZeroAndOne();
        imagesKeepWhatThereIs();
        imagesKeepWhatWasRun();
        imagesKeepChannels();
        imagesKeepTheOrder();
        imagesKeepNoRecord();
    }

    private static void says(String words) {
        CHECK.says(words);
    }

    private static void due(String call, int got, int want) {
        CHECK.due(call, got, want);
    }

    // ---- IN ORDER

    /** PART 1 works on 4, so that its LETTER of 6 comes to PART 0 ahead of 7. */
    private static void inOrderLeastTime() {
        says("as if of all EVENTS of all PARTS always that of the least time");
        SafeParts x = Make.parts(2);
        x.channel(1, 0, 0, 2);
        x.event(0, 7, 0);
        x.event(1, 4, 1);
        due("COUNT of 0", x.inOrder(0, 0), 2);
        due("6, then 7", x.inOrder(0, 1), 31 * 6 + 7);
        due("COUNT of 1", x.inOrder(1, 0), 1);
        due("SUM of 1", x.inOrder(1, 1), 5);
    }

    /** Both of 5 send to PART 2 by one DELAY: there the CHANNEL decides, which comes first here does not. */
    private static void inOrderLeastPart() {
        says("of like ones of the least PART, then in its order");
        SafeParts x = Make.parts(3);
        x.channel(1, 2, 0, 2);
        x.channel(0, 2, 0, 2);
        x.event(1, 5, 11);
        x.event(0, 5, 21);
        due("by CHANNEL 0 first", x.inOrder(2, 1), 31 * (7 + 10) + 7 + 20);
    }

    private static void inOrderOfThePart() {
        says("then in its order");
        SafeParts x = Make.parts(1);
        x.event(0, 5, 9);
        x.event(0, 5, 2);
        x.event(0, 4, 0);
        due("4, 5 (9), 5 (2)", x.inOrder(0, 1), 31 * (31 * 4 + 14) + 7);
    }

    /** The LETTER by CHANNEL 1 waits already, that by CHANNEL 0 is still to come. */
    private static void inOrderOfThePartFromNow() {
        says("then in its order");
        SafeParts x = Make.letterByTheLaterChannel();
        x.event(0, 6, 30);
        due("5 (60), 10 (29), 10 (19)", x.inOrder(2, 1), 31 * (31 * 65 + 39) + 29);
        x.event(2, 10, 50);
        due("10 by hand ahead of them", x.inOrder(2, 1), (31 * (31 * (31 * 65 + 60) + 39) + 29) % 1000003);
    }

    private static void inOrderFirst300() {
        says("(the first 300 EVENTS)");
        SafeParts x = Make.chains(3, 100, 100, 99);
        due("299 of PART 0", x.inOrder(0, 0), 150);
        due("299 of PART 1", x.inOrder(1, 0), 149);
        x.event(2, 9000, 0);
        due("the 300th comes", x.inOrder(2, 0), 1);
        x.event(2, 9001, 0);
        due("the 301st does not", x.inOrder(2, 0), 1);
        due("SUM without it", x.inOrder(2, 1), 9000);
        x.event(2, 8999, 0);
        due("another 300th comes", x.inOrder(2, 1), 8999);
    }

    private static void inOrderLeastPartAt300() {
        says("of like ones of the least PART, then in its order");
        SafeParts x = Make.chains(4, 100, 100, 99);
        x.event(3, 9000, 0);
        x.event(2, 9000, 0);
        due("of PART 2", x.inOrder(2, 0), 1);
        due("of PART 3", x.inOrder(3, 0), 0);
    }

    private static void inOrderOfThePartAt300() {
        says("of like ones of the least PART, then in its order");
        SafeParts x = Make.chains(3, 100, 100, 99);
        x.event(2, 9000, 7);
        x.event(2, 9000, 3);
        due("the first that came", x.inOrder(2, 1), 9007);
    }

    private static void inOrderWithoutEvents() {
        says("COUNT, SUM of each PART in the end");
        SafeParts x = Make.parts(2);
        due("COUNT", x.inOrder(1, 0), 0);
        due("SUM", x.inOrder(1, 1), 0);
        x.event(1, 8, 1);
        x.finish();
        due("COUNT of what was worked on", x.inOrder(1, 0), 1);
        due("SUM of what was worked on", x.inOrder(1, 1), 9);
    }

    // ---- THE RECORD

    private static void recordFirst200() {
        says("THE RECORD: EVENTS that were worked on, the first 200");
        SafeParts x = Make.chains(2, 100, 99, 3);
        x.finish();
        due("all 202 are worked on by 404 of both", x.told(4), 200);
        due("200 entries", x.told(10), 200);
        due("the 199th: the last of the second chain", x.record(198, 1), 3098);
        due("the 200th: the first of the third", x.record(199, 1), 6000);
        due("no 201st", x.record(200, 1), NONE);
        due("two more are worked on", x.finish(), 2);
        due("still 200 entries", x.told(10), 200);
        due("the 200th as it was", x.record(199, 1), 6000);
        due("no 201st", x.record(200, 1), NONE);
        SafeParts y = Make.chains(2, 100, 99, 0);
        y.finish();
        due("199 entries", y.told(10), 199);
        due("no 200th", y.record(199, 1), NONE);
    }

    private static void recordOfEachEvent() {
        says("PART, time, value, ROUND (0 on; LET GO counts as one)");
        SafeParts x = Make.parts(6);
        x.event(5, 9999, 99);
        x.event(0, 0, 0);
        x.run(1);
        int[][] rows = {{0, 0, 0, 0}, {5, 9999, 99, 0}};
        for (int k = 0; k < rows.length; k++) {
            for (int what = 0; what < 4; what++) {
                due("record(" + k + ", " + what + ")", x.record(k, what), rows[k][what]);
            }
        }
    }

    private static void recordRoundFromZero() {
        says("ROUND (0 on;");
        SafeParts x = Make.parts(1);
        for (int k = 0; k < 5; k++) {
            x.event(0, k, 0);
        }
        x.run(2);
        x.finish();
        for (int k = 0; k < 5; k++) {
            due("entry " + k, x.record(k, 3), k);
        }
    }

    private static void recordLetGoCountsAsOne() {
        says("LET GO counts as one");
        SafeParts x = Make.parts(3);
        x.channel(0, 1, 0, 1);
        x.form(1);
        x.event(1, 3, 0);
        x.event(1, 3, 0);
        x.event(1, 4, 0);
        due("it is the first", x.letGo(), 3);
        due("the second", x.letGo(), 4);
        x.event(2, 5, 0);
        due("a ROUND is the third", x.run(1), 1);
        int[] round = {0, 0, 1, 2};
        for (int k = 0; k < round.length; k++) {
            due("entry " + k, x.record(k, 3), round[k]);
        }
    }

    // ---- BY LOTS

    /** The lots of a SEED, by numbers without bound. */
    private static final class Lots {
        private static final BigInteger FACTOR = BigInteger.valueOf(16807);
        private static final BigInteger DIVISOR = BigInteger.valueOf(2147483647);
        private BigInteger x;

        Lots(int seed) {
            x = BigInteger.valueOf(seed);
        }

        int next(int by) {
            x = x.multiply(FACTOR).mod(DIVISOR);
            return x.mod(BigInteger.valueOf(by)).intValue();
        }
    }

    private static void lotsAsTold() {
        says("X (the SEED at first) becomes what is left of (X times 16807) by 2147483647 ahead of each number wanted");
        for (int parts = 1; parts <= 6; parts++) {
            for (int seed : new int[] {1, 2, 7, 127773, 127774, 999998, 999999}) {
                lotsOf(parts, seed);
            }
        }
    }

    /** Without CHANNELS, at first: all come, and each PART works on its own in the order of times. */
    private static void lotsOf(int parts, int seed) {
        SafeParts x = Make.parts(parts);
        due("drift(20, " + seed + ")", x.drift(20, seed), 20);
        List<int[]> all = new ArrayList<>();
        Lots lots = new Lots(seed);
        for (int k = 0; k < 20; k++) {
            all.add(new int[] {lots.next(parts), 1 + lots.next(50), lots.next(20)});
        }
        // Like times stay as they came.
        all.sort(Comparator.comparingInt(row -> row[1]));
        int[] sum = new int[parts];
        int[] count = new int[parts];
        for (int[] row : all) {
            sum[row[0]] = (31 * sum[row[0]] + row[1] + row[2]) % 1000003;
            count[row[0]]++;
        }
        due("finish", x.finish(), 20);
        for (int p = 0; p < parts; p++) {
            due("COUNT of " + p + ", seed " + seed, x.part(p, 0), count[p]);
            due("SUM of " + p + ", seed " + seed, x.part(p, 1), sum[p]);
        }
    }

    /** The least SEED whose number at a place (the PART, the time, the value), left over by one, is as wanted. */
    private static int seedOf(int place, int by, int want) {
        for (int seed = 1; seed < 999999; seed++) {
            Lots lots = new Lots(seed);
            for (int k = 0; k < place; k++) {
                lots.next(1);
            }
            if (lots.next(by) == want) {
                return seed;
            }
        }
        return 0;
    }

    private static void lotsPartBounds() {
        says("PART X left over by how many there are");
        for (int parts = 1; parts <= 6; parts++) {
            for (int p : new int[] {0, parts - 1}) {
                SafeParts x = Make.parts(parts);
                due("one comes", x.drift(1, seedOf(0, parts, p)), 1);
                due("of PART " + p + " of " + parts, x.part(p, 4), 1);
            }
        }
    }

    private static void lotsTimeBounds() {
        says("time NOW of that PART and 1 and X left over by 50");
        for (int left : new int[] {0, 1, 48, 49}) {
            SafeParts x = Make.parts(1);
            due("one comes", x.drift(1, seedOf(1, 50, left)), 1);
            due("left over " + left, x.part(0, 5), 1 + left);
        }
    }

    private static void lotsValueBounds() {
        says("value X left over by 20");
        for (int left : new int[] {0, 1, 18, 19}) {
            SafeParts x = Make.parts(1);
            due("one comes", x.drift(1, seedOf(2, 20, left)), 1);
            due("left over " + left, x.part(0, 6), left);
        }
    }

    private static void lotsFromNow() {
        says("time NOW of that PART and 1 and X left over by 50");
        SafeParts x = Make.parts(1);
        x.event(0, 700, 0);
        x.run(1);
        due("one comes", x.drift(1, seedOf(1, 50, 0)), 1);
        due("the least", x.part(0, 5), 701);
        due("one comes", x.drift(1, seedOf(1, 50, 49)), 1);
        x.run(1);
        due("the most", x.part(0, 5), 750);
    }

    private static void lotsUpToTheLastTime() {
        says("it comes, if event() would not refuse it");
        int[][] rows = {{9949, 49, 1}, {9950, 48, 1}, {9950, 49, 0}, {9998, 0, 1}, {9998, 1, 0}, {9999, 0, 0}};
        for (int[] row : rows) {
            SafeParts x = Make.parts(1);
            x.event(0, row[0], 0);
            x.run(1);
            String what = "NOW " + row[0] + ", left over " + row[1];
            due(what, x.drift(1, seedOf(1, 50, row[1])), row[2]);
            due(what + ": EVENTS", x.told(3), row[2]);
            due(what + ": EVENTS by hand", x.told(12), 1 + row[2]);
        }
    }

    /** NOW is 9974, so that about half of the lots are too late. */
    private static void lotsGoOnBehindARefusal() {
        says("it comes, if event() would not refuse it");
        for (int seed : new int[] {1, 2, 3, 999999}) {
            SafeParts x = Make.parts(1);
            x.event(0, 9974, 0);
            x.run(1);
            Lots lots = new Lots(seed);
            int want = 0;
            int values = 0;
            for (int k = 0; k < 20; k++) {
                lots.next(1);
                int time = 9975 + lots.next(50);
                int value = lots.next(20);
                want += time <= 9999 ? 1 : 0;
                values += time <= 9999 ? value : 0;
            }
            CHECK.holds("some come and some do not", want > 0 && want < 20);
            due("drift(20, " + seed + ")", x.drift(20, seed), want);
            x.finish();
            int got = 0;
            for (int k = 1; k <= want; k++) {
                got += x.record(k, 2);
            }
            due("values together", got, values);
        }
    }

    private static void lotsRefusedByClock() {
        says("it comes, if event() would not refuse it");
        int[][] rows = {{30, 1}, {31, 0}};
        for (int[] row : rows) {
            SafeParts x = Make.parts(2);
            x.channel(0, 1, 0, 30);
            x.form(1);
            x.event(1, row[0] - 1, 0);
            due("CLOCK becomes T and 1", x.letGo(), row[0] - 1);
            due("CLOCK", x.channelOf(0, 4), row[0]);
            due("of PART 0 at 30", x.drift(1, seedOfPart0At30()), row[1]);
            due("its EVENTS", x.part(0, 4), row[1]);
        }
    }

    private static int seedOfPart0At30() {
        for (int seed = 1; seed < 999999; seed++) {
            Lots lots = new Lots(seed);
            if (lots.next(2) == 0 && lots.next(50) == 29) {
                return seed;
            }
        }
        return 0;
    }

    private static void lotsRefusedByFull() {
        says("it comes, if event() would not refuse it");
        SafeParts x = Make.parts(6);
        due("20", x.drift(20, 5), 20);
        due("9 more", x.drift(9, 6), 9);
        due("one more of 20", x.drift(20, 7), 1);
        due("none more", x.drift(20, 8), 0);
        due("30 by hand", x.told(12), 30);
        due("30 wait", x.told(3), 30);
    }

    // ---- IMAGES

    private static void imagesZeroAndOne() {
        says("IMAGES 0, 1 keep all but THE RECORD.");
        SafeParts x = Make.parts(1);
        x.keep(0);
        x.event(0, 1, 0);
        x.keep(1);
        x.event(0, 2, 0);
        due("there is no IMAGE 2", x.keep(2), UNKNOWN);
        due("there is no IMAGE -1", x.keep(-1), UNKNOWN);
        x.goBack(0);
        due("IMAGE 0", x.told(3), 0);
        x.goBack(1);
        due("IMAGE 1", x.told(3), 1);
        x.goBack(0);
        due("IMAGE 0 again", x.told(3), 0);
    }

    private static void imagesKeepWhatThereIs() {
        says("IMAGES 0, 1 keep all but THE RECORD.");
        for (int i = 0; i < 2; i++) {
            SafeParts x = Make.parts(3);
            x.channel(0, 1, 2, 5);
            x.channel(1, 2, 3, 4);
            x.event(0, 4, 9);
            x.event(2, 1, 3);
            int[] want = numbersOf(x);
            x.keep(i);
            x.channel(2, 0, 1, 1);
            x.event(1, 8, 2);
            x.form(1);
            x.finish();
            x.form(2);
            x.event(0, 900, 1);
            due("goBack(" + i + ")", x.goBack(i), 1);
            same(numbersOf(x), want);
            due("a CHANNEL may come again", x.channel(2, 0, 1, 1), 2);
        }
    }

    /** Every number that is counted is another one behind the IMAGE, and the old one again behind goBack. */
    private static void imagesKeepWhatWasRun() {
        says("IMAGES 0, 1 keep all but THE RECORD.");
        for (int i = 0; i < 2; i++) {
            SafeParts x = Make.ring(3, 2, 3);
            x.event(0, 4, 20);
            x.event(1, 4, 19);
            x.event(2, 3, 18);
            x.letGo();
            x.run(6);
            int[] want = numbersOf(x);
            x.keep(i);
            x.event(0, 9000, 1);
            x.run(12);
            x.form(1);
            x.run(40);
            x.letGo();
            int[] between = numbersOf(x);
            for (int what : new int[] {2, 3, 4, 5, 6, 7, 9}) {
                CHECK.holds("told(" + what + ") was another one", between[what] != want[what]);
            }
            for (int c = 0; c < 3; c++) {
                for (int what = 4; what < 7; what++) {
                    int at = 12 + 3 * 12 + 7 * c + what;
                    CHECK.holds("channelOf(" + c + ", " + what + ") was another one", between[at] != want[at]);
                }
            }
            due("goBack(" + i + ")", x.goBack(i), 1);
            same(numbersOf(x), want);
        }
    }

    /** CHANNEL 2 is another one in each IMAGE. */
    private static void imagesKeepChannels() {
        says("IMAGES 0, 1 keep all but THE RECORD.");
        SafeParts x = Make.parts(3);
        x.channel(0, 1, 2, 5);
        x.channel(1, 2, 3, 4);
        int[][] rows = {{2, 0, 7, 8, 0, 0, 0}, {1, 0, 0, 9, 0, 0, 0}};
        x.keep(0);
        x.channel(2, 0, 7, 8);
        x.keep(1);
        x.goBack(0);
        due("two", x.told(1), 2);
        due("CHANNEL 2 anew", x.channel(1, 0, 0, 9), 2);
        x.keep(0);
        for (int i = 1; i >= 0; i--) {
            x.goBack(i);
            for (int what = 0; what < 7; what++) {
                due("IMAGE " + i + ": channelOf(2, " + what + ")", x.channelOf(2, what), rows[1 - i][what]);
            }
        }
    }

    /** 10 by hand comes ahead of the LETTER that waits, also behind goBack. */
    private static void imagesKeepTheOrder() {
        says("IMAGES 0, 1 keep all but THE RECORD.");
        SafeParts x = Make.letterByTheLaterChannel();
        x.keep(0);
        x.event(2, 10, 50);
        x.goBack(0);
        due("the LETTER alone", x.part(2, 6), 19);
        x.event(2, 10, 51);
        due("by hand is the first", x.part(2, 6), 51);
        x.event(0, 6, 30);
        x.finish();
        int[] value = {20, 60, 30, 51, 29, 19};
        for (int k = 0; k < value.length; k++) {
            due("value of entry " + k, x.record(k, 2), value[k]);
        }
    }

    private static void same(int[] got, int[] want) {
        for (int k = 0; k < want.length; k++) {
            due("number " + k, got[k], want[k]);
        }
    }

    private static int[] numbersOf(SafeParts x) {
        int[] all = new int[12 + 3 * 12 + 3 * 7];
        int n = 0;
        for (int what = 0; what <= 12; what++) {
            if (what != 10) {
                all[n++] = x.told(what);
            }
        }
        for (int p = 0; p < 3; p++) {
            for (int what = 0; what <= 10; what++) {
                all[n++] = x.part(p, what);
            }
            all[n++] = x.inOrder(p, 1);
        }
        for (int c = 0; c < 3; c++) {
            for (int what = 0; what < 7; what++) {
                all[n++] = x.channelOf(c, what);
            }
        }
        return all;
    }

    private static void imagesKeepNoRecord() {
        says("IMAGES 0, 1 keep all but THE RECORD.");
        SafeParts x = Make.parts(1);
        due("not kept", x.goBack(0), NOT);
        x.event(0, 5, 6);
        x.keep(0);
        x.run(1);
        x.goBack(0);
        due("the entry is there", x.told(10), 1);
        due("its value", x.record(0, 2), 6);
        due("nothing was worked on", x.told(4), 0);
        x.run(1);
        due("it is worked on again: another entry", x.told(10), 2);
        due("its ROUND", x.record(1, 3), 0);
        due("worked on", x.told(4), 1);
    }
}
