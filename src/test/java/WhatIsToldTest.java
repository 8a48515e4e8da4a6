/** Promises 10 to 17: told, part, channelOf, between, record, ring, waits, inOrder. */
public final class WhatIsToldTest {
    private static final int NONE = SafeParts.NONE;
    private static final int NEVER = SafeParts.NEVER;
    private static final int UNKNOWN = SafeParts.UNKNOWN;
    private static final int OUTSIDE = SafeParts.OUTSIDE;
    private static final int MIN = Integer.MIN_VALUE;
    private static final int MAX = Integer.MAX_VALUE;
    private static final Check CHECK = new Check("WhatIsToldTest");

    public static void main(String[] args) {
        promise10Told();
        promise10RoundsAndLetGoApart();
        promise10RingWithoutPromise();
        promise11Part();
        promise11ChannelWaitedFor();
        promise12ChannelOf();
        promise13Between();
        promise14Record();
        promise14LetGoCountsAsARound();
        promise15Ring();
        promise16Waits();
        promise17InOrder();
        promise17InOrderFirst300();
        promise17InOrderLastOfLikeTimes();
        promise17SameAsFinish();
        CHECK.end();
    }

    private static void due(String call, int got, int want) {
        CHECK.due(call, got, want);
    }

    private static SafeParts threeParts() {
        SafeParts x = new SafeParts();
        x.parts(3);
        x.channel(0, 1, 2, 5);
        x.channel(2, 1, 3, 4);
        x.event(0, 4, 1);
        x.event(1, 6, 2);
        x.event(1, 4, 3);
        return x;
    }

    private static void promise10Told() {
        SafeParts x = threeParts();
        toldIs(x, "at first", new int[] {3, 2, 0, 3, 0, 0, 0, 0, 1, 4, 0, 0, 3});
        x.form(1);
        x.run(40);
        // Part 0 worked on 4; its letter of 9 waits with 4 and 6 of part 1, for channel 1.
        toldIs(x, "behind the round", new int[] {3, 2, 1, 3, 1, 0, 2, 0, 0, 4, 1, 0, 3});
        x.letGo();
        toldIs(x, "behind let go", new int[] {3, 2, 1, 2, 2, 0, 2, 1, 0, 6, 2, 0, 3});
        x.form(0);
        x.run(1);
        toldIs(x, "behind empty letters", new int[] {3, 2, 0, 2, 2, 2, 3, 1, 2, 6, 2, 0, 3});
        x.finish();
        toldIs(x, "in the end", new int[] {3, 2, 0, 0, 4, 2, 5, 1, 0, NEVER, 4, 0, 3});
        for (int what : new int[] {MIN, -1, 13, MAX}) {
            due("told(" + what + ")", x.told(what), OUTSIDE);
        }
    }

    private static void toldIs(SafeParts x, String when, int[] want) {
        for (int what = 0; what < want.length; what++) {
            due(when + ": told(" + what + ")", x.told(what), want[what]);
        }
    }

    private static void promise10RoundsAndLetGoApart() {
        SafeParts x = new SafeParts();
        x.parts(5);
        x.form(1);
        x.event(2, 0, 0);
        x.channel(0, 2, 0, 1);
        x.keep(0);
        due("finish", x.finish(), 1);
        due("the one that was STILL", x.told(6), 1);
        due("it was LET GO behind it", x.told(7), 1);
        x.goBack(0);
        due("no ROUND as it was kept", x.told(6), 0);
        due("not LET GO as it was kept", x.told(7), 0);
        due("T", x.letGo(), 0);
        due("no ROUND by letGo", x.told(6), 0);
        due("LET GO once", x.told(7), 1);
    }

    private static void promise10RingWithoutPromise() {
        SafeParts x = new SafeParts();
        x.parts(6);
        for (int p = 0; p < 5; p++) {
            x.channel(p + 1, p, 0, 1);
            due("a way is no ring", x.told(11), 0);
        }
        x.channel(0, 3, 1, 1);
        due("a ring with a promise", x.told(11), 0);
        x.keep(0);
        x.channel(0, 5, 0, 9);
        due("a ring of all six", x.told(11), 1);
        x.goBack(0);
        x.channel(2, 4, 0, 1);
        due("a ring beside others", x.told(11), 1);
    }

    private static void promise11Part() {
        SafeParts x = threeParts();
        partIs(x, 0, new int[] {0, 0, 0, NEVER, 1, 4, 1, 1, NONE, 1, 0});
        partIs(x, 1, new int[] {0, 0, 0, 0, 2, 4, 3, 0, 0, 0, 2});
        partIs(x, 2, new int[] {0, 0, 0, NEVER, 0, NEVER, NONE, 0, NONE, 1, 0});
        x.form(1);
        x.run(1);
        partIs(x, 0, new int[] {1, 5, 4, NEVER, 0, NEVER, NONE, 0, NONE, 1, 0});
        partIs(x, 1, new int[] {0, 0, 0, 0, 3, 4, 3, 0, 1, 0, 2});
        x.letGo();
        partIs(x, 1, new int[] {1, 7, 4, 5, 2, 6, 2, 0, 1, 0, 2});
        x.form(0);
        x.run(1);
        partIs(x, 1, new int[] {1, 7, 4, NEVER, 2, 6, 2, 1, NONE, 0, 2});
        for (int p : new int[] {MIN, -1, 3, 6, MAX}) {
            due("part(" + p + ", 0)", x.part(p, 0), UNKNOWN);
            due("UNKNOWN ahead of OUTSIDE", x.part(p, 11), UNKNOWN);
        }
        for (int what : new int[] {MIN, -1, 11, MAX}) {
            due("part(0, " + what + ")", x.part(0, what), OUTSIDE);
        }
    }

    private static void partIs(SafeParts x, int p, int[] want) {
        for (int what = 0; what < want.length; what++) {
            due("part(" + p + ", " + what + ")", x.part(p, what), want[what]);
        }
    }

    private static void promise11ChannelWaitedFor() {
        SafeParts x = new SafeParts();
        x.parts(4);
        x.channel(0, 3, 1, 1);
        x.channel(1, 3, 1, 1);
        x.channel(2, 3, 1, 1);
        due("without an event", x.part(3, 8), NONE);
        x.event(3, 0, 0);
        due("of like clocks the least number", x.part(3, 8), 0);
        x.event(0, 7, 1);
        x.event(1, 5, 1);
        x.event(2, 5, 1);
        x.form(1);
        x.run(1);
        // The letters of 8, 6, 6 came at once, so part 3 worked on 0 in the same round.
        due("worked on 0", x.part(3, 0), 1);
        due("the least clock of the least number", x.part(3, 8), 1);
        due("SAFE", x.part(3, 3), 6);
    }

    private static void promise12ChannelOf() {
        SafeParts x = threeParts();
        x.finish();
        // Round 0: part 0 works, a letter of 9; empty letters NEVER by both. Then part 1 alone.
        int[][] rows = {{0, 1, 2, 5, NEVER, 1, 1}, {2, 1, 3, 4, NEVER, 0, 1}};
        for (int c = 0; c < rows.length; c++) {
            for (int what = 0; what < 7; what++) {
                due("channelOf(" + c + ", " + what + ")", x.channelOf(c, what), rows[c][what]);
            }
        }
        for (int c : new int[] {MIN, -1, 2, 11, 12, MAX}) {
            due("channelOf(" + c + ", 0)", x.channelOf(c, 0), UNKNOWN);
            due("UNKNOWN ahead of OUTSIDE", x.channelOf(c, 7), UNKNOWN);
        }
        for (int what : new int[] {MIN, -1, 7, MAX}) {
            due("channelOf(0, " + what + ")", x.channelOf(0, what), OUTSIDE);
        }
    }

    private static void promise13Between() {
        SafeParts x = threeParts();
        due("between(0, 1)", x.between(0, 1), 0);
        due("between(2, 1)", x.between(2, 1), 1);
        due("between(1, 0)", x.between(1, 0), NONE);
        due("between(0, 2)", x.between(0, 2), NONE);
        due("one twice", x.between(1, 1), UNKNOWN);
        for (int p : new int[] {MIN, -1, 3, MAX}) {
            due("between(" + p + ", 1)", x.between(p, 1), UNKNOWN);
            due("between(0, " + p + ")", x.between(0, p), UNKNOWN);
        }
    }

    private static void promise14Record() {
        SafeParts x = threeParts();
        due("no entry", x.record(0, 0), NONE);
        x.finish();
        int[][] rows = {{0, 4, 1, 0}, {1, 4, 3, 1}, {1, 6, 2, 2}, {1, 9, 0, 3}};
        for (int k = 0; k < rows.length; k++) {
            for (int what = 0; what < 4; what++) {
                due("record(" + k + ", " + what + ")", x.record(k, what), rows[k][what]);
            }
        }
        for (int k : new int[] {4, 199, 200, MAX}) {
            due("record(" + k + ", 0)", x.record(k, 0), NONE);
            due("OUTSIDE, if not so many", x.record(k, 4), OUTSIDE);
        }
        for (int k : new int[] {MIN, -1}) {
            due("record(" + k + ", 0)", x.record(k, 0), OUTSIDE);
        }
        for (int what : new int[] {MIN, -1, 4, MAX}) {
            due("record(0, " + what + ")", x.record(0, what), OUTSIDE);
        }
    }

    private static void promise14LetGoCountsAsARound() {
        SafeParts x = new SafeParts();
        x.parts(3);
        x.channel(0, 1, 0, 1);
        x.form(1);
        x.event(1, 3, 0);
        x.event(1, 5, 0);
        x.event(2, 1, 0);
        x.event(2, 2, 0);
        due("finish", x.finish(), 4);
        // Part 2 works in 0 and 1; 2 is STILL, 3 lets 3 go, 4 is STILL, 5 lets 5 go.
        int[] round = {0, 1, 3, 5};
        for (int k = 0; k < round.length; k++) {
            due("ROUND of entry " + k, x.record(k, 3), round[k]);
        }
        due("ROUNDS", x.told(6), 4);
        due("LET GO", x.told(7), 2);
    }

    private static void promise15Ring() {
        SafeParts x = new SafeParts();
        x.parts(6);
        x.channel(5, 4, 10, 10);
        x.channel(4, 3, 20, 20);
        x.channel(3, 2, 30, 30);
        x.channel(2, 1, 40, 40);
        x.channel(1, 0, 50, 50);
        due("no ring", x.ring(5), NONE);
        x.channel(0, 5, 99, 99);
        for (int p = 0; p < 6; p++) {
            due("all round from " + p, x.ring(p), 249);
        }
        x.channel(3, 5, 1, 9);
        due("shorter", x.ring(5), 31);
        due("shorter", x.ring(4), 31);
        due("not for part 2", x.ring(2), 249);
        x.channel(4, 0, 0, 1);
        due("a way aside", x.ring(0), 109);
        due("not for part 1", x.ring(1), 249);
        x.channel(0, 4, 0, 1);
        due("without promise", x.ring(0), 0);
        due("without promise", x.ring(4), 0);
        due("by what is without", x.ring(1), 140);
        for (int p : new int[] {MIN, -1, 6, MAX}) {
            due("ring(" + p + ")", x.ring(p), UNKNOWN);
        }
        x.parts(6);
        for (int p = 5; p >= 0; p--) {
            x.channel(p, (p + 1) % 6, 1 + p, 9);
        }
        for (int p = 0; p < 6; p++) {
            due("all round against the numbers from " + p, x.ring(p), 21);
        }
    }

    private static void promise16Waits() {
        SafeParts x = new SafeParts();
        x.parts(4);
        x.channel(1, 0, 1, 1);
        x.channel(2, 1, 1, 1);
        x.channel(1, 2, 1, 1);
        x.channel(3, 2, 1, 1);
        for (int p = 0; p < 4; p++) {
            due("without events " + p, x.waits(p), 0);
        }
        x.event(0, 5, 0);
        due("1 has no event", x.waits(0), 2);
        x.event(1, 5, 0);
        due("2 has none", x.waits(0), 6);
        due("not itself", x.waits(1), 4);
        due("2", x.waits(2), 0);
        x.event(2, 5, 0);
        due("it goes round, without part 0", x.waits(0), 6);
        due("itself, too", x.waits(1), 6);
        due("itself, too", x.waits(2), 6);
        x.event(3, 5, 0);
        due("3 may work", x.waits(3), 0);
        for (int p : new int[] {MIN, -1, 4, MAX}) {
            due("waits(" + p + ")", x.waits(p), UNKNOWN);
        }
        x.parts(6);
        for (int p = 0; p < 6; p++) {
            x.channel((p + 1) % 6, p, 1, 1);
            x.event(p, 1, 0);
        }
        due("all six", x.waits(0), 63);
    }

    private static void promise17InOrder() {
        SafeParts x = new SafeParts();
        x.parts(2);
        x.channel(0, 1, 0, 3);
        x.channel(1, 0, 0, 2);
        x.event(0, 5, 2);
        x.event(1, 5, 1);
        // 0 works on 5 (2), 1 on 5 (1), 0 on the letter of 7 (0), 1 on the letter of 8 (1), 0 on 10 (0).
        due("COUNT of 0", x.inOrder(0, 0), 3);
        due("SUM of 0", x.inOrder(0, 1), 31 * (31 * 7 + 7) + 10);
        due("COUNT of 1", x.inOrder(1, 0), 2);
        due("SUM of 1", x.inOrder(1, 1), 31 * 6 + 9);
        due("nothing was worked on", x.told(4), 0);
        due("no round", x.told(6), 0);
        due("no entry", x.told(10), 0);
        due("clock", x.channelOf(0, 4), 0);
        due("letters", x.channelOf(0, 5), 0);
        due("what waits", x.told(3), 2);
        x.letGo();
        due("from what is so now", x.inOrder(0, 0), 3);
        due("from what is so now", x.inOrder(1, 1), 31 * 6 + 9);
        for (int p : new int[] {MIN, -1, 2, MAX}) {
            due("inOrder(" + p + ", 0)", x.inOrder(p, 0), UNKNOWN);
            due("UNKNOWN ahead of OUTSIDE", x.inOrder(p, 2), UNKNOWN);
        }
        for (int what : new int[] {MIN, -1, 2, MAX}) {
            due("inOrder(0, " + what + ")", x.inOrder(0, what), OUTSIDE);
        }
    }

    private static void promise17InOrderFirst300() {
        SafeParts x = new SafeParts();
        x.parts(2);
        x.channel(0, 1, 0, 1);
        x.channel(1, 0, 0, 1);
        x.form(1);
        x.event(0, 0, 99);
        x.event(0, 3000, 99);
        x.event(0, 6000, 99);
        due("300 of part 0", x.inOrder(0, 0), 150);
        due("300 of part 1", x.inOrder(1, 0), 150);
        x.event(1, 9000, 0);
        due("the 301st does not come", x.inOrder(1, 0), 150);
        x.run(1);
        x.letGo();
        due("300 from now on", x.inOrder(1, 0), 151);
    }

    /** 299 EVENTS, then two of one time: only that of the least PART comes. */
    private static void promise17InOrderLastOfLikeTimes() {
        SafeParts x = new SafeParts();
        x.parts(4);
        x.channel(0, 1, 0, 1);
        x.channel(1, 0, 0, 1);
        x.event(0, 0, 99);
        x.event(0, 3000, 99);
        x.event(0, 6000, 98);
        x.event(3, 9000, 0);
        x.event(2, 9000, 0);
        due("of part 2", x.inOrder(2, 0), 1);
        due("of part 3", x.inOrder(3, 0), 0);
    }

    private static void promise17SameAsFinish() {
        for (int seed = 1; seed <= 300; seed++) {
            for (int form = 0; form < 3; form++) {
                sameAsFinish(seed, form);
            }
        }
    }

    private static void sameAsFinish(int seed, int form) {
        java.util.Random random = new java.util.Random(seed);
        SafeParts x = new SafeParts();
        int parts = 2 + random.nextInt(5);
        x.parts(parts);
        for (int k = 0; k < 12; k++) {
            int promise = 1 + random.nextInt(20);
            x.channel(random.nextInt(parts), random.nextInt(parts), promise, promise + random.nextInt(20));
        }
        x.form(form);
        x.drift(1 + random.nextInt(12), seed);
        int[] count = new int[parts];
        int[] sum = new int[parts];
        for (int p = 0; p < parts; p++) {
            count[p] = x.inOrder(p, 0);
            sum[p] = x.inOrder(p, 1);
        }
        for (int k = 0; k < 10 && x.told(3) > 0; k++) {
            x.finish();
        }
        String run = "seed " + seed + ", form " + form;
        for (int p = 0; p < parts; p++) {
            due(run + ": COUNT of " + p, x.part(p, 0), count[p]);
            due(run + ": SUM of " + p, x.part(p, 1), sum[p]);
        }
    }
}
