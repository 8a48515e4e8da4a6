/** Promises 10 to 17: each sentence that names an edge has a test of its own. */
public final class EdgesOfWhatIsToldTest {
    private static final int NONE = SafeParts.NONE;
    private static final int NEVER = SafeParts.NEVER;
    private static final int UNKNOWN = SafeParts.UNKNOWN;
    private static final int OUTSIDE = SafeParts.OUTSIDE;
    private static final int NOT = SafeParts.NOT;
    private static final int MIN = Integer.MIN_VALUE;
    private static final int MAX = Integer.MAX_VALUE;
    private static final Check CHECK = new Check("EdgesOfWhatIsToldTest");

    public static void main(String[] args) {
        told();
        part();
        channelOf();
        between();
        record();
        ring();
        waits();
        inOrder();
        CHECK.end();
    }

    private static void told() {
        toldBounds();
        toldParts();
        toldChannels();
        toldForm();
        toldEventsThatWait();
        toldWorkedOn();
        toldEmptyLetters();
        toldRoundsAndLetGo();
        toldPartsThatMay();
        toldLeastTime();
        toldEntries();
        toldRingWithoutPromise();
        toldByHand();
    }

    private static void part() {
        partUnknown();
        partOutside();
        partWithoutAnything();
        partFirstTime();
        partFirstValue();
        partMay();
        partWaitsForTheLeastClock();
        partWaitsForNone();
        partChannelsFromAndTo();
    }

    private static void channelOf() {
        channelOfUnknown();
        channelOfOutside();
        channelOfEach();
        channelOfLetters();
    }

    private static void between() {
        betweenNone();
        betweenUnknown();
    }

    private static void record() {
        recordNotSoMany();
        recordOutside();
        recordFull();
    }

    private static void ring() {
        ringNone();
        ringBesideAnother();
        ringLeastAndMost();
        ringOfTheLesserWay();
        ringUnknown();
    }

    private static void waits() {
        waitsForNone();
        waitsAndSoOn();
        waitsItselfIfItComesBack();
        waitsOnlyByTheChannelForWhichItWaits();
        waitsUnknown();
    }

    private static void inOrder() {
        inOrderFromWhatIsSoNow();
        inOrder300FromNowOn();
        inOrderChangesNothing();
        inOrderIsTheSame();
        inOrderUnknown();
        inOrderOutside();
    }

    private static void says(String words) {
        CHECK.says(words);
    }

    private static void due(String call, int got, int want) {
        CHECK.due(call, got, want);
    }

    // ---- promise 10

    private static void toldBounds() {
        says("12 EVENTS by hand. OUTSIDE.");
        for (int parts = 0; parts <= 6; parts += 6) {
            SafeParts x = parts == 0 ? new SafeParts() : Make.parts(parts);
            for (int what : new int[] {MIN, -1, 13, MAX}) {
                due("told(" + what + ")", x.told(what), OUTSIDE);
            }
            due("told(0)", x.told(0), parts);
            due("told(12)", x.told(12), 0);
        }
    }

    private static void toldParts() {
        says("0 PARTS");
        due("none", new SafeParts().told(0), 0);
        for (int n = 1; n <= 6; n++) {
            due("there are " + n, Make.parts(n).told(0), n);
        }
    }

    private static void toldChannels() {
        says("1 CHANNELS");
        due("none", Make.parts(6).told(1), 0);
        due("one", Make.ring(2, 1, 1).told(1), 2);
        due("12", Make.twelveChannels().told(1), 12);
    }

    private static void toldForm() {
        says("2 FORM");
        SafeParts x = new SafeParts();
        due("at first", x.told(2), 0);
        x.form(2);
        due("2", x.told(2), 2);
        x.form(1);
        due("1", x.told(2), 1);
    }

    private static void toldEventsThatWait() {
        says("3 EVENTS that wait (of all)");
        SafeParts x = Make.parts(6);
        due("none", x.told(3), 0);
        for (int k = 1; k <= 30; k++) {
            x.event(k % 6, 5, 0);
            due("of all PARTS", x.told(3), k);
        }
        x.run(1);
        due("six fewer", x.told(3), 24);
        x.finish();
        due("none any more", x.told(3), 0);
        SafeParts y = Make.ring(2, 0, 1);
        y.event(0, 5, 2);
        y.letGo();
        due("a LETTER waits", y.told(3), 1);
    }

    private static void toldWorkedOn() {
        says("4 worked on");
        SafeParts x = Make.ring(2, 0, 1);
        x.form(1);
        x.event(0, 5, 2);
        due("none", x.told(4), 0);
        x.letGo();
        due("by LET GO", x.told(4), 1);
        x.finish();
        due("LETTERS, too", x.told(4), 3);
        due("all of both PARTS", x.part(0, 0) + x.part(1, 0), 3);
    }

    private static void toldEmptyLetters() {
        says("5 EMPTY LETTERS that went");
        SafeParts x = Make.twelveChannels();
        x.event(0, 90, 1);
        due("none", x.told(5), 0);
        x.run(3);
        int all = 0;
        for (int c = 0; c < 12; c++) {
            all += x.channelOf(c, 6);
        }
        due("by all CHANNELS", x.told(5), all);
        due("12 in each ROUND", all, 36);
    }

    private static void toldRoundsAndLetGo() {
        says("6 ROUNDS, 7 how often it was LET GO");
        SafeParts x = Make.ring(2, 0, 1);
        x.form(1);
        x.event(0, 5, 0);
        x.event(0, 6, 0);
        due("no ROUND", x.told(6), 0);
        due("not LET GO", x.told(7), 0);
        x.run(1);
        due("one ROUND", x.told(6), 1);
        due("not LET GO", x.told(7), 0);
        x.letGo();
        due("one ROUND", x.told(6), 1);
        due("LET GO once", x.told(7), 1);
        x.finish();
        due("two ROUNDS", x.told(6), 2);
        due("LET GO twice", x.told(7), 2);
    }

    private static void toldPartsThatMay() {
        says("8 PARTS that MAY work (a SET)");
        SafeParts x = Make.parts(6);
        due("none", x.told(8), 0);
        x.channel(5, 0, 1, 1);
        for (int p = 0; p < 6; p++) {
            x.event(p, 3, 0);
        }
        due("all but 0", x.told(8), 62);
        due("no PARTS", new SafeParts().told(8), 0);
    }

    private static void toldLeastTime() {
        says("9 the least time of all EVENTS (NEVER)");
        due("no PARTS", new SafeParts().told(9), NEVER);
        SafeParts x = Make.parts(6);
        due("no EVENTS", x.told(9), NEVER);
        x.event(5, 9999, 0);
        due("9999", x.told(9), 9999);
        x.event(2, 7, 0);
        due("7", x.told(9), 7);
        x.event(0, 8, 0);
        due("7 still", x.told(9), 7);
        x.event(5, 0, 0);
        due("0", x.told(9), 0);
        x.finish();
        due("no EVENTS any more", x.told(9), NEVER);
    }

    private static void toldEntries() {
        says("10 entries of THE RECORD");
        SafeParts x = Make.chains(2, 100, 100, 5);
        due("none", x.told(10), 0);
        x.run(1);
        x.letGo();
        due("one", x.told(10), 1);
        x.finish();
        due("200", x.told(10), 200);
        due("201 were worked on", x.told(4), 201);
    }

    private static void toldRingWithoutPromise() {
        says("11 1 there is a RING WITHOUT PROMISE, 0 not");
        due("no PARTS", new SafeParts().told(11), 0);
        due("no CHANNELS", Make.parts(6).told(11), 0);
        for (int parts = 2; parts <= 6; parts++) {
            due("without promise", Make.ring(parts, 0, 1).told(11), 1);
            due("with promises", Make.ring(parts, 1, 1).told(11), 0);
        }
        SafeParts x = Make.ring(2, 0, 1);
        x.form(1);
        due("in FORM 1, too", x.told(11), 1);
    }

    private static void toldByHand() {
        says("12 EVENTS by hand");
        SafeParts x = Make.ring(2, 0, 1);
        x.form(1);
        due("none", x.told(12), 0);
        x.event(0, 5, 3);
        x.event(0, -1, 3);
        due("one", x.told(12), 1);
        x.finish();
        due("LETTERS are not", x.told(12), 1);
        x.drift(2, 1);
        due("those by lots are", x.told(12), 3);
        due("30", Make.thirtyByHand(6).told(12), 30);
    }

    // ---- promise 11

    private static void partUnknown() {
        says("10 to it (how many). UNKNOWN, OUTSIDE.");
        for (int n = 1; n <= 6; n++) {
            SafeParts x = Make.parts(n);
            for (int p : new int[] {MIN, -1, n, MAX}) {
                due("part(" + p + ", 0) of " + n, x.part(p, 0), UNKNOWN);
                due("part(" + p + ", 10) of " + n, x.part(p, 10), UNKNOWN);
            }
            due("the first of " + n, x.part(0, 0), 0);
            due("the last of " + n, x.part(n - 1, 0), 0);
        }
    }

    private static void partOutside() {
        says("10 to it (how many). UNKNOWN, OUTSIDE.");
        SafeParts x = Make.parts(2);
        x.channel(0, 1, 1, 1);
        for (int what : new int[] {MIN, -1, 11, MAX}) {
            due("part(1, " + what + ")", x.part(1, what), OUTSIDE);
        }
        due("part(1, 0)", x.part(1, 0), 0);
        due("part(1, 10)", x.part(1, 10), 1);
    }

    private static void partWithoutAnything() {
        says("Of a PART: what = 0 COUNT, 1 SUM, 2 NOW, 3 SAFE, 4 EVENTS that wait");
        int[] want = {0, 0, 0, NEVER, 0, NEVER, NONE, 0, NONE, 0, 0};
        for (int n = 1; n <= 6; n++) {
            SafeParts x = Make.parts(n);
            for (int what = 0; what < want.length; what++) {
                due("part(" + (n - 1) + ", " + what + ")", x.part(n - 1, what), want[what]);
            }
        }
    }

    private static void partFirstTime() {
        says("5 time of the first (NEVER)");
        SafeParts x = Make.parts(2);
        due("none", x.part(0, 5), NEVER);
        x.event(0, 9999, 0);
        due("9999", x.part(0, 5), 9999);
        x.event(0, 0, 0);
        due("0", x.part(0, 5), 0);
        due("of the other none", x.part(1, 5), NEVER);
        x.run(1);
        due("9999 again", x.part(0, 5), 9999);
        x.run(1);
        due("none any more", x.part(0, 5), NEVER);
    }

    private static void partFirstValue() {
        says("6 its value (NONE)");
        SafeParts x = Make.parts(2);
        due("none", x.part(0, 6), NONE);
        x.event(0, 8, 99);
        due("99", x.part(0, 6), 99);
        x.event(0, 7, 0);
        due("0", x.part(0, 6), 0);
        due("of the other none", x.part(1, 6), NONE);
        x.run(2);
        due("none any more", x.part(0, 6), NONE);
    }

    private static void partMay() {
        says("7 1 it MAY work, 0 not");
        SafeParts x = Make.parts(2);
        x.channel(0, 1, 0, 1);
        due("no EVENT", x.part(0, 7), 0);
        x.event(0, 9999, 0);
        x.event(1, 0, 0);
        due("it may", x.part(0, 7), 1);
        due("it may not", x.part(1, 7), 0);
        x.run(1);
        due("no EVENT any more", x.part(0, 7), 0);
        due("CLOCK is NEVER now", x.part(1, 7), 1);
    }

    private static void partWaitsForTheLeastClock() {
        says("8 the CHANNEL for which it waits: that of the least CLOCK to it");
        SafeParts x = Make.parts(5);
        for (int p = 0; p < 4; p++) {
            x.channel(p, 4, 1, p == 0 ? 9 : 6);
        }
        x.form(1);
        x.event(4, 50, 0);
        due("of like ones the least number", x.part(4, 8), 0);
        for (int p = 0; p < 4; p++) {
            x.event(p, 0, 1);
        }
        x.run(1);
        due("CLOCKS 9, 6, 6, 6", x.part(4, 8), 1);
        due("6 is not above 5 and PROMISE 1", x.event(1, 5, 1), 1);
        x.run(1);
        due("CLOCKS 9, 11, 6, 6", x.part(4, 8), 2);
        due("PART 0 has no CHANNEL to it", x.part(0, 8), NONE);
    }

    private static void partWaitsForNone() {
        says("(NONE: it MAY, it has no EVENT)");
        SafeParts x = Make.parts(2);
        x.channel(0, 1, 0, 5);
        x.form(1);
        due("no EVENT", x.part(1, 8), NONE);
        x.event(1, 4, 0);
        due("it waits", x.part(1, 8), 0);
        x.event(0, 0, 1);
        x.event(0, 6, 0);
        due("without a CHANNEL to it", x.part(0, 8), NONE);
        due("both work", x.run(1), 2);
        due("the LETTER of 5 waits", x.part(1, 8), 0);
        x.event(1, 5, 0);
        due("5 by hand waits", x.part(1, 8), 0);
        x.form(0);
        x.run(1);
        due("it may", x.part(1, 8), NONE);
    }

    private static void partChannelsFromAndTo() {
        says("9 CHANNELS from it, 10 to it (how many)");
        SafeParts x = Make.parts(6);
        for (int p = 1; p < 6; p++) {
            x.channel(0, p, 1, 1);
            due("from 0", x.part(0, 9), p);
            due("to 0", x.part(0, 10), p - 1);
            x.channel(p, 0, 1, 1);
            due("to 0", x.part(0, 10), p);
            due("from " + p, x.part(p, 9), 1);
            due("to " + p, x.part(p, 10), 1);
        }
        SafeParts y = Make.twelveChannels();
        for (int p = 0; p < 6; p++) {
            due("from " + p + " of 12", y.part(p, 9), 2);
            due("to " + p + " of 12", y.part(p, 10), 2);
        }
    }

    // ---- promise 12

    private static void channelOfUnknown() {
        says("5 LETTERS that went by it, 6 EMPTY ones. UNKNOWN, OUTSIDE.");
        SafeParts x = Make.parts(2);
        due("without CHANNELS", x.channelOf(0, 0), UNKNOWN);
        x.channel(1, 0, 1, 1);
        for (int c : new int[] {MIN, -1, 1, 12, MAX}) {
            due("channelOf(" + c + ", 0)", x.channelOf(c, 0), UNKNOWN);
        }
        due("channelOf(0, 0)", x.channelOf(0, 0), 1);
        SafeParts y = Make.twelveChannels();
        due("the last of 12", y.channelOf(11, 1), 1);
        due("behind it", y.channelOf(12, 1), UNKNOWN);
    }

    private static void channelOfOutside() {
        says("5 LETTERS that went by it, 6 EMPTY ones. UNKNOWN, OUTSIDE.");
        SafeParts x = Make.twelveChannels();
        for (int c = 0; c < 12; c++) {
            for (int what : new int[] {MIN, -1, 7, MAX}) {
                due("channelOf(" + c + ", " + what + ")", x.channelOf(c, what), OUTSIDE);
            }
            due("channelOf(" + c + ", 0)", x.channelOf(c, 0), c % 6);
            due("channelOf(" + c + ", 6)", x.channelOf(c, 6), 0);
        }
    }

    private static void channelOfEach() {
        says("Of a CHANNEL: what = 0 from, 1 to, 2 PROMISE, 3 DELAY, 4 CLOCK");
        SafeParts x = Make.parts(6);
        int[][] rows = {{5, 0, 0, 1, 0, 0, 0}, {0, 5, 99, 99, 0, 0, 0}, {4, 3, 0, 99, 0, 0, 0}};
        for (int[] row : rows) {
            x.channel(row[0], row[1], row[2], row[3]);
        }
        for (int c = 0; c < rows.length; c++) {
            for (int what = 0; what < 7; what++) {
                due("channelOf(" + c + ", " + what + ")", x.channelOf(c, what), rows[c][what]);
            }
        }
    }

    private static void channelOfLetters() {
        says("5 LETTERS that went by it, 6 EMPTY ones");
        SafeParts x = Make.parts(2);
        x.channel(0, 1, 2, 5);
        x.event(0, 3, 1);
        x.event(0, 9, 2);
        x.event(1, 90, 0);
        x.run(1);
        due("a LETTER", x.channelOf(0, 5), 1);
        due("an EMPTY one behind it", x.channelOf(0, 6), 1);
        due("CLOCK: 9 and 2", x.channelOf(0, 4), 11);
        x.run(1);
        due("two LETTERS", x.channelOf(0, 5), 2);
        due("two EMPTY ones", x.channelOf(0, 6), 2);
        due("CLOCK", x.channelOf(0, 4), NEVER);
    }

    // ---- promise 13

    private static void betweenNone() {
        says("The CHANNEL from a PART to another one; NONE.");
        SafeParts x = Make.parts(6);
        due("without CHANNELS", x.between(0, 1), NONE);
        x.channel(0, 5, 1, 1);
        x.channel(5, 4, 1, 1);
        due("the first", x.between(0, 5), 0);
        due("the other way round", x.between(5, 0), NONE);
        due("the second", x.between(5, 4), 1);
        due("by two", x.between(0, 4), NONE);
        due("the last of 12", Make.twelveChannels().between(5, 1), 11);
    }

    private static void betweenUnknown() {
        says("The CHANNEL from a PART to another one; NONE. UNKNOWN.");
        for (int n = 1; n <= 6; n++) {
            SafeParts x = Make.parts(n);
            for (int p : new int[] {MIN, -1, n, MAX}) {
                due("from " + p + " of " + n, x.between(p, 0), UNKNOWN);
                due("to " + p + " of " + n, x.between(0, p), UNKNOWN);
            }
            due("one twice", x.between(n - 1, n - 1), UNKNOWN);
            if (n > 1) {
                due("the last", x.between(n - 1, 0), NONE);
                due("to the last", x.between(0, n - 1), NONE);
            }
        }
    }

    // ---- promise 14

    private static void recordNotSoMany() {
        says("NONE: not so many.");
        SafeParts x = Make.thirtyByHand(6);
        due("none yet", x.record(0, 0), NONE);
        x.run(1);
        due("the last", x.record(5, 0), 5);
        for (int k : new int[] {6, 199, 200, MAX}) {
            for (int what = 0; what < 4; what++) {
                due("record(" + k + ", " + what + ")", x.record(k, what), NONE);
            }
        }
        due("no PARTS", new SafeParts().record(0, 3), NONE);
    }

    private static void recordOutside() {
        says("OUTSIDE (what, k below 0)");
        SafeParts x = Make.thirtyByHand(1);
        x.run(1);
        for (int what : new int[] {MIN, -1, 4, MAX}) {
            due("record(0, " + what + ")", x.record(0, what), OUTSIDE);
            due("not so many, too: " + what, x.record(1, what), OUTSIDE);
        }
        for (int k : new int[] {MIN, -1}) {
            due("record(" + k + ", 0)", x.record(k, 0), OUTSIDE);
            due("record(" + k + ", 3)", x.record(k, 3), OUTSIDE);
        }
        due("record(0, 0)", x.record(0, 0), 0);
        due("record(0, 3)", x.record(0, 3), 0);
        due("no PARTS", new SafeParts().record(-1, 0), OUTSIDE);
    }

    private static void recordFull() {
        says("Entry k of THE RECORD: what = 0 PART, 1 time, 2 value, 3 ROUND");
        SafeParts x = Make.chains(2, 100, 100, 10);
        x.finish();
        x.finish();
        int[] last = {1, 3099, 0, 399};
        for (int what = 0; what < 4; what++) {
            due("record(199, " + what + ")", x.record(199, what), last[what]);
            due("record(200, " + what + ")", x.record(200, what), NONE);
        }
        due("210 were worked on", x.told(4), 210);
    }

    // ---- promise 15

    private static void ringNone() {
        says("The least PROMISES together of a way by CHANNELS from a PART back to itself; NONE: there is none.");
        due("one PART", Make.parts(1).ring(0), NONE);
        SafeParts x = Make.parts(6);
        for (int p = 0; p < 5; p++) {
            x.channel(p, p + 1, 0, 1);
            for (int q = 0; q < 6; q++) {
                due("no way back", x.ring(q), NONE);
            }
        }
        x.channel(5, 0, 0, 1);
        for (int q = 0; q < 6; q++) {
            due("a way back", x.ring(q), 0);
        }
    }

    /** 0 comes to the ring of 1 and 2, and from it one comes to 3; neither comes back. */
    private static void ringBesideAnother() {
        says("a way by CHANNELS from a PART back to itself");
        SafeParts x = Make.parts(4);
        x.channel(0, 1, 7, 7);
        x.channel(1, 2, 2, 2);
        x.channel(2, 1, 3, 3);
        x.channel(2, 3, 7, 7);
        int[] want = {NONE, 5, 5, NONE};
        for (int p = 0; p < 4; p++) {
            due("ring(" + p + ")", x.ring(p), want[p]);
        }
    }

    private static void ringLeastAndMost() {
        says("The least PROMISES together");
        for (int parts = 2; parts <= 6; parts++) {
            for (int promise : new int[] {0, 1, 99}) {
                SafeParts x = Make.ring(parts, promise, 99);
                for (int p = 0; p < parts; p++) {
                    due(parts + " times " + promise, x.ring(p), parts * promise);
                }
            }
        }
    }

    /** Round all: 60; by the CHANNEL from 2 to 0: 20 and its own PROMISE. */
    private static void ringOfTheLesserWay() {
        says("The least PROMISES together");
        int[][] rows = {{39, 59}, {40, 60}, {41, 60}};
        for (int[] row : rows) {
            SafeParts x = Make.ring(6, 10, 99);
            x.channel(2, 0, row[0], 99);
            due("of PART 0", x.ring(0), row[1]);
            due("of PART 1", x.ring(1), row[1]);
            due("of PART 2", x.ring(2), row[1]);
            due("of PART 3", x.ring(3), 60);
        }
    }

    private static void ringUnknown() {
        says("NONE: there is none. UNKNOWN.");
        for (int n = 1; n <= 6; n++) {
            SafeParts x = Make.parts(n);
            for (int p : new int[] {MIN, -1, n, MAX}) {
                due("ring(" + p + ") of " + n, x.ring(p), UNKNOWN);
            }
            due("the last of " + n, x.ring(n - 1), NONE);
        }
    }

    // ---- promise 16

    private static void waitsForNone() {
        says("PARTS for which a PART waits, by the CHANNEL for which it waits");
        SafeParts x = Make.parts(2);
        x.channel(0, 1, 1, 1);
        due("it has no EVENT", x.waits(1), 0);
        x.event(0, 5, 0);
        due("it may", x.waits(0), 0);
        x.event(1, 5, 0);
        due("it waits", x.waits(1), 1);
    }

    /** Each waits for the one ahead of it, the first for none. */
    private static void waitsAndSoOn() {
        says("and those for which these wait, and so on");
        SafeParts x = Make.parts(6);
        for (int p = 1; p < 6; p++) {
            x.channel(p - 1, p, 1, 1);
            x.event(p, 5, 0);
        }
        int[] want = {0, 1, 3, 7, 15, 31};
        for (int p = 0; p < 6; p++) {
            due("waits(" + p + ")", x.waits(p), want[p]);
        }
        x.event(0, 5, 0);
        due("0 may: the same", x.waits(5), 31);
        SafeParts y = Make.parts(6);
        for (int p = 1; p < 6; p++) {
            y.channel(p - 1, p, 1, 1);
        }
        y.event(5, 5, 0);
        due("4 has no EVENT", y.waits(5), 16);
    }

    private static void waitsItselfIfItComesBack() {
        says("itself, too, if it comes back");
        SafeParts x = Make.ring(6, 1, 1);
        for (int p = 0; p < 6; p++) {
            x.event(p, 5, 0);
        }
        for (int p = 0; p < 6; p++) {
            due("all six of " + p, x.waits(p), 63);
        }
        SafeParts y = Make.parts(4);
        y.channel(1, 2, 1, 1);
        y.channel(2, 1, 1, 1);
        y.channel(1, 0, 1, 1);
        y.channel(0, 3, 1, 1);
        for (int p = 0; p < 4; p++) {
            y.event(p, 5, 0);
        }
        int[] want = {6, 6, 6, 7};
        for (int p = 0; p < 4; p++) {
            due("waits(" + p + ")", y.waits(p), want[p]);
        }
    }

    private static void waitsOnlyByTheChannelForWhichItWaits() {
        says("by the CHANNEL for which it waits");
        SafeParts x = Make.parts(3);
        x.channel(1, 2, 1, 9);
        x.channel(0, 2, 1, 5);
        x.form(1);
        x.event(2, 50, 0);
        due("of like CLOCKS the least number: PART 1", x.waits(2), 2);
        x.event(0, 0, 1);
        x.event(1, 0, 1);
        x.run(1);
        due("CLOCKS 9 and 5: PART 0", x.waits(2), 1);
    }

    private static void waitsUnknown() {
        says("itself, too, if it comes back). UNKNOWN.");
        for (int n = 1; n <= 6; n++) {
            SafeParts x = Make.parts(n);
            for (int p : new int[] {MIN, -1, n, MAX}) {
                due("waits(" + p + ") of " + n, x.waits(p), UNKNOWN);
            }
            due("the last of " + n, x.waits(n - 1), 0);
        }
    }

    // ---- promise 17

    private static void inOrderFromWhatIsSoNow() {
        says("IN ORDER, from what is so now");
        SafeParts x = Make.parts(2);
        x.event(0, 5, 0);
        due("COUNT", x.inOrder(0, 0), 1);
        x.run(1);
        due("COUNT of what was worked on", x.inOrder(0, 0), 1);
        due("SUM of what was worked on", x.inOrder(0, 1), 5);
        x.event(0, 9, 1);
        due("and one more", x.inOrder(0, 0), 2);
        due("SUM", x.inOrder(0, 1), 31 * 5 + 10);
        due("the other PART", x.inOrder(1, 0), 0);
    }

    private static void inOrder300FromNowOn() {
        says("IN ORDER, from what is so now");
        SafeParts x = Make.chains(2, 100, 100, 100);
        x.event(1, 9000, 0);
        due("without the 301st", x.inOrder(1, 0), 150);
        due("one of PART 0", x.letGo(), 0);
        due("it is the 300th from now on", x.inOrder(1, 0), 151);
    }

    private static void inOrderChangesNothing() {
        says("IN ORDER: as if");
        SafeParts x = Make.chains(2, 50, 0, 0);
        due("COUNT", x.inOrder(0, 0), 25);
        due("nothing was worked on", x.told(4), 0);
        due("COUNT of the PART", x.part(0, 0), 0);
        due("SUM of the PART", x.part(0, 1), 0);
        due("NOW of the PART", x.part(0, 2), 0);
        due("one waits", x.told(3), 1);
        due("no entry", x.told(10), 0);
        due("CLOCK", x.channelOf(0, 4), 0);
        due("no LETTERS", x.channelOf(0, 5), 0);
        due("a CHANNEL that way", x.channel(0, 1, 1, 1), NOT);
        due("no IMAGE", x.goBack(0), NOT);
    }

    private static void inOrderIsTheSame() {
        says("how all would come out one by one in the order of times, which is the same");
        for (int form = 0; form < 3; form++) {
            SafeParts x = Make.twelveChannels();
            x.form(form);
            for (int p = 0; p < 6; p++) {
                x.event(p, 7 * p, 25 + p);
            }
            int[] want = new int[12];
            for (int k = 0; k < 12; k++) {
                want[k] = x.inOrder(k / 2, k % 2);
            }
            x.finish();
            due("no EVENT is left", x.told(3), 0);
            for (int k = 0; k < 12; k++) {
                due("in form " + form + " of " + k / 2, x.part(k / 2, k % 2), want[k]);
            }
        }
    }

    private static void inOrderUnknown() {
        says("what = 0 COUNT, 1 SUM of a PART in the end. UNKNOWN, OUTSIDE.");
        for (int n = 1; n <= 6; n++) {
            SafeParts x = Make.parts(n);
            for (int p : new int[] {MIN, -1, n, MAX}) {
                due("inOrder(" + p + ", 0) of " + n, x.inOrder(p, 0), UNKNOWN);
                due("inOrder(" + p + ", 1) of " + n, x.inOrder(p, 1), UNKNOWN);
            }
            due("the last of " + n, x.inOrder(n - 1, 0), 0);
        }
    }

    private static void inOrderOutside() {
        says("what = 0 COUNT, 1 SUM of a PART in the end. UNKNOWN, OUTSIDE.");
        SafeParts x = Make.parts(1);
        x.event(0, 6, 2);
        for (int what : new int[] {MIN, -1, 2, MAX}) {
            due("inOrder(0, " + what + ")", x.inOrder(0, what), OUTSIDE);
        }
        due("inOrder(0, 0)", x.inOrder(0, 0), 1);
        due("inOrder(0, 1)", x.inOrder(0, 1), 8);
    }
}
