/** Promises 1 to 6: each sentence that names an edge has a test of its own. */
public final class EdgesOfWhatThereIsTest {
    private static final int NONE = SafeParts.NONE;
    private static final int NEVER = SafeParts.NEVER;
    private static final int UNKNOWN = SafeParts.UNKNOWN;
    private static final int OUTSIDE = SafeParts.OUTSIDE;
    private static final int NOT = SafeParts.NOT;
    private static final int FULL = SafeParts.FULL;
    private static final int MIN = Integer.MIN_VALUE;
    private static final int MAX = Integer.MAX_VALUE;
    private static final Check CHECK = new Check("EdgesOfWhatThereIsTest");

    public static void main(String[] args) {
        newObject();
        parts();
        channel();
        event();
        formBounds();
        formWhatItWas();
        drift();
        CHECK.end();
    }

    private static void parts() {
        partsBounds();
        partsNoChannels();
        partsNoEvents();
        partsNothingWorkedOn();
        partsRoundsZero();
        partsRecordZero();
        partsEmptyLettersZero();
        partsFormStays();
        partsImagesAreGone();
        partsHowManyWereWorkedOn();
    }

    private static void channel() {
        channelItsNumber();
        channelUnknown();
        channelDelayLessThanPromise();
        channelOutside();
        channelOneThatWay();
        channelBehindARound();
        channelBehindARefusedRun();
        channelBehindLetGo();
        channelBehindARefusedLetGo();
        channelFull();
    }

    private static void event() {
        eventHowMany();
        eventUnknown();
        eventOutside();
        eventAtOrAheadOfNow();
        eventAtZero();
        eventBehindALetter();
        eventOfAPartThatHasNotWorked();
        eventAheadOfAClock();
        eventAheadOfOneOfSeveralClocks();
        eventAheadOfNever();
        eventAndClocksOfOthers();
        eventFull();
    }

    private static void drift() {
        driftBoundsOfN();
        driftBoundsOfSeed();
        driftHowManyCame();
        driftNoParts();
    }

    private static void says(String words) {
        CHECK.says(words);
    }

    private static void due(String call, int got, int want) {
        CHECK.due(call, got, want);
    }

    // ---- promise 1

    private static void newObject() {
        says("`SafeParts()`: No PARTS.");
        SafeParts x = new SafeParts();
        int[] want = {0, 0, 0, 0, 0, 0, 0, 0, 0, NEVER, 0, 0, 0};
        for (int what = 0; what < want.length; what++) {
            due("told(" + what + ")", x.told(what), want[what]);
        }
        for (int p = 0; p < 6; p++) {
            due("part(" + p + ", 0)", x.part(p, 0), UNKNOWN);
            due("ring(" + p + ")", x.ring(p), UNKNOWN);
            due("waits(" + p + ")", x.waits(p), UNKNOWN);
            due("inOrder(" + p + ", 0)", x.inOrder(p, 0), UNKNOWN);
            due("event of " + p, x.event(p, 0, 0), UNKNOWN);
        }
        due("channel(0, 1, 1, 1)", x.channel(0, 1, 1, 1), UNKNOWN);
        due("between(0, 1)", x.between(0, 1), UNKNOWN);
        due("channelOf(0, 0)", x.channelOf(0, 0), UNKNOWN);
        due("record(0, 0)", x.record(0, 0), NONE);
        due("drift(1, 1)", x.drift(1, 1), NOT);
        due("run(1)", x.run(1), NOT);
        due("letGo()", x.letGo(), NOT);
        due("finish()", x.finish(), NOT);
        due("goBack(0)", x.goBack(0), NOT);
        due("goBack(1)", x.goBack(1), NOT);
    }

    // ---- promise 2

    private static void partsBounds() {
        says("Anew: n PARTS (1 .. 6)");
        for (int n : new int[] {MIN, -1, 0, 7, 8, MAX}) {
            SafeParts x = new SafeParts();
            due("parts(" + n + ")", x.parts(n), OUTSIDE);
            due("there are none", x.told(0), 0);
        }
        for (int n = 1; n <= 6; n++) {
            SafeParts x = new SafeParts();
            due("parts(" + n + ")", x.parts(n), 0);
            due("there are " + n, x.told(0), n);
        }
        SafeParts y = new SafeParts();
        due("more", y.parts(6), 0);
        due("fewer", y.parts(1), 0);
        due("there is one", y.told(0), 1);
        due("no second", y.part(1, 0), UNKNOWN);
    }

    /** Of everything something, and both IMAGES kept. */
    private static SafeParts busy() {
        SafeParts x = Make.twelveChannels();
        for (int p = 0; p < 6; p++) {
            x.event(p, 2 * p, 9);
        }
        x.keep(0);
        x.run(5);
        x.form(1);
        x.run(40);
        x.letGo();
        x.keep(1);
        CHECK.holds("busy", x.told(3) > 0 && x.told(4) > 0 && x.told(5) > 0 && x.told(6) > 0 && x.told(7) > 0 && x.told(10) > 0);
        return x;
    }

    private static void partsNoChannels() {
        says("no CHANNELS");
        SafeParts x = busy();
        x.parts(6);
        due("told(1)", x.told(1), 0);
        due("channelOf(0, 0)", x.channelOf(0, 0), UNKNOWN);
        due("between(0, 1)", x.between(0, 1), NONE);
        for (int p = 0; p < 6; p++) {
            due("SAFE of " + p, x.part(p, 3), NEVER);
            due("from " + p, x.part(p, 9), 0);
            due("to " + p, x.part(p, 10), 0);
            due("ring of " + p, x.ring(p), NONE);
        }
        due("the same way is free", x.channel(0, 1, 1, 1), 0);
        due("CLOCK", x.channelOf(0, 4), 0);
        due("LETTERS", x.channelOf(0, 5), 0);
        due("EMPTY ones", x.channelOf(0, 6), 0);
    }

    private static void partsNoEvents() {
        says("no EVENTS");
        SafeParts x = busy();
        x.parts(6);
        due("that wait", x.told(3), 0);
        due("the least time", x.told(9), NEVER);
        due("that may", x.told(8), 0);
        due("by hand", x.told(12), 0);
        for (int p = 0; p < 6; p++) {
            due("of " + p, x.part(p, 4), 0);
            due("first time of " + p, x.part(p, 5), NEVER);
        }
        SafeParts y = Make.thirtyByHand(2);
        y.parts(2);
        for (int k = 1; k <= 30; k++) {
            due("30 may come again", y.event(0, k, 0), k);
        }
    }

    private static void partsNothingWorkedOn() {
        says("Anew");
        SafeParts x = busy();
        x.parts(6);
        due("worked on", x.told(4), 0);
        for (int p = 0; p < 6; p++) {
            due("COUNT of " + p, x.part(p, 0), 0);
            due("SUM of " + p, x.part(p, 1), 0);
            due("NOW of " + p, x.part(p, 2), 0);
            due("an EVENT of 0 of " + p, x.event(p, 0, 0), 1);
        }
    }

    private static void partsRoundsZero() {
        says("no EVENTS, ROUNDS, RECORD, EMPTY LETTERS 0");
        SafeParts x = busy();
        x.parts(2);
        due("ROUNDS", x.told(6), 0);
        due("LET GO", x.told(7), 0);
        due("a CHANNEL may come", x.channel(0, 1, 1, 1), 0);
        x.event(0, 3, 0);
        x.run(1);
        due("the next ROUND is 0", x.record(0, 3), 0);
    }

    private static void partsRecordZero() {
        says("no EVENTS, ROUNDS, RECORD, EMPTY LETTERS 0");
        SafeParts x = busy();
        x.parts(2);
        due("entries", x.told(10), 0);
        due("entry 0", x.record(0, 0), NONE);
    }

    private static void partsEmptyLettersZero() {
        says("no EVENTS, ROUNDS, RECORD, EMPTY LETTERS 0");
        SafeParts x = busy();
        x.parts(2);
        due("EMPTY LETTERS", x.told(5), 0);
    }

    private static void partsFormStays() {
        says("FORM stays");
        for (int form = 0; form < 3; form++) {
            SafeParts x = new SafeParts();
            x.form(form);
            x.parts(2);
            due("told(2)", x.told(2), form);
            due("what it was", x.form(1), form);
        }
    }

    private static void partsImagesAreGone() {
        says("IMAGES are gone");
        SafeParts x = busy();
        due("they are there", x.goBack(0), 1);
        due("they are there", x.goBack(1), 1);
        x.parts(6);
        due("IMAGE 0", x.goBack(0), NOT);
        due("IMAGE 1", x.goBack(1), NOT);
        x.keep(1);
        due("IMAGE 0 is not kept with 1", x.goBack(0), NOT);
        due("IMAGE 1 is", x.goBack(1), 1);
    }

    private static void partsHowManyWereWorkedOn() {
        says("how many EVENTS were worked on");
        SafeParts x = Make.thirtyByHand(3);
        due("none yet", x.parts(2), 0);
        x.event(0, 1, 0);
        x.event(1, 1, 0);
        x.event(1, 2, 0);
        x.keep(0);
        x.finish();
        due("three", x.told(4), 3);
        x.goBack(0);
        due("none as it was kept", x.parts(1), 0);
        x.event(0, 1, 0);
        x.event(0, 1, 0);
        x.run(1);
        due("one, and one that waits", x.parts(1), 1);
        due("none since", x.parts(1), 0);
    }

    // ---- promise 3

    private static void channelItsNumber() {
        says("A CHANNEL: its number.");
        SafeParts x = Make.parts(6);
        for (int c = 0; c < 5; c++) {
            due("CHANNEL " + c, x.channel(5 - c, 0, c, c + 1), c);
            due("refused ones have none", x.channel(5 - c, 0, c, c + 1), NOT);
        }
        for (int c = 0; c < 5; c++) {
            due("from", x.channelOf(c, 0), 5 - c);
            due("to", x.channelOf(c, 1), 0);
            due("PROMISE", x.channelOf(c, 2), c);
            due("DELAY", x.channelOf(c, 3), c + 1);
        }
    }

    private static void channelUnknown() {
        says("`int channel(int from, int to, int promise, int delay)`: A CHANNEL: its number. UNKNOWN");
        for (int n = 2; n <= 6; n++) {
            SafeParts x = Make.parts(n);
            for (int p : new int[] {MIN, -1, n, MAX}) {
                due("from " + p + " of " + n, x.channel(p, 0, 1, 1), UNKNOWN);
                due("to " + p + " of " + n, x.channel(0, p, 1, 1), UNKNOWN);
            }
            due("to itself", x.channel(n - 1, n - 1, 1, 1), UNKNOWN);
            due("from the last", x.channel(n - 1, 0, 1, 1), 0);
            due("to the last", x.channel(0, n - 1, 1, 1), 1);
        }
    }

    private static void channelDelayLessThanPromise() {
        says("OUTSIDE (DELAY less than PROMISE, too)");
        SafeParts x = Make.parts(2);
        due("99 and 98", x.channel(0, 1, 99, 98), OUTSIDE);
        due("2 and 1", x.channel(0, 1, 2, 1), OUTSIDE);
        due("99 and 1", x.channel(0, 1, 99, 1), OUTSIDE);
        due("none came", x.told(1), 0);
        due("99 and 99", x.channel(0, 1, 99, 99), 0);
        due("1 and 1", x.channel(1, 0, 1, 1), 1);
    }

    private static void channelOutside() {
        says("OUTSIDE (DELAY less than PROMISE, too)");
        SafeParts x = Make.parts(2);
        for (int promise : new int[] {MIN, -1, 100, MAX}) {
            due("PROMISE " + promise, x.channel(0, 1, promise, 99), OUTSIDE);
        }
        for (int delay : new int[] {MIN, -1, 0, 100, MAX}) {
            due("DELAY " + delay, x.channel(0, 1, 0, delay), OUTSIDE);
        }
        due("100 and 100", x.channel(0, 1, 100, 100), OUTSIDE);
        due("0 and 1", x.channel(0, 1, 0, 1), 0);
        due("0 and 99", x.channel(1, 0, 0, 99), 1);
    }

    private static void channelOneThatWay() {
        says("NOT: there is one that way");
        SafeParts x = Make.twelveChannels();
        for (int c = 0; c < 12; c++) {
            due("that of " + c, x.channel(x.channelOf(c, 0), x.channelOf(c, 1), 3, 3), NOT);
        }
    }

    private static void channelBehindARound() {
        says("a ROUND was run or LET GO");
        for (int form = 0; form < 3; form++) {
            SafeParts x = Make.parts(3);
            x.channel(0, 1, 1, 1);
            x.form(form);
            x.event(1, 5, 0);
            due("ahead of it", x.channel(1, 0, 1, 1), 1);
            due("nothing is worked on", x.run(1), 0);
            due("behind it", x.channel(1, 2, 1, 1), NOT);
            x.finish();
            due("without EVENTS, too", x.channel(1, 2, 1, 1), NOT);
            x.parts(3);
            due("anew", x.channel(1, 2, 1, 1), 0);
        }
    }

    private static void channelBehindARefusedRun() {
        says("a ROUND was run or LET GO");
        SafeParts x = Make.parts(3);
        x.channel(0, 1, 0, 1);
        x.channel(1, 0, 0, 1);
        x.event(0, 4, 0);
        due("run(41)", x.run(41), OUTSIDE);
        due("run(1)", x.run(1), NOT);
        due("finish()", x.finish(), NOT);
        due("no ROUND was run", x.channel(1, 2, 1, 1), 2);
    }

    private static void channelBehindLetGo() {
        says("a ROUND was run or LET GO");
        SafeParts x = Make.parts(3);
        x.channel(0, 1, 1, 1);
        x.event(1, 5, 0);
        due("T", x.letGo(), 5);
        due("no ROUND", x.told(6), 0);
        due("behind it", x.channel(1, 2, 1, 1), NOT);
    }

    private static void channelBehindARefusedLetGo() {
        says("a ROUND was run or LET GO");
        SafeParts x = Make.parts(3);
        due("no EVENTS", x.letGo(), NOT);
        due("one comes", x.channel(0, 1, 1, 1), 0);
        x.event(0, 5, 0);
        due("PART 0 may", x.letGo(), NOT);
        due("one comes", x.channel(1, 2, 1, 1), 1);
    }

    private static void channelFull() {
        says("FULL (12)");
        SafeParts x = Make.twelveChannels();
        due("there are 12", x.told(1), 12);
        for (int p = 0; p < 6; p++) {
            due("one more from " + p, x.channel(p, (p + 3) % 6, 1, 2), FULL);
        }
        due("there are 12", x.told(1), 12);
        SafeParts y = Make.parts(3);
        for (int c = 0; c < 6; c++) {
            due("of three PARTS 6 at most", y.channel(c / 2, (c / 2 + 1 + c % 2) % 3, 1, 1), c);
        }
        due("then there is one that way", y.channel(2, 1, 1, 1), NOT);
    }

    // ---- promise 4

    private static void eventHowMany() {
        says("An EVENT by hand: how many EVENTS the PART has.");
        SafeParts x = Make.parts(2);
        x.channel(0, 1, 1, 7);
        x.form(1);
        due("the first", x.event(1, 50, 0), 1);
        due("of the other PART", x.event(0, 3, 5), 1);
        due("the second", x.event(1, 40, 0), 2);
        x.run(1);
        due("a LETTER came", x.event(1, 60, 0), 4);
        x.letGo();
        due("one was worked on", x.event(1, 70, 0), 4);
    }

    private static void eventUnknown() {
        says("`int event(int part, int time, int value)`: An EVENT by hand: how many EVENTS the PART has. UNKNOWN");
        for (int n = 1; n <= 6; n++) {
            SafeParts x = Make.parts(n);
            for (int p : new int[] {MIN, -1, n, MAX}) {
                due("PART " + p + " of " + n, x.event(p, 0, 0), UNKNOWN);
            }
            due("the last of " + n, x.event(n - 1, 0, 0), 1);
            due("one came", x.told(12), 1);
        }
    }

    private static void eventOutside() {
        says("UNKNOWN, OUTSIDE, NOT: the PART worked on one of that time or a later one");
        SafeParts x = Make.parts(1);
        for (int time : new int[] {MIN, -1, 10000, NEVER, MAX}) {
            due("time " + time, x.event(0, time, 5), OUTSIDE);
        }
        for (int value : new int[] {MIN, -1, 100, MAX}) {
            due("value " + value, x.event(0, 5, value), OUTSIDE);
        }
        due("none came", x.told(12), 0);
        due("0 and 0", x.event(0, 0, 0), 1);
        due("9999 and 99", x.event(0, 9999, 99), 2);
    }

    private static void eventAtOrAheadOfNow() {
        says("NOT: the PART worked on one of that time or a later one");
        SafeParts x = Make.parts(2);
        x.event(0, 10, 0);
        x.event(0, 12, 0);
        due("10 waits: at it", x.event(0, 10, 0), 3);
        x.run(2);
        due("10 was worked on twice", x.part(0, 2), 10);
        due("0", x.event(0, 0, 0), NOT);
        due("9", x.event(0, 9, 0), NOT);
        due("10", x.event(0, 10, 0), NOT);
        due("11", x.event(0, 11, 0), 2);
        due("12, which waits", x.event(0, 12, 0), 3);
    }

    private static void eventAtZero() {
        says("NOT: the PART worked on one of that time or a later one");
        SafeParts x = Make.parts(1);
        due("it has not worked", x.event(0, 0, 0), 1);
        due("once more", x.event(0, 0, 0), 2);
        x.run(1);
        due("it worked on 0", x.event(0, 0, 0), NOT);
        due("1", x.event(0, 1, 0), 2);
        SafeParts y = Make.parts(1);
        y.event(0, 9999, 0);
        y.run(1);
        due("it worked on 9999", y.event(0, 9999, 0), NOT);
        due("9998", y.event(0, 9998, 0), NOT);
    }

    private static void eventBehindALetter() {
        says("NOT: the PART worked on one of that time or a later one");
        SafeParts x = Make.parts(2);
        x.channel(0, 1, 5, 7);
        x.event(0, 3, 1);
        x.finish();
        due("it worked on a LETTER", x.part(1, 2), 10);
        due("10", x.event(1, 10, 0), NOT);
        due("11", x.event(1, 11, 0), 1);
        SafeParts y = Make.parts(2);
        y.channel(0, 1, 0, 99);
        y.event(0, 9999, 1);
        y.finish();
        due("it worked on a LETTER behind 9999", y.part(1, 2), 10098);
        due("9999", y.event(1, 9999, 0), NOT);
    }

    private static void eventOfAPartThatHasNotWorked() {
        says("NOT: the PART worked on one of that time or a later one");
        SafeParts x = Make.parts(3);
        x.event(1, 500, 0);
        x.run(1);
        due("of PART 0, though PART 1 worked", x.event(0, 0, 0), 1);
        due("of PART 2", x.event(2, 0, 0), 1);
        due("of PART 1", x.event(1, 500, 0), NOT);
    }

    /** CLOCK is 20 and PROMISE. */
    private static void eventAheadOfAClock() {
        says("a CHANNEL from it has a CLOCK above the time and PROMISE");
        for (int promise : new int[] {0, 3, 99}) {
            SafeParts x = Make.parts(2);
            x.channel(0, 1, promise, 99);
            x.event(0, 10, 0);
            x.event(0, 20, 0);
            x.run(1);
            due("CLOCK", x.channelOf(0, 4), 20 + promise);
            due("19: it is above", x.event(0, 19, 0), NOT);
            due("11: it is above", x.event(0, 11, 0), NOT);
            due("20: it is not", x.event(0, 20, 0), 2);
            due("21: it is not", x.event(0, 21, 0), 3);
        }
    }

    /** LETTERS alone: CLOCK 0 is 8, CLOCK 1 is 30, and PROMISE 4. */
    private static void eventAheadOfOneOfSeveralClocks() {
        says("a CHANNEL from it has a CLOCK above the time and PROMISE");
        SafeParts x = Make.parts(3);
        x.channel(0, 1, 4, 6);
        x.channel(0, 2, 4, 28);
        x.form(1);
        x.event(0, 2, 4);
        x.event(0, 2, 3);
        x.run(2);
        due("CLOCK 0", x.channelOf(0, 4), 8);
        due("CLOCK 1", x.channelOf(1, 4), 30);
        due("25", x.event(0, 25, 0), NOT);
        due("26", x.event(0, 26, 0), 1);
    }

    private static void eventAheadOfNever() {
        says("a CHANNEL from it has a CLOCK above the time and PROMISE");
        SafeParts x = Make.parts(2);
        x.channel(0, 1, 99, 99);
        x.event(1, 5, 0);
        x.run(1);
        due("CLOCK", x.channelOf(0, 4), NEVER);
        due("the last time", x.event(0, 9999, 0), NOT);
        due("of the other PART", x.event(1, 0, 0), 2);
    }

    private static void eventAndClocksOfOthers() {
        says("a CHANNEL from it has a CLOCK above the time and PROMISE");
        SafeParts x = Make.parts(3);
        x.channel(0, 1, 1, 1);
        x.channel(2, 1, 1, 1);
        x.event(0, 40, 0);
        x.event(0, 50, 0);
        x.event(2, 60, 0);
        x.event(2, 60, 0);
        x.run(1);
        due("CLOCK 0", x.channelOf(0, 4), 51);
        due("CLOCK 1", x.channelOf(1, 4), 61);
        due("CHANNELS to it do not count", x.event(1, 0, 0), 1);
        due("CHANNELS from others do not", x.event(0, 50, 0), 2);
    }

    private static void eventFull() {
        says("FULL (30 by hand)");
        SafeParts x = Make.parts(2);
        for (int k = 0; k < 29; k++) {
            x.event(k % 2, 100, 0);
        }
        x.keep(0);
        due("the 30th", x.event(1, 100, 0), 15);
        due("the 31st", x.event(0, 100, 0), FULL);
        x.finish();
        due("worked on", x.event(0, 500, 0), FULL);
        x.goBack(0);
        due("29 as it was kept", x.told(12), 29);
        due("the 30th", x.event(0, 500, 0), 16);
        due("the 31st", x.event(0, 500, 0), FULL);
    }

    // ---- promise 5

    private static void formBounds() {
        says("FORM (0 .. 2): what it was. OUTSIDE.");
        SafeParts x = new SafeParts();
        for (int v : new int[] {MIN, -1, 3, MAX}) {
            due("form(" + v + ")", x.form(v), OUTSIDE);
            due("told(2)", x.told(2), 0);
        }
        due("form(2)", x.form(2), 0);
        due("form(3)", x.form(3), OUTSIDE);
        due("told(2)", x.told(2), 2);
        due("form(0)", x.form(0), 2);
        due("form(-1)", x.form(-1), OUTSIDE);
        due("told(2)", x.told(2), 0);
    }

    private static void formWhatItWas() {
        says("FORM (0 .. 2): what it was.");
        SafeParts x = Make.parts(1);
        int was = 0;
        for (int v : new int[] {0, 1, 1, 2, 2, 0, 2, 1, 0}) {
            due("form(" + v + ")", x.form(v), was);
            due("told(2)", x.told(2), v);
            was = v;
        }
    }

    // ---- promise 6

    private static void driftBoundsOfN() {
        says("n EVENTS (1 .. 20) BY LOTS of a SEED");
        SafeParts x = Make.parts(2);
        for (int n : new int[] {MIN, -1, 0, 21, MAX}) {
            due("drift(" + n + ", 1)", x.drift(n, 1), OUTSIDE);
        }
        due("none came", x.told(12), 0);
        due("drift(1, 1)", x.drift(1, 1), 1);
        due("one came", x.told(12), 1);
        due("drift(20, 1)", x.drift(20, 1), 20);
        due("20 more came", x.told(12), 21);
    }

    private static void driftBoundsOfSeed() {
        says("BY LOTS of a SEED (1 .. 999999)");
        SafeParts x = Make.parts(2);
        for (int seed : new int[] {MIN, -1, 0, 1000000, MAX}) {
            due("drift(1, " + seed + ")", x.drift(1, seed), OUTSIDE);
        }
        due("none came", x.told(12), 0);
        due("drift(1, 1)", x.drift(1, 1), 1);
        due("drift(1, 999999)", x.drift(1, 999999), 1);
        due("two came", x.told(12), 2);
    }

    private static void driftHowManyCame() {
        says("how many came");
        SafeParts x = Make.parts(3);
        for (int k = 0; k < 25; k++) {
            x.event(0, 9000, 0);
        }
        due("5 are free", x.drift(20, 3), 5);
        due("none is", x.drift(20, 3), 0);
        due("30 by hand", x.told(12), 30);
    }

    private static void driftNoParts() {
        says("NOT: no PARTS.");
        SafeParts x = new SafeParts();
        due("drift(1, 1)", x.drift(1, 1), NOT);
        due("drift(20, 999999)", x.drift(20, 999999), NOT);
        x.parts(1);
        due("with one", x.drift(1, 1), 1);
    }
}
