/** 'Terms' up to the end of the part marked 1: each of its sentences that names an edge has a test of its own. */
public final class EdgesOfTerms1Test {
    private static final int NONE = SafeParts.NONE;
    private static final int NEVER = SafeParts.NEVER;
    private static final int UNKNOWN = SafeParts.UNKNOWN;
    private static final int OUTSIDE = SafeParts.OUTSIDE;
    private static final int NOT = SafeParts.NOT;
    private static final int FULL = SafeParts.FULL;
    private static final Check CHECK = new Check("EdgesOfTerms1Test");

    public static void main(String[] args) {
        numbers();
        whatThereIs();
        work();
        letters();
        order();
        CHECK.end();
    }

    private static void numbers() {
        numbersFromZero();
        setOfParts();
        none();
        never();
        refusals();
        partThatThereIsNot();
        channelThatThereIsNot();
        imageThatThereIsNot();
        oneTwice();
    }

    private static void whatThereIs() {
        sixPartsAtMost();
        noPartsAtFirst();
        twelveChannelsAtMost();
        toAnotherPart();
        noTwoTheSameWay();
        promiseBounds();
        delayBounds();
        delayNoLessThanPromise();
        timeBounds();
        valueBounds();
        thirtyByHandAtMost();
        thirtyOfAllPartsTogether();
        lettersAreNotByHand();
        lettersAreEvents();
    }

    private static void work() {
        countIsOneMore();
        sumIsLeftOver();
        sumOfValueAndTime();
        bothZeroAtFirst();
        nowIsItsTime();
    }

    private static void letters() {
        letterIfValueAboveZero();
        letterIfThereAreChannels();
        letterByPlace();
        letterByTheOnlyChannel();
        letterTimeAndDelay();
        letterValueOneLess();
        lettersTillValueZero();
    }

    private static void order() {
        orderByTime();
        orderByHandAheadOfLetters();
        orderOfLettersByChannel();
        orderAsTheyCameByHand();
        orderAsTheyCameByLetter();
        orderStaysWhenTheFirstIsGone();
    }

    private static void says(String words) {
        CHECK.says(words);
    }

    private static void due(String call, int got, int want) {
        CHECK.due(call, got, want);
    }

    // ---- numbers

    private static void numbersFromZero() {
        says("What has a number has it from 0 on, as it comes.");
        SafeParts x = Make.parts(2);
        due("COUNT of PART 0", x.part(0, 0), 0);
        due("COUNT of PART 1", x.part(1, 0), 0);
        due("no PART 2", x.part(2, 0), UNKNOWN);
        due("the first CHANNEL", x.channel(1, 0, 3, 4), 0);
        due("the second CHANNEL", x.channel(0, 1, 5, 6), 1);
        due("CHANNEL 0 is the first", x.channelOf(0, 2), 3);
        due("CHANNEL 1 is the second", x.channelOf(1, 2), 5);
        due("no CHANNEL 2", x.channelOf(2, 2), UNKNOWN);
    }

    private static void setOfParts() {
        says("A SET is a whole number, bit k for PART k.");
        SafeParts all = Make.parts(6);
        for (int p = 0; p < 6; p++) {
            SafeParts x = Make.parts(6);
            x.event(p, 3, 0);
            due("PART " + p + " alone may work", x.told(8), 1 << p);
            int next = (p + 1) % 6;
            SafeParts y = Make.parts(6);
            y.channel(p, next, 1, 1);
            y.event(next, 3, 0);
            due("waits for PART " + p + " alone", y.waits(next), 1 << p);
            all.event(p, 3, 0);
        }
        due("all six may work", all.told(8), 63);
    }

    private static void none() {
        says("NONE is -1.");
        due("the constant", NONE, -1);
        due("no value", Make.parts(1).part(0, 6), -1);
        due("no CHANNEL", Make.parts(2).between(0, 1), -1);
    }

    private static void never() {
        says("NEVER is 99999999.");
        due("the constant", NEVER, 99999999);
        due("SAFE", Make.parts(1).part(0, 3), 99999999);
        due("no least time", Make.parts(1).told(9), 99999999);
    }

    private static void refusals() {
        says("They are far below all that is counted: -1000000001 and on.");
        due("UNKNOWN", new SafeParts().ring(0), -1000000001);
        due("OUTSIDE", new SafeParts().told(13), -1000000002);
        due("NOT", new SafeParts().letGo(), -1000000003);
        due("FULL", Make.thirtyByHand(1).event(0, 500, 0), -1000000004);
        due("the constant UNKNOWN", UNKNOWN, -1000000001);
        due("the constant OUTSIDE", OUTSIDE, -1000000002);
        due("the constant NOT", NOT, -1000000003);
        due("the constant FULL", FULL, -1000000004);
    }

    private static void partThatThereIsNot() {
        says("UNKNOWN (a PART, CHANNEL, IMAGE that there is not");
        for (int n = 0; n <= 6; n++) {
            SafeParts x = n == 0 ? new SafeParts() : Make.parts(n);
            due("below 0 of " + n, x.part(-1, 0), UNKNOWN);
            due("the first behind the last of " + n, x.part(n, 0), UNKNOWN);
            if (n > 0) {
                due("the last of " + n, x.part(n - 1, 0), 0);
            }
        }
    }

    private static void channelThatThereIsNot() {
        says("UNKNOWN (a PART, CHANNEL, IMAGE that there is not");
        SafeParts x = Make.parts(6);
        due("without CHANNELS", x.channelOf(0, 0), UNKNOWN);
        for (int c = 0; c < 5; c++) {
            x.channel(c, c + 1, 1, 1);
            due("the last", x.channelOf(c, 0), c);
            due("the first behind the last", x.channelOf(c + 1, 0), UNKNOWN);
        }
        due("below 0", x.channelOf(-1, 0), UNKNOWN);
        due("the last of 12", Make.twelveChannels().channelOf(11, 0), 5);
        due("behind 12", Make.twelveChannels().channelOf(12, 0), UNKNOWN);
    }

    private static void imageThatThereIsNot() {
        says("UNKNOWN (a PART, CHANNEL, IMAGE that there is not");
        SafeParts x = Make.parts(1);
        due("keep(-1)", x.keep(-1), UNKNOWN);
        due("keep(0)", x.keep(0), 1);
        due("keep(1)", x.keep(1), 1);
        due("keep(2)", x.keep(2), UNKNOWN);
        due("goBack(-1)", x.goBack(-1), UNKNOWN);
        due("goBack(0)", x.goBack(0), 1);
        due("goBack(1)", x.goBack(1), 1);
        due("goBack(2)", x.goBack(2), UNKNOWN);
    }

    private static void oneTwice() {
        says("one twice, where two are asked");
        SafeParts x = Make.parts(6);
        for (int p = 0; p < 6; p++) {
            due("channel from " + p + " to itself", x.channel(p, p, 1, 1), UNKNOWN);
            due("between " + p + " and itself", x.between(p, p), UNKNOWN);
        }
        due("no CHANNEL came", x.told(1), 0);
    }

    // ---- what there is

    private static void sixPartsAtMost() {
        says("PARTS (6 at most; none at first).");
        SafeParts x = new SafeParts();
        due("parts(7)", x.parts(7), OUTSIDE);
        due("none then", x.told(0), 0);
        due("parts(6)", x.parts(6), 0);
        due("six then", x.told(0), 6);
        due("PART 5", x.event(5, 0, 0), 1);
        due("no PART 6", x.event(6, 0, 0), UNKNOWN);
    }

    private static void noPartsAtFirst() {
        says("PARTS (6 at most; none at first).");
        SafeParts x = new SafeParts();
        due("told(0)", x.told(0), 0);
        due("no PART 0", x.part(0, 0), UNKNOWN);
        due("event", x.event(0, 0, 0), UNKNOWN);
    }

    private static void twelveChannelsAtMost() {
        says("CHANNELS (12 at most)");
        SafeParts x = Make.parts(6);
        for (int c = 0; c < 12; c++) {
            int from = c % 6;
            due("CHANNEL " + c, x.channel(from, (from + 1 + c / 6) % 6, 1, 1), c);
        }
        due("the 13th", x.channel(0, 3, 1, 1), FULL);
        due("there are 12", x.told(1), 12);
        due("it is not there", x.between(0, 3), NONE);
    }

    private static void toAnotherPart() {
        says("from a PART to another one");
        SafeParts x = Make.parts(2);
        due("to itself", x.channel(0, 0, 1, 1), UNKNOWN);
        due("to another one", x.channel(0, 1, 1, 1), 0);
        due("a single PART has no other", Make.parts(1).channel(0, 0, 1, 1), UNKNOWN);
    }

    private static void noTwoTheSameWay() {
        says("no two that go the same way");
        SafeParts x = Make.parts(3);
        due("one", x.channel(0, 1, 1, 1), 0);
        due("the same way", x.channel(0, 1, 1, 1), NOT);
        due("the same way, other numbers", x.channel(0, 1, 2, 3), NOT);
        due("the other way round", x.channel(1, 0, 1, 1), 1);
        due("from the same PART", x.channel(0, 2, 1, 1), 2);
        due("to the same PART", x.channel(2, 1, 1, 1), 3);
        due("the same way as the last", x.channel(2, 1, 1, 1), NOT);
    }

    private static void promiseBounds() {
        says("PROMISE 0 .. 99");
        SafeParts x = Make.parts(3);
        due("-1", x.channel(0, 1, -1, 99), OUTSIDE);
        due("100", x.channel(0, 1, 100, 100), OUTSIDE);
        due("0", x.channel(0, 1, 0, 99), 0);
        due("99", x.channel(1, 2, 99, 99), 1);
        due("0 is kept", x.channelOf(0, 2), 0);
        due("99 is kept", x.channelOf(1, 2), 99);
    }

    private static void delayBounds() {
        says("DELAY 1 .. 99");
        SafeParts x = Make.parts(3);
        due("0", x.channel(0, 1, 0, 0), OUTSIDE);
        due("-1", x.channel(0, 1, -1, -1), OUTSIDE);
        due("100", x.channel(0, 1, 0, 100), OUTSIDE);
        due("1", x.channel(0, 1, 0, 1), 0);
        due("99", x.channel(1, 2, 0, 99), 1);
        due("1 is kept", x.channelOf(0, 3), 1);
        due("99 is kept", x.channelOf(1, 3), 99);
    }

    private static void delayNoLessThanPromise() {
        says("no less than PROMISE");
        for (int promise : new int[] {2, 50, 99}) {
            SafeParts x = Make.parts(2);
            due("1 less", x.channel(0, 1, promise, promise - 1), OUTSIDE);
            due("alike", x.channel(0, 1, promise, promise), 0);
            if (promise < 99) {
                due("1 more", x.channel(1, 0, promise, promise + 1), 1);
            }
        }
    }

    private static void timeBounds() {
        says("time 0 .. 9999");
        SafeParts x = Make.parts(1);
        due("-1", x.event(0, -1, 0), OUTSIDE);
        due("10000", x.event(0, 10000, 0), OUTSIDE);
        due("9999", x.event(0, 9999, 0), 1);
        due("it is the first", x.part(0, 5), 9999);
        due("0", x.event(0, 0, 0), 2);
        due("now that is the first", x.part(0, 5), 0);
    }

    private static void valueBounds() {
        says("value 0 .. 99");
        SafeParts x = Make.parts(1);
        due("-1", x.event(0, 5, -1), OUTSIDE);
        due("100", x.event(0, 5, 100), OUTSIDE);
        due("99", x.event(0, 5, 99), 1);
        due("it is the first", x.part(0, 6), 99);
        due("0", x.event(0, 4, 0), 2);
        due("now that is the first", x.part(0, 6), 0);
    }

    private static void thirtyByHandAtMost() {
        says("told by hand (30 of all PARTS at most)");
        SafeParts x = Make.parts(1);
        for (int k = 1; k <= 30; k++) {
            due("the " + k + "th", x.event(0, 9999 - k, 0), k);
        }
        due("the 31st", x.event(0, 1, 0), FULL);
        due("30 wait", x.part(0, 4), 30);
        due("the last is the first", x.part(0, 5), 9969);
        due("all 30 are worked on", x.finish(), 30);
        due("what was worked on counts, too", x.event(0, 9999, 0), FULL);
    }

    private static void thirtyOfAllPartsTogether() {
        says("told by hand (30 of all PARTS at most)");
        SafeParts x = Make.thirtyByHand(6);
        due("30 by hand", x.told(12), 30);
        for (int p = 0; p < 6; p++) {
            due("PART " + p + " has 5", x.part(p, 4), 5);
            due("no more of PART " + p, x.event(p, 500, 0), FULL);
        }
    }

    private static void lettersAreNotByHand() {
        says("told by hand (30 of all PARTS at most), or letters that came");
        SafeParts x = Make.chains(2, 100, 0, 0);
        due("one by hand, 99 LETTERS", x.finish(), 100);
        due("one by hand", x.told(12), 1);
        for (int k = 2; k <= 30; k++) {
            due("the " + k + "th", x.event(0, 9000 + k, 0), k - 1);
        }
        due("the 31st", x.event(0, 9500, 0), FULL);
    }

    private static void lettersAreEvents() {
        says("or letters that came");
        SafeParts x = Make.parts(2);
        x.channel(0, 1, 1, 5);
        x.form(1);
        x.event(0, 2, 8);
        x.run(1);
        due("the LETTER waits", x.part(1, 4), 1);
        due("of all", x.told(3), 1);
        due("event counts it", x.event(1, 50, 0), 2);
    }

    // ---- work

    private static void countIsOneMore() {
        says("COUNT is 1 more");
        SafeParts x = Make.parts(2);
        x.event(1, 5, 0);
        x.event(1, 6, 0);
        x.run(1);
        due("one", x.part(1, 0), 1);
        x.run(1);
        due("two", x.part(1, 0), 2);
        due("the other PART", x.part(0, 0), 0);
    }

    /** 31 times 900 and 35 and 4000 is 31935; 31 times that and 9999 is 999984. */
    private static void sumIsLeftOver() {
        says("SUM becomes what is left of (31 times SUM, and the value, and the time) by 1000003");
        int[] value = {18, 19, 20};
        int[] want = {1000002, 0, 1};
        for (int k = 0; k < value.length; k++) {
            SafeParts x = Make.parts(1);
            x.event(0, 900, 0);
            x.event(0, 4000, 35);
            x.event(0, 9999, value[k]);
            x.run(2);
            due("ahead of the edge", x.part(0, 1), 31935);
            due("IN ORDER", x.inOrder(0, 1), want[k]);
            x.run(1);
            due("at the edge", x.part(0, 1), want[k]);
        }
    }

    private static void sumOfValueAndTime() {
        says("SUM becomes what is left of (31 times SUM, and the value, and the time) by 1000003");
        SafeParts x = Make.parts(2);
        x.event(0, 0, 0);
        x.event(0, 9999, 99);
        x.event(1, 7, 30);
        x.event(1, 8, 1);
        x.run(1);
        due("the least", x.part(0, 1), 0);
        due("7 and 30", x.part(1, 1), 37);
        x.run(1);
        due("the most", x.part(0, 1), 10098);
        due("31 times 37, 8 and 1", x.part(1, 1), 1156);
    }

    private static void bothZeroAtFirst() {
        says("(both 0 at first)");
        SafeParts x = Make.parts(6);
        for (int p = 0; p < 6; p++) {
            x.event(p, 5, 5);
            due("COUNT of " + p, x.part(p, 0), 0);
            due("SUM of " + p, x.part(p, 1), 0);
        }
    }

    private static void nowIsItsTime() {
        says("NOW is its time");
        SafeParts x = Make.parts(2);
        x.event(0, 0, 9);
        x.event(0, 9999, 0);
        x.event(1, 3, 0);
        x.run(1);
        due("the least", x.part(0, 2), 0);
        due("of the other", x.part(1, 2), 3);
        x.run(1);
        due("the most", x.part(0, 2), 9999);
        due("of the other, as it was", x.part(1, 2), 3);
    }

    // ---- letters

    private static void letterIfValueAboveZero() {
        says("if the value is above 0");
        SafeParts x = Make.parts(2);
        x.channel(0, 1, 1, 4);
        x.form(1);
        x.event(0, 5, 0);
        due("of value 0", x.run(1), 1);
        due("none went", x.channelOf(0, 5), 0);
        due("none waits", x.told(3), 0);
        due("CLOCK as it was", x.channelOf(0, 4), 0);
        x.event(0, 6, 1);
        due("of value 1", x.run(1), 1);
        due("one went", x.channelOf(0, 5), 1);
        due("one waits", x.part(1, 4), 1);
    }

    private static void letterIfThereAreChannels() {
        says("there are CHANNELS from it");
        SafeParts x = Make.parts(2);
        x.channel(1, 0, 1, 1);
        x.event(0, 5, 99);
        due("T", x.letGo(), 5);
        due("none went by a CHANNEL to it", x.channelOf(0, 5), 0);
        due("none waits", x.told(3), 0);
        SafeParts y = Make.parts(1);
        y.event(0, 5, 99);
        due("without any CHANNEL", y.run(1), 1);
        due("none waits", y.told(3), 0);
    }

    /** CHANNELS 1, 3, 4 go from PART 0. */
    private static SafeParts threeFromPart0() {
        SafeParts x = Make.parts(4);
        x.channel(1, 2, 1, 9);
        x.channel(0, 3, 1, 10);
        x.channel(2, 1, 1, 9);
        x.channel(0, 1, 1, 20);
        x.channel(0, 2, 1, 30);
        x.form(1);
        return x;
    }

    private static void letterByPlace() {
        says("by that of these (rising) whose place is the value left over by how many there are");
        int[] value = {1, 2, 3, 4, 5, 6, 97, 98, 99};
        int[] want = {3, 4, 1, 3, 4, 1, 3, 4, 1};
        for (int k = 0; k < value.length; k++) {
            SafeParts x = threeFromPart0();
            x.event(0, 0, value[k]);
            due("run(1)", x.run(1), 1);
            for (int c = 0; c < 5; c++) {
                due("of value " + value[k] + " by CHANNEL " + c, x.channelOf(c, 5), c == want[k] ? 1 : 0);
            }
        }
    }

    private static void letterByTheOnlyChannel() {
        says("by that of these (rising) whose place is the value left over by how many there are");
        for (int value : new int[] {1, 2, 3, 98, 99}) {
            SafeParts x = Make.parts(3);
            x.channel(1, 2, 1, 1);
            x.channel(0, 2, 1, 1);
            x.event(0, 0, value);
            due("run(1)", x.run(1), 1);
            due("of value " + value, x.channelOf(1, 5), 1);
        }
    }

    private static void letterTimeAndDelay() {
        says("its time is that of the EVENT and DELAY");
        int[][] rows = {{0, 1, 1}, {0, 99, 99}, {9999, 1, 10000}, {9999, 99, 10098}};
        for (int[] row : rows) {
            SafeParts x = Make.parts(2);
            x.channel(0, 1, 0, row[1]);
            x.form(1);
            x.event(0, row[0], 1);
            x.run(1);
            due(row[0] + " and " + row[1], x.part(1, 5), row[2]);
            due("CLOCK", x.channelOf(0, 4), row[2]);
            due("it is LET GO", x.letGo(), row[2]);
            due("NOW", x.part(1, 2), row[2]);
        }
    }

    private static void letterValueOneLess() {
        says("its value 1 less");
        for (int value : new int[] {1, 2, 50, 99}) {
            SafeParts x = Make.parts(2);
            x.channel(0, 1, 1, 1);
            x.form(1);
            x.event(0, 3, value);
            x.run(1);
            due("of value " + value, x.part(1, 6), value - 1);
        }
    }

    private static void lettersTillValueZero() {
        says("its value 1 less");
        SafeParts x = Make.ring(2, 0, 99);
        x.form(1);
        x.event(0, 9999, 99);
        due("100 EVENTS", x.finish(), 100);
        due("LETTERS by CHANNEL 0", x.channelOf(0, 5), 50);
        due("LETTERS by CHANNEL 1", x.channelOf(1, 5), 49);
        due("NOW of PART 1: 9999 and 99 times 99", x.part(1, 2), 19800);
        due("value of the last", x.record(99, 2), 0);
    }

    // ---- the order of a PART

    private static void orderByTime() {
        says("EVENTS of a PART come in this order: by time");
        SafeParts x = Make.parts(1);
        x.event(0, 6, 1);
        x.event(0, 9999, 2);
        x.event(0, 0, 3);
        x.event(0, 7, 4);
        x.finish();
        recordIs(x, 0, new int[] {0, 6, 7, 9999}, new int[] {3, 1, 4, 2});
    }

    private static void orderByHandAheadOfLetters() {
        says("then told by hand ahead of LETTERS");
        SafeParts x = Make.parts(2);
        x.channel(0, 1, 1, 10);
        x.form(1);
        x.event(0, 0, 5);
        x.run(1);
        due("the LETTER is the first", x.part(1, 6), 4);
        x.event(1, 10, 50);
        due("by hand is the first", x.part(1, 6), 50);
        due("of one time", x.part(1, 5), 10);
        x.letGo();
        recordIs(x, 1, new int[] {10, 10}, new int[] {50, 4});
        SafeParts y = Make.parts(2);
        y.channel(0, 1, 1, 10);
        y.form(1);
        y.event(0, 0, 5);
        y.event(1, 11, 50);
        y.run(1);
        due("the time goes ahead of that", y.part(1, 6), 4);
    }

    /** PART 0 works first, so that the LETTER by CHANNEL 1 is the first that comes. */
    private static void orderOfLettersByChannel() {
        says("LETTERS by CHANNEL");
        SafeParts x = Make.parts(3);
        x.channel(1, 2, 1, 5);
        x.channel(0, 2, 1, 5);
        x.form(1);
        x.event(0, 0, 10);
        x.event(1, 0, 20);
        x.run(1);
        due("both came", x.part(2, 4), 2);
        due("that by CHANNEL 0 is the first", x.part(2, 6), 19);
        x.letGo();
        recordIs(x, 2, new int[] {5, 5}, new int[] {19, 9});
    }

    private static void orderAsTheyCameByHand() {
        says("then as they came");
        SafeParts x = Make.parts(1);
        int[] value = {5, 9, 1, 5, 0};
        for (int v : value) {
            x.event(0, 7, v);
        }
        x.finish();
        recordIs(x, 0, new int[] {7, 7, 7, 7, 7}, value);
    }

    private static void orderAsTheyCameByLetter() {
        says("then as they came");
        SafeParts x = Make.parts(2);
        x.channel(0, 1, 1, 5);
        x.form(1);
        int[] value = {10, 30, 20};
        for (int v : value) {
            x.event(0, 0, v);
        }
        x.run(3);
        x.letGo();
        recordIs(x, 3, new int[] {5, 5, 5}, new int[] {9, 29, 19});
    }

    private static void orderStaysWhenTheFirstIsGone() {
        says("by time; then told by hand ahead of LETTERS; LETTERS by CHANNEL; then as they came");
        SafeParts x = Make.letterByTheLaterChannel();
        due("the LETTER is the first", x.part(2, 6), 19);
        x.event(2, 10, 50);
        due("10 by hand is the first", x.part(2, 6), 50);
        x.event(0, 6, 30);
        due("a LETTER of 10 by CHANNEL 0", x.run(1), 1);
        due("T", x.letGo(), 10);
        recordIs(x, 2, new int[] {6, 10, 10, 10}, new int[] {30, 50, 29, 19});
    }

    private static void recordIs(SafeParts x, int from, int[] time, int[] value) {
        for (int k = 0; k < time.length; k++) {
            due("time of entry " + (from + k), x.record(from + k, 1), time[k]);
            due("value of entry " + (from + k), x.record(from + k, 2), value[k]);
        }
        due("entries", x.told(10), from + time.length);
    }
}
