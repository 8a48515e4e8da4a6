/** The part of 'Terms' marked 2 (CLOCK to RING WITHOUT PROMISE): each sentence that names an edge has a test. */
public final class EdgesOfTerms2Test {
    private static final int NEVER = SafeParts.NEVER;
    private static final int NOT = SafeParts.NOT;
    private static final Check CHECK = new Check("EdgesOfTerms2Test");

    public static void main(String[] args) {
        clocks();
        rounds();
        emptyLetters();
        asAsked();
        still();
        letGo();
        ringWithoutPromise();
        CHECK.end();
    }

    private static void clocks() {
        clockIsZeroAtFirst();
        noLetterOfALesserTime();
        safeIsTheLeastClock();
        safeIsNeverWithoutChannels();
        mayIfLessThanSafe();
        mayNotAtZero();
        mayNotWithoutEvent();
    }

    private static void rounds() {
        oneEventAPart();
        partsRising();
        onlyIfItMay();
        letterHasArrivedAtOnce();
        clockBecomesTimeOfLetter();
    }

    private static void emptyLetters() {
        formZeroAtFirst();
        emptyLettersBehindTheWork();
        earliestIsSafe();
        earliestIsTheFirstEvent();
        earliestWithoutEvent();
        earliestIsNever();
        emptyLettersOfPartsRising();
        emptyLetterByEachChannel();
        emptyLetterIfClockIsLess();
        noEmptyLetterOfZero();
        neverAtMost();
        emptyLettersAreCounted();
        noneInFormOne();
    }

    private static void asAsked() {
        askedByWhoHasNoEvent();
        askedByWhoMayWork();
        askedByWhoWaits();
        askedOfTheLeastClock();
        askedOfTheLeastNumber();
        askedAnewAheadOfEachChannel();
    }

    private static void still() {
        stillNoPartWorked();
        stillNoEmptyLetterWent();
        stillEventsAreLeft();
    }

    private static void letGo() {
        letGoOfTheLeastTime();
        letGoAllOfThatTime();
        letGoNoneOfTheNextTime();
        letGoNoLetterOfTheNextTime();
        letGoPartsRising();
        letGoRaisesClocks();
    }

    private static void ringWithoutPromise() {
        ringOfTwo();
        ringOfSix();
        ringWithOnePromise();
        wayThatDoesNotComeBack();
        nothingIsRunInFormsZeroAndTwo();
    }

    private static void says(String words) {
        CHECK.says(words);
    }

    private static void due(String call, int got, int want) {
        CHECK.due(call, got, want);
    }

    // ---- CLOCK, SAFE, MAY

    private static void clockIsZeroAtFirst() {
        says("Each CHANNEL has a CLOCK (0 at first)");
        SafeParts x = Make.twelveChannels();
        for (int c = 0; c < 12; c++) {
            due("CHANNEL " + c, x.channelOf(c, 4), 0);
        }
    }

    /** What each PART worked on is in the order of times, in every FORM. */
    private static void noLetterOfALesserTime() {
        says("no LETTER of a lesser time will come by it any more");
        for (int form = 0; form < 3; form++) {
            SafeParts x = Make.twelveChannels();
            x.form(form);
            for (int p = 0; p < 6; p++) {
                x.event(p, 3 * p, 20 - p);
            }
            x.finish();
            int[] last = new int[6];
            int entries = x.told(10);
            due("20 to 15 and one each", entries, 111);
            for (int k = 0; k < entries; k++) {
                int p = x.record(k, 0);
                int time = x.record(k, 1);
                CHECK.holds("entry " + k + " in form " + form + " is not ahead of the last of its PART", time >= last[p]);
                last[p] = time;
            }
        }
    }

    private static void safeIsTheLeastClock() {
        says("SAFE of a PART: the least CLOCK of CHANNELS to it");
        SafeParts x = Make.parts(4);
        x.channel(0, 3, 1, 8);
        x.channel(1, 3, 1, 6);
        x.channel(2, 3, 1, 7);
        x.form(1);
        due("at first", x.part(3, 3), 0);
        x.event(0, 0, 1);
        x.run(1);
        due("one is more than 0", x.part(3, 3), 0);
        x.event(1, 0, 1);
        x.event(2, 0, 1);
        x.run(1);
        due("8, 6, 7", x.part(3, 3), 6);
    }

    private static void safeIsNeverWithoutChannels() {
        says("NEVER, if there are none");
        SafeParts x = Make.parts(2);
        due("no CHANNELS at all", x.part(0, 3), NEVER);
        x.channel(0, 1, 1, 1);
        due("only from it", x.part(0, 3), NEVER);
        due("one to it", x.part(1, 3), 0);
    }

    private static void mayIfLessThanSafe() {
        says("It MAY work on its first EVENT, if that time is less than SAFE.");
        SafeParts x = Make.parts(2);
        x.channel(0, 1, 0, 5);
        x.form(1);
        x.event(0, 0, 1);
        due("a LETTER of 5", x.run(1), 1);
        due("SAFE", x.part(1, 3), 5);
        due("5 is not less", x.part(1, 7), 0);
        due("told(8)", x.told(8), 0);
        due("it does not work", x.run(1), 0);
        x.event(1, 4, 0);
        due("4 is less", x.part(1, 7), 1);
        due("told(8)", x.told(8), 2);
        due("it works", x.run(1), 1);
        due("and on no more", x.run(1), 0);
    }

    private static void mayNotAtZero() {
        says("It MAY work on its first EVENT, if that time is less than SAFE.");
        SafeParts x = Make.parts(2);
        x.channel(0, 1, 0, 1);
        x.event(1, 0, 0);
        due("0 is not less than 0", x.part(1, 7), 0);
        due("told(8)", x.told(8), 0);
        x.event(0, 0, 0);
        due("0 is less than NEVER", x.part(0, 7), 1);
        due("told(8)", x.told(8), 1);
    }

    private static void mayNotWithoutEvent() {
        says("It MAY work on its first EVENT, if that time is less than SAFE.");
        SafeParts x = Make.parts(2);
        due("SAFE is NEVER", x.part(0, 3), NEVER);
        due("it has no EVENT", x.part(0, 7), 0);
        due("told(8)", x.told(8), 0);
        x.event(0, 9999, 0);
        due("9999", x.part(0, 7), 1);
        x.run(1);
        due("it has none any more", x.part(0, 7), 0);
    }

    // ---- A ROUND

    private static void oneEventAPart() {
        says("if it MAY, it works on its first EVENT");
        SafeParts x = Make.parts(2);
        for (int k = 0; k < 3; k++) {
            x.event(0, 5, k);
            x.event(1, 5, k);
        }
        for (int k = 0; k < 3; k++) {
            due("of each PART one", x.run(1), 2);
            due("ROUND", x.record(2 * k + 1, 3), k);
        }
    }

    private static void partsRising() {
        says("A ROUND: for each PART, rising");
        SafeParts x = Make.parts(6);
        for (int p = 5; p >= 0; p--) {
            x.event(p, 50 - p, 0);
        }
        due("all six", x.run(1), 6);
        for (int p = 0; p < 6; p++) {
            due("entry " + p, x.record(p, 0), p);
        }
    }

    private static void onlyIfItMay() {
        says("if it MAY, it works on its first EVENT");
        SafeParts x = Make.parts(3);
        x.channel(0, 1, 1, 1);
        x.form(1);
        x.event(0, 9, 0);
        x.event(1, 3, 0);
        x.event(2, 9, 0);
        due("0 and 2", x.run(1), 2);
        due("the second entry", x.record(1, 0), 2);
        due("1 waits", x.part(1, 4), 1);
    }

    private static void letterHasArrivedAtOnce() {
        says("A LETTER that goes has arrived at once");
        SafeParts x = Make.parts(2);
        x.channel(0, 1, 0, 5);
        x.form(1);
        x.event(0, 2, 1);
        x.event(1, 6, 0);
        due("CLOCK 7 lets PART 1 work in the same ROUND", x.run(1), 2);
        SafeParts y = Make.parts(2);
        y.channel(1, 0, 0, 5);
        y.form(1);
        y.event(1, 2, 1);
        y.event(0, 6, 0);
        due("PART 0 was ahead of it", y.run(1), 1);
        due("it works in the next", y.run(1), 1);
        SafeParts z = Make.parts(2);
        z.channel(0, 1, 0, 4);
        z.form(1);
        z.event(0, 2, 1);
        z.event(1, 6, 3);
        due("CLOCK 6 does not let it", z.run(1), 1);
        due("both wait", z.part(1, 4), 2);
    }

    private static void clockBecomesTimeOfLetter() {
        says("CLOCK of its CHANNEL becomes its time, if that is more");
        SafeParts x = Make.parts(3);
        x.channel(0, 1, 2, 5);
        x.channel(0, 2, 2, 7);
        x.form(1);
        x.event(0, 3, 4);
        x.event(0, 3, 2);
        x.event(0, 4, 6);
        x.run(1);
        due("3 and 5", x.channelOf(0, 4), 8);
        due("not of the other CHANNEL", x.channelOf(1, 4), 0);
        x.run(1);
        due("no more", x.channelOf(0, 4), 8);
        due("but it went", x.channelOf(0, 5), 2);
        x.run(1);
        due("4 and 5", x.channelOf(0, 4), 9);
    }

    // ---- EMPTY LETTERS

    private static void formZeroAtFirst() {
        says("In FORM 0 (by EMPTY LETTERS; at first)");
        SafeParts x = new SafeParts();
        due("told(2)", x.told(2), 0);
        x.parts(2);
        x.channel(0, 1, 3, 3);
        x.event(1, 9, 0);
        x.run(1);
        due("one went", x.told(5), 1);
        due("what it was", x.form(0), 0);
    }

    private static void emptyLettersBehindTheWork() {
        says("each PART, rising, behind that");
        SafeParts x = Make.parts(2);
        x.channel(0, 1, 3, 5);
        x.event(0, 10, 0);
        x.event(0, 20, 0);
        x.event(1, 12, 0);
        due("PART 0 alone: PART 1 was told nothing yet", x.run(1), 1);
        due("not of 10, which was worked on: 20 and 3", x.channelOf(0, 4), 23);
        due("then PART 1, too", x.run(1), 2);
    }

    private static SafeParts threeInARow() {
        SafeParts x = Make.parts(3);
        x.channel(0, 1, 3, 9);
        x.channel(1, 2, 4, 9);
        x.event(0, 10, 0);
        x.event(0, 20, 0);
        return x;
    }

    private static void earliestIsSafe() {
        says("EARLIEST is the lesser of SAFE and the time of its first EVENT");
        SafeParts x = threeInARow();
        x.event(1, 24, 0);
        x.run(1);
        due("SAFE of PART 1", x.part(1, 3), 23);
        due("23 and 4", x.channelOf(1, 4), 27);
    }

    private static void earliestIsTheFirstEvent() {
        says("EARLIEST is the lesser of SAFE and the time of its first EVENT");
        SafeParts x = threeInARow();
        x.event(1, 22, 0);
        x.run(1);
        due("SAFE of PART 1", x.part(1, 3), 23);
        due("22 and 4", x.channelOf(1, 4), 26);
    }

    private static void earliestWithoutEvent() {
        says("(NEVER without one)");
        SafeParts x = threeInARow();
        x.run(1);
        due("SAFE of PART 1", x.part(1, 3), 23);
        due("23 and 4", x.channelOf(1, 4), 27);
    }

    private static void earliestIsNever() {
        says("(NEVER without one)");
        SafeParts x = Make.parts(3);
        x.channel(0, 1, 0, 9);
        x.channel(1, 2, 0, 9);
        x.event(2, 50, 0);
        due("nothing is worked on", x.run(1), 0);
        due("no EVENT and no CHANNEL to it", x.channelOf(0, 4), NEVER);
        due("no EVENT and SAFE NEVER", x.channelOf(1, 4), NEVER);
        due("PART 2 may work", x.part(2, 7), 1);
    }

    /** PART 1 is ahead of PART 2, so that it does not know yet what that one promises. */
    private static void emptyLettersOfPartsRising() {
        says("each PART, rising, behind that");
        SafeParts x = Make.parts(3);
        x.channel(2, 1, 3, 9);
        x.channel(1, 0, 4, 9);
        x.event(2, 10, 0);
        x.event(2, 20, 0);
        x.event(0, 90, 0);
        x.run(1);
        due("of PART 1: 0 and 4", x.channelOf(1, 4), 4);
        due("of PART 2: 20 and 3", x.channelOf(0, 4), 23);
        x.run(1);
        due("of PART 1: 23 and 4", x.channelOf(1, 4), 27);
    }

    private static void emptyLetterByEachChannel() {
        says("by each CHANNEL from it (rising)");
        SafeParts x = Make.parts(6);
        for (int to = 1; to < 6; to++) {
            x.channel(0, to, 10 * to, 99);
        }
        x.event(0, 7, 0);
        x.event(0, 8, 0);
        x.run(1);
        due("five went", x.told(5), 5);
        for (int c = 0; c < 5; c++) {
            due("CHANNEL " + c, x.channelOf(c, 4), 8 + 10 * (c + 1));
        }
    }

    private static void emptyLetterIfClockIsLess() {
        says("whose CLOCK is less than EARLIEST and PROMISE");
        SafeParts x = Make.parts(2);
        x.channel(1, 0, 2, 5);
        x.event(1, 20, 0);
        x.event(1, 20, 0);
        x.event(1, 20, 0);
        x.event(1, 21, 0);
        x.event(0, 95, 0);
        x.run(1);
        due("20 and 2", x.channelOf(0, 4), 22);
        due("one went", x.channelOf(0, 6), 1);
        x.run(1);
        due("22 is not less than 22", x.channelOf(0, 6), 1);
        due("CLOCK as it was", x.channelOf(0, 4), 22);
        x.run(1);
        due("22 is less than 23", x.channelOf(0, 6), 2);
        due("21 and 2", x.channelOf(0, 4), 23);
        due("of all", x.told(5), 2);
    }

    private static void noEmptyLetterOfZero() {
        says("whose CLOCK is less than EARLIEST and PROMISE");
        SafeParts x = Make.parts(3);
        x.channel(1, 0, 0, 1);
        x.channel(2, 1, 0, 1);
        x.event(2, 0, 0);
        x.event(2, 0, 0);
        x.event(0, 5, 0);
        due("PART 2 works", x.run(1), 1);
        due("0 is not less than 0 and 0", x.told(5), 0);
        SafeParts y = Make.parts(3);
        y.channel(1, 0, 1, 1);
        y.channel(2, 1, 0, 1);
        y.event(2, 0, 0);
        y.event(2, 0, 0);
        y.event(0, 5, 0);
        y.run(1);
        due("0 is less than 0 and 1", y.told(5), 1);
        due("CLOCK", y.channelOf(0, 4), 1);
    }

    private static void neverAtMost() {
        says("(NEVER at most)");
        for (int promise : new int[] {0, 1, 99}) {
            SafeParts x = Make.parts(3);
            x.channel(0, 1, promise, 99);
            x.channel(1, 2, promise, 99);
            x.event(2, 50, 0);
            x.event(2, 60, 0);
            x.run(1);
            due("without an EVENT", x.channelOf(0, 4), 99999999);
            due("and on", x.channelOf(1, 4), 99999999);
            due("two went", x.told(5), 2);
            due("SAFE", x.part(2, 3), 99999999);
            x.run(2);
            due("none went any more", x.told(5), 2);
            due("CLOCK as it was", x.channelOf(0, 4), 99999999);
        }
    }

    private static void emptyLettersAreCounted() {
        says("CLOCK becomes that (counted)");
        SafeParts x = Make.ring(2, 1, 1);
        x.event(0, 3, 0);
        x.event(1, 3, 0);
        for (int k = 1; k <= 2; k++) {
            due("nothing is worked on", x.run(1), 0);
            due("of both together", x.told(5), 2 * k);
            due("of CHANNEL 0", x.channelOf(0, 6), k);
            due("of CHANNEL 1", x.channelOf(1, 6), k);
            due("they are no LETTERS", x.channelOf(0, 5), 0);
            due("they are no EVENTS", x.told(3), 2);
        }
    }

    private static void noneInFormOne() {
        says("In FORM 1 (by standing still) none goes.");
        SafeParts x = threeInARow();
        x.event(2, 90, 0);
        x.form(1);
        due("run", x.run(40), 2);
        due("none went", x.told(5), 0);
        due("CLOCK 0", x.channelOf(0, 4), 0);
        due("CLOCK 1", x.channelOf(1, 4), 0);
    }

    // ---- FORM 2

    private static SafeParts twoAsAsked() {
        SafeParts x = Make.parts(2);
        x.channel(0, 1, 3, 5);
        x.form(2);
        return x;
    }

    private static void askedByWhoHasNoEvent() {
        says("one goes only by CHANNELS to a PART that has an EVENT it MAY not work on");
        SafeParts x = twoAsAsked();
        x.event(0, 10, 0);
        x.event(0, 20, 0);
        x.run(1);
        due("none went", x.told(5), 0);
        due("CLOCK", x.channelOf(0, 4), 0);
    }

    private static void askedByWhoMayWork() {
        says("one goes only by CHANNELS to a PART that has an EVENT it MAY not work on");
        SafeParts x = twoAsAsked();
        x.event(0, 10, 1);
        x.event(0, 20, 0);
        x.event(1, 13, 0);
        x.event(1, 14, 0);
        due("10 and 13", x.run(1), 2);
        due("14 is less than 15: none went", x.told(5), 0);
        due("CLOCK of the LETTER", x.channelOf(0, 4), 15);
        due("20 and 14", x.run(1), 2);
        due("15 waits: one went", x.told(5), 1);
        due("CLOCK", x.channelOf(0, 4), NEVER);
    }

    private static void askedByWhoWaits() {
        says("one goes only by CHANNELS to a PART that has an EVENT it MAY not work on");
        SafeParts x = twoAsAsked();
        x.event(0, 10, 0);
        x.event(0, 20, 0);
        x.event(1, 90, 0);
        x.run(1);
        due("one went", x.told(5), 1);
        due("20 and 3", x.channelOf(0, 4), 23);
    }

    /** The CLOCK of CHANNEL 0 is 13, by a LETTER, that of CHANNEL 1 is 0. */
    private static void askedOfTheLeastClock() {
        says("only by that of the least CLOCK of those to it");
        SafeParts x = Make.parts(3);
        x.channel(0, 2, 3, 3);
        x.channel(1, 2, 3, 3);
        x.form(2);
        x.event(0, 10, 1);
        x.event(0, 20, 0);
        x.event(1, 10, 0);
        x.event(1, 20, 0);
        due("run(1)", x.run(1), 2);
        due("one went", x.told(5), 1);
        due("not by CHANNEL 0", x.channelOf(0, 6), 0);
        due("its CLOCK", x.channelOf(0, 4), 13);
        due("by CHANNEL 1", x.channelOf(1, 6), 1);
        due("its CLOCK", x.channelOf(1, 4), 23);
    }

    private static void askedOfTheLeastNumber() {
        says("(the least number)");
        SafeParts x = Make.parts(3);
        x.channel(1, 2, 3, 3);
        x.channel(0, 2, 3, 3);
        x.form(2);
        for (int p = 0; p < 2; p++) {
            x.event(p, 10, 0);
            x.event(p, 20, 0);
        }
        x.event(2, 50, 0);
        due("run(1)", x.run(1), 2);
        due("one went", x.told(5), 1);
        due("by CHANNEL 0", x.channelOf(0, 4), 23);
        due("not by CHANNEL 1, though PART 0 is the first", x.channelOf(1, 4), 0);
    }

    /** Behind the EMPTY LETTER by CHANNEL 0 the least CLOCK is that of CHANNEL 1, and its turn is still to come. */
    private static void askedAnewAheadOfEachChannel() {
        says("only by that of the least CLOCK of those to it");
        SafeParts x = Make.parts(4);
        for (int p = 0; p < 3; p++) {
            x.channel(p, 3, 3, 3);
            x.event(p, 10, 0);
            x.event(p, 20 + 10 * p, 0);
        }
        x.form(2);
        x.event(3, 32, 0);
        due("run(1)", x.run(1), 3);
        int[] clock = {23, 33, 43};
        for (int c = 0; c < 3; c++) {
            due("CLOCK of CHANNEL " + c, x.channelOf(c, 4), clock[c]);
        }
        due("three went", x.told(5), 3);
        x.run(1);
        due("CHANNEL 0 was the least", x.channelOf(0, 4), NEVER);
        due("now 32 is less than 33: no more", x.told(5), 4);
    }

    // ---- STILL

    private static void stillNoPartWorked() {
        says("STILL: a ROUND in which no PART worked");
        SafeParts x = Make.parts(2);
        x.channel(0, 1, 0, 1);
        x.form(1);
        x.event(0, 1, 0);
        x.event(0, 2, 0);
        x.event(1, 50, 0);
        due("two were worked on", x.run(40), 2);
        due("the third was STILL", x.told(6), 3);
    }

    /** CLOCK of CHANNEL 1 becomes 2, 4 .. 12: in the seventh ROUND PART 0 may work on 10. */
    private static void stillNoEmptyLetterWent() {
        says("no EMPTY LETTER went");
        SafeParts x = Make.ring(2, 1, 1);
        x.event(0, 10, 0);
        due("six ROUNDS of EMPTY LETTERS alone", x.run(6), 0);
        due("none of them was STILL", x.told(6), 6);
        due("the seventh", x.run(40), 1);
        due("seven", x.told(6), 7);
        due("not LET GO by finish either", x.finish(), 0);
        SafeParts y = Make.ring(2, 1, 1);
        y.event(0, 10, 0);
        due("finish", y.finish(), 1);
        due("ROUNDS", y.told(6), 7);
        due("LET GO", y.told(7), 0);
    }

    private static void stillEventsAreLeft() {
        says("and EVENTS are left");
        SafeParts x = Make.parts(2);
        x.channel(0, 1, 0, 1);
        x.form(1);
        x.event(0, 1, 0);
        due("finish", x.finish(), 1);
        due("one ROUND", x.told(6), 1);
        due("no LET GO behind it", x.told(7), 0);
    }

    // ---- LET GO

    private static void letGoOfTheLeastTime() {
        says("LET GO: of all EVENTS the least time T");
        for (int least = 0; least < 3; least++) {
            SafeParts x = Make.ring(3, 0, 9);
            for (int p = 0; p < 3; p++) {
                x.event(p, p == least ? 5 : 6, 0);
            }
            due("T", x.letGo(), 5);
            due("one was worked on", x.told(4), 1);
            due("of that PART", x.part(least, 0), 1);
        }
    }

    private static void letGoAllOfThatTime() {
        says("all PARTS, rising, work on all their EVENTS of time T, as if they MIGHT");
        SafeParts x = Make.ring(3, 0, 9);
        for (int k = 0; k < 30; k++) {
            x.event(k < 28 ? 1 : 2, 5, 0);
        }
        due("none may", x.told(8), 0);
        due("T", x.letGo(), 5);
        due("of PART 1", x.part(1, 0), 28);
        due("of PART 2", x.part(2, 0), 2);
        due("none is left", x.told(3), 0);
        due("all in one", x.record(29, 3), 0);
        SafeParts y = Make.ring(2, 0, 9);
        for (int k = 0; k < 30; k++) {
            y.event(1, 5, k);
        }
        due("T", y.letGo(), 5);
        due("30 of one PART", y.part(1, 0), 30);
        due("value of the last", y.record(29, 2), 29);
    }

    private static void letGoNoneOfTheNextTime() {
        says("all PARTS, rising, work on all their EVENTS of time T, as if they MIGHT");
        SafeParts x = Make.ring(2, 0, 9);
        x.event(0, 5, 0);
        x.event(0, 6, 0);
        x.event(1, 6, 0);
        due("T", x.letGo(), 5);
        due("one was worked on", x.told(4), 1);
        due("6 waits", x.part(0, 5), 6);
        due("6 waits", x.part(1, 5), 6);
    }

    private static void letGoNoLetterOfTheNextTime() {
        says("all PARTS, rising, work on all their EVENTS of time T, as if they MIGHT");
        SafeParts x = Make.ring(2, 0, 1);
        x.event(0, 5, 3);
        due("T", x.letGo(), 5);
        due("one was worked on", x.told(4), 1);
        due("the LETTER of 6 waits", x.part(1, 5), 6);
        due("CLOCK of the LETTER", x.channelOf(0, 4), 6);
        due("the next", x.letGo(), 6);
    }

    private static void letGoPartsRising() {
        says("all PARTS, rising, work on all their EVENTS of time T, as if they MIGHT");
        SafeParts x = Make.ring(3, 0, 9);
        x.event(2, 5, 1);
        x.event(0, 5, 2);
        x.event(1, 5, 3);
        x.event(0, 5, 4);
        x.letGo();
        int[][] rows = {{0, 2}, {0, 4}, {1, 3}, {2, 1}};
        for (int k = 0; k < rows.length; k++) {
            due("PART of entry " + k, x.record(k, 0), rows[k][0]);
            due("value of entry " + k, x.record(k, 2), rows[k][1]);
        }
    }

    /** LETTERS of 5, 6, 7 wait, and the CLOCKS are 5, 6, 7, 0. */
    private static void letGoRaisesClocks() {
        says("CLOCKS of all CHANNELS that are less become T and 1");
        SafeParts x = Make.parts(5);
        for (int p = 0; p < 3; p++) {
            x.channel(p, 3, 0, 5 + p);
            x.event(p, 0, 1);
        }
        x.channel(4, 3, 0, 1);
        x.form(1);
        x.run(1);
        due("CLOCK 0 ahead of it", x.channelOf(0, 4), 5);
        due("T", x.letGo(), 5);
        due("5 is less", x.channelOf(0, 4), 6);
        due("6 is not", x.channelOf(1, 4), 6);
        due("7 is not", x.channelOf(2, 4), 7);
        due("0 is less", x.channelOf(3, 4), 6);
        due("no EMPTY LETTERS", x.told(5), 0);
        due("none of a CHANNEL", x.channelOf(3, 6), 0);
    }

    // ---- RING WITHOUT PROMISE

    private static void ringOfTwo() {
        says("RING WITHOUT PROMISE: CHANNELS from PART to PART round to the first, all with PROMISE 0.");
        for (int p = 0; p < 5; p++) {
            SafeParts x = Make.parts(6);
            x.channel(p, p + 1, 0, 1);
            due("one way", x.told(11), 0);
            x.channel(p + 1, p, 0, 1);
            due("and back", x.told(11), 1);
        }
    }

    private static void ringOfSix() {
        says("RING WITHOUT PROMISE: CHANNELS from PART to PART round to the first, all with PROMISE 0.");
        due("rising", Make.ring(6, 0, 1).told(11), 1);
        SafeParts x = Make.parts(6);
        for (int p = 0; p < 6; p++) {
            due("not yet", x.told(11), 0);
            x.channel((p + 1) % 6, p, 0, 99);
        }
        due("falling", x.told(11), 1);
    }

    private static void ringWithOnePromise() {
        says("all with PROMISE 0");
        for (int one = 0; one < 6; one++) {
            SafeParts x = Make.parts(6);
            for (int p = 0; p < 6; p++) {
                x.channel(p, (p + 1) % 6, p == one ? 1 : 0, 1);
            }
            due("one has PROMISE 1", x.told(11), 0);
            due("it is run", x.run(1), 0);
        }
    }

    /** All CHANNELS without promise, from a PART to greater ones: there is none back. */
    private static void wayThatDoesNotComeBack() {
        says("CHANNELS from PART to PART round to the first");
        SafeParts x = Make.parts(6);
        int made = 0;
        for (int from = 0; from < 5; from++) {
            for (int to = from + 1; to < 6 && made < 12; to++) {
                x.channel(from, to, 0, 1);
                made++;
            }
        }
        due("12 CHANNELS", x.told(1), 12);
        due("no ring", x.told(11), 0);
    }

    private static void nothingIsRunInFormsZeroAndTwo() {
        says("In FORM 0, 2 nothing is run then (NOT).");
        for (int form = 0; form < 3; form++) {
            SafeParts x = Make.ring(2, 0, 1);
            x.form(form);
            x.event(0, 4, 0);
            due("run in form " + form, x.run(2), form == 1 ? 0 : NOT);
            due("ROUNDS", x.told(6), form == 1 ? 1 : 0);
            due("finish in form " + form, x.finish(), form == 1 ? 1 : NOT);
            due("what waits", x.told(3), form == 1 ? 0 : 1);
        }
    }
}
