/** Promises 7 to 9: run, letGo, finish. */
public final class RunsTest {
    private static final int NONE = SafeParts.NONE;
    private static final int NEVER = SafeParts.NEVER;
    private static final int OUTSIDE = SafeParts.OUTSIDE;
    private static final int NOT = SafeParts.NOT;
    private static final Check CHECK = new Check("RunsTest");

    public static void main(String[] args) {
        promise7Bounds();
        promise7OneEventAPartAndRound();
        promise7EndsWithoutEvents();
        promise7EndsBehindStill();
        promise7Work();
        promise7LetterArrivesAtOnce();
        promise7EmptyLetters();
        promise7AsAsked();
        promise7AsAskedStandsStill();
        promise7RingWithoutPromise();
        promise8Not();
        promise8LetGo();
        promise8AllOfOnePart();
        promise9Finish();
        promise9Limit();
        promise9LimitBehindStill();
        promise9Not();
        CHECK.end();
    }

    private static void due(String call, int got, int want) {
        CHECK.due(call, got, want);
    }

    private static void promise7Bounds() {
        SafeParts x = new SafeParts();
        due("OUTSIDE ahead of NOT", x.run(0), OUTSIDE);
        due("no parts", x.run(40), NOT);
        x.parts(1);
        x.event(0, 1, 0);
        for (int n : new int[] {Integer.MIN_VALUE, -1, 0, 41, Integer.MAX_VALUE}) {
            due("run(" + n + ")", x.run(n), OUTSIDE);
        }
        due("no round was run", x.told(6), 0);
        due("run(40)", x.run(40), 1);
    }

    private static void promise7OneEventAPartAndRound() {
        SafeParts x = new SafeParts();
        x.parts(2);
        for (int k = 0; k < 4; k++) {
            x.event(0, k, 0);
        }
        x.event(1, 9, 0);
        due("first round", x.run(1), 2);
        due("two more", x.run(2), 2);
        due("told(6)", x.told(6), 3);
        due("the last", x.run(40), 1);
        int[][] rows = {{0, 0, 0, 0}, {1, 9, 0, 0}, {0, 1, 0, 1}, {0, 2, 0, 2}, {0, 3, 0, 3}};
        for (int k = 0; k < rows.length; k++) {
            for (int what = 0; what < 4; what++) {
                due("record(" + k + ", " + what + ")", x.record(k, what), rows[k][what]);
            }
        }
        due("behind the last", x.record(5, 0), NONE);
    }

    private static void promise7EndsWithoutEvents() {
        SafeParts x = new SafeParts();
        x.parts(2);
        x.channel(0, 1, 4, 5);
        due("without events", x.run(40), 0);
        due("no round then", x.told(6), 0);
        due("no empty letter then", x.told(5), 0);
        x.event(0, 2, 0);
        due("with one", x.run(40), 1);
        due("one round", x.told(6), 1);
        due("the round is whole: the empty letter went", x.told(5), 1);
        due("NEVER at most", x.channelOf(0, 4), NEVER);
    }

    private static void promise7EndsBehindStill() {
        SafeParts x = new SafeParts();
        x.parts(2);
        x.channel(0, 1, 4, 5);
        x.form(1);
        x.event(0, 3, 0);
        x.event(1, 3, 0);
        due("run(40)", x.run(40), 1);
        due("a round and one that was STILL", x.told(6), 2);
        due("run(40) again", x.run(40), 0);
        due("one more that was STILL", x.told(6), 3);
        due("none went", x.told(5), 0);
        due("it was not LET GO", x.told(7), 0);
    }

    private static void promise7Work() {
        SafeParts x = new SafeParts();
        x.parts(4);
        x.channel(0, 3, 1, 10);
        x.channel(1, 2, 1, 20);
        x.channel(0, 2, 1, 30);
        x.channel(0, 1, 1, 40);
        x.event(0, 7, 4);
        x.event(0, 9, 99);
        x.event(0, 100, 2);
        x.event(0, 200, 0);
        x.form(1);
        due("run(1)", x.run(1), 1);
        due("COUNT", x.part(0, 0), 1);
        due("SUM", x.part(0, 1), 11);
        due("NOW", x.part(0, 2), 7);
        due("4 by 3 is 1: channel 2", x.channelOf(2, 5), 1);
        due("its clock", x.channelOf(2, 4), 37);
        due("time of the letter", x.part(2, 5), 37);
        due("value of the letter", x.part(2, 6), 3);
        due("run(1)", x.run(1), 1);
        due("SUM: 31 times 11, 99, 9", x.part(0, 1), 449);
        due("99 by 3 is 0: channel 0", x.channelOf(0, 5), 1);
        due("time of the letter", x.part(3, 5), 19);
        due("value of the letter", x.part(3, 6), 98);
        due("run(1)", x.run(1), 1);
        due("SUM: 31 times 449, 2, 100", x.part(0, 1), 14021);
        due("2 by 3 is 2: channel 3", x.channelOf(3, 5), 1);
        due("time of the letter", x.part(1, 5), 140);
        due("letters", x.told(3), 4);
        due("run(1)", x.run(1), 1);
        due("SUM: 31 times 14021, 200", x.part(0, 1), 434851);
        due("0 sends none", x.told(3), 3);
        due("clock as it was", x.channelOf(0, 4), 19);
        due("finish", x.finish(), 4);
        due("3 has no channels: 98 is sent nowhere", x.part(3, 1), 98 + 19);
        due("SUM wraps: of part 2", x.part(2, 1), 31 * (37 + 3) + 160);
        x.parts(1);
        x.event(0, 9999, 99);
        x.event(0, 9999, 98);
        x.event(0, 9999, 97);
        x.event(0, 9999, 96);
        due("finish", x.finish(), 4);
        long sum = 0;
        for (int value = 99; value >= 96; value--) {
            sum = (31 * sum + value + 9999) % 1000003;
        }
        due("SUM left over by 1000003", x.part(0, 1), (int) sum);
    }

    private static void promise7LetterArrivesAtOnce() {
        SafeParts x = new SafeParts();
        x.parts(2);
        x.channel(0, 1, 1, 5);
        x.form(1);
        x.event(0, 2, 1);
        x.event(1, 6, 0);
        due("part 1 works in the same round", x.run(1), 2);
        due("not on the letter of 7", x.run(1), 0);
        due("its clock", x.channelOf(0, 4), 7);
        x.parts(2);
        x.channel(1, 0, 1, 5);
        x.event(1, 2, 1);
        x.event(0, 6, 0);
        due("part 0 comes ahead of part 1", x.run(1), 1);
        due("and works in the next", x.run(1), 1);
    }

    private static void promise7EmptyLetters() {
        SafeParts x = new SafeParts();
        x.parts(3);
        x.channel(1, 2, 2, 9);
        x.channel(0, 1, 5, 9);
        x.channel(0, 2, 4, 9);
        x.event(0, 10, 0);
        x.event(0, 20, 0);
        x.event(2, 22, 0);
        due("run(1)", x.run(1), 1);
        due("channel 1: 20 and 5", x.channelOf(1, 4), 25);
        due("channel 2: 20 and 4", x.channelOf(2, 4), 24);
        due("channel 0: SAFE 25 and 2", x.channelOf(0, 4), 27);
        due("three went", x.told(5), 3);
        due("no letters", x.channelOf(0, 5), 0);
        due("run(1)", x.run(1), 2);
        due("all three NEVER", x.told(5), 6);
        for (int c = 0; c < 3; c++) {
            due("clock " + c, x.channelOf(c, 4), NEVER);
            due("empty letters " + c, x.channelOf(c, 6), 2);
        }
        x.event(1, 30, 0);
        due("a channel promised NEVER", x.event(0, 9999, 0), NOT);
        due("told(12)", x.told(12), 3);
    }

    private static void promise7AsAsked() {
        SafeParts x = new SafeParts();
        x.parts(4);
        x.channel(0, 2, 3, 3);
        x.channel(1, 2, 3, 3);
        x.channel(0, 3, 3, 3);
        x.event(0, 10, 0);
        x.event(0, 15, 0);
        x.event(1, 11, 0);
        x.event(1, 16, 0);
        x.event(2, 17, 0);
        x.form(2);
        due("run(1)", x.run(1), 2);
        // Channel 0 is the least of like clocks; then channel 1 is that of the least clock.
        due("channel 0", x.channelOf(0, 4), 18);
        due("channel 1", x.channelOf(1, 4), 19);
        due("channel 2 is not asked for", x.channelOf(2, 4), 0);
        due("two went", x.told(5), 2);
        due("run(1)", x.run(1), 3);
        due("no part waits: none went", x.told(5), 2);
        x.parts(3);
        x.channel(1, 2, 3, 3);
        x.channel(0, 2, 3, 3);
        x.event(0, 15, 0);
        x.event(0, 25, 0);
        x.event(1, 40, 0);
        x.event(1, 50, 0);
        x.event(2, 90, 0);
        due("run(1)", x.run(1), 2);
        // Part 0 comes first, but of like clocks the least number is channel 0, from part 1.
        due("channel 0 alone", x.channelOf(0, 4), 53);
        due("not channel 1", x.channelOf(1, 4), 0);
        due("one went", x.told(5), 1);
    }

    private static void promise7AsAskedStandsStill() {
        SafeParts x = new SafeParts();
        x.parts(3);
        x.channel(0, 1, 5, 5);
        x.channel(1, 0, 5, 5);
        x.channel(1, 2, 1, 5);
        x.event(2, 50, 0);
        x.form(2);
        due("run(40)", x.run(40), 0);
        due("part 1 has no event, so nobody tells it more", x.channelOf(0, 4), 0);
        due("one went: SAFE 0 and 1", x.channelOf(2, 4), 1);
        due("a round, and one that was STILL", x.told(6), 2);
        due("finish", x.finish(), 1);
        due("it was LET GO", x.told(7), 1);
    }

    private static void promise7RingWithoutPromise() {
        SafeParts x = new SafeParts();
        x.parts(3);
        x.channel(0, 1, 0, 1);
        x.channel(1, 2, 0, 2);
        x.channel(2, 0, 0, 3);
        x.event(1, 4, 2);
        for (int form = 0; form <= 2; form += 2) {
            x.form(form);
            due("run in form " + form, x.run(1), NOT);
            due("OUTSIDE ahead of NOT", x.run(0), OUTSIDE);
            due("finish in form " + form, x.finish(), NOT);
        }
        due("no round was run", x.told(6), 0);
        due("no empty letter went", x.told(5), 0);
        x.form(1);
        due("run in form 1", x.run(3), 0);
        due("one that was STILL", x.told(6), 1);
        x.form(0);
        due("letGo in form 0", x.letGo(), 4);
        x.form(1);
        due("finish in form 1", x.finish(), 2);
    }

    private static void promise8Not() {
        SafeParts x = new SafeParts();
        due("no parts", x.letGo(), NOT);
        x.parts(2);
        due("no events", x.letGo(), NOT);
        x.channel(0, 1, 1, 5);
        x.event(1, 3, 0);
        x.event(0, 4, 0);
        due("part 0 may work", x.letGo(), NOT);
        due("nothing was worked on", x.told(4), 0);
        due("never let go", x.told(7), 0);
        due("no round", x.told(6), 0);
    }

    private static void promise8LetGo() {
        SafeParts x = new SafeParts();
        x.parts(3);
        x.channel(0, 1, 0, 1);
        x.channel(1, 2, 0, 7);
        x.channel(2, 0, 1, 9);
        x.event(0, 8, 0);
        x.event(1, 5, 3);
        x.event(2, 5, 0);
        x.event(1, 5, 0);
        x.event(2, 6, 0);
        due("T", x.letGo(), 5);
        due("all of time 5", x.told(4), 3);
        due("what waits", x.told(3), 3);
        due("no clock below 6", x.channelOf(0, 4), 6);
        due("the letter's clock stays", x.channelOf(1, 4), 12);
        due("no clock below 6", x.channelOf(2, 4), 6);
        due("once", x.told(7), 1);
        due("it is no ROUND that is told", x.told(6), 0);
        int[][] rows = {{1, 5, 3, 0}, {1, 5, 0, 0}, {2, 5, 0, 0}};
        for (int k = 0; k < rows.length; k++) {
            for (int what = 0; what < 4; what++) {
                due("record(" + k + ", " + what + ")", x.record(k, what), rows[k][what]);
            }
        }
        due("2 may work on 6 now", x.letGo(), NOT);
        due("run(1)", x.run(1), 1);
        due("in the record it counts as one, so the next has number 1", x.record(3, 3), 1);
        due("one ROUND", x.told(6), 1);
    }

    private static void promise8AllOfOnePart() {
        SafeParts x = new SafeParts();
        x.parts(2);
        x.channel(0, 1, 0, 1);
        for (int k = 0; k < 30; k++) {
            x.event(1, 5, k);
        }
        due("T", x.letGo(), 5);
        due("all 30 were worked on", x.told(4), 30);
        due("in one round", x.record(29, 3), 0);
        due("none waits", x.told(3), 0);
    }

    private static void promise9Finish() {
        for (int form = 0; form < 3; form++) {
            SafeParts x = new SafeParts();
            x.parts(3);
            x.channel(0, 1, 1, 3);
            x.channel(1, 2, 2, 2);
            x.channel(2, 0, 0, 4);
            x.event(0, 3, 10);
            x.event(2, 3, 11);
            x.event(1, 0, 0);
            x.form(form);
            due("finish in form " + form, x.finish(), 24);
            due("no event is left", x.told(3), 0);
            due("told(4)", x.told(4), 24);
            if (form != 2) {
                due("let go in form 1, not in 0", x.told(7) > 0 ? 1 : 0, form);
            }
            due("empty letters not in form 1", x.told(5) > 0 ? 1 : 0, form == 1 ? 0 : 1);
            int rounds = x.told(6);
            due("finish again", x.finish(), 0);
            due("no round then", x.told(6), rounds);
        }
    }

    /** Three chains of 100 EVENTS, each EVENT by a ROUND that is STILL and LET GO. */
    private static SafeParts threeChains(int parts) {
        SafeParts x = new SafeParts();
        x.parts(parts);
        x.channel(0, 1, 0, 1);
        x.channel(1, 0, 0, 1);
        x.event(0, 0, 99);
        x.event(0, 3000, 99);
        x.event(0, 6000, 99);
        x.form(1);
        return x;
    }

    private static void promise9Limit() {
        SafeParts x = threeChains(2);
        due("400 of both", x.finish(), 200);
        due("rounds", x.told(6), 200);
        due("let go", x.told(7), 200);
        due("one is left", x.told(3), 1);
        due("told(9)", x.told(9), 6000);
        due("the third chain", x.finish(), 100);
        due("none is left", x.told(3), 0);
        due("the record is full", x.told(10), 200);
        due("its last entry: time", x.record(199, 1), 3099);
        due("its last entry: round", x.record(199, 3), 399);
        due("no more", x.record(200, 1), NONE);
    }

    private static void promise9LimitBehindStill() {
        SafeParts x = threeChains(3);
        x.event(2, 0, 0);
        due("one more, one let go less", x.finish(), 200);
        due("rounds", x.told(6), 201);
        due("no LET GO behind the 400th", x.told(7), 199);
    }

    private static void promise9Not() {
        SafeParts x = new SafeParts();
        due("no parts", x.finish(), NOT);
        x.parts(2);
        due("no events", x.finish(), 0);
        x.channel(0, 1, 0, 1);
        x.channel(1, 0, 0, 1);
        due("a ring without promise, no events", x.finish(), NOT);
        x.form(2);
        due("form 2, too", x.finish(), NOT);
        x.form(1);
        due("not in form 1", x.finish(), 0);
        due("no round was run", x.told(6), 0);
    }
}
