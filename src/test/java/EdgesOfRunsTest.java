/** Promises 7 to 9: each sentence that names an edge has a test of its own. */
public final class EdgesOfRunsTest {
    private static final int OUTSIDE = SafeParts.OUTSIDE;
    private static final int NOT = SafeParts.NOT;
    private static final int MIN = Integer.MIN_VALUE;
    private static final int MAX = Integer.MAX_VALUE;
    private static final Check CHECK = new Check("EdgesOfRunsTest");

    public static void main(String[] args) {
        run();
        letGo();
        finish();
        CHECK.end();
    }

    private static void run() {
        runBounds();
        runSoManyRounds();
        runEndsBehindStill();
        runEndsWithoutEvents();
        runWithoutEvents();
        runHowMany();
        runNoParts();
        runRingWithoutPromise();
    }

    private static void letGo() {
        letGoAnswersT();
        letGoInEachForm();
        letGoIfSomePartMay();
        letGoNoEvents();
    }

    private static void finish() {
        finishTillNoEventIsLeft();
        finishWithoutEvents();
        finishLetGoBehindStill();
        finishFourHundredAtMost();
        finishFourHundredRounds();
        finishRoundIsTheLast();
        finishHowMany();
        finishNoParts();
        finishRingWithoutPromise();
    }

    private static void says(String words) {
        CHECK.says(words);
    }

    private static void due(String call, int got, int want) {
        CHECK.due(call, got, want);
    }

    /** So many ROUNDS of EMPTY LETTERS are wanted for 9999 that none of the tests comes to the end. */
    private static SafeParts longWait() {
        SafeParts x = Make.ring(2, 1, 1);
        x.event(0, 9999, 0);
        return x;
    }

    // ---- promise 7

    private static void runBounds() {
        says("n ROUNDS (1 .. 40;");
        SafeParts x = longWait();
        for (int n : new int[] {MIN, -1, 0, 41, MAX}) {
            due("run(" + n + ")", x.run(n), OUTSIDE);
        }
        due("no ROUND was run", x.told(6), 0);
        due("run(1)", x.run(1), 0);
        due("run(40)", x.run(40), 0);
        due("41 ROUNDS", x.told(6), 41);
    }

    private static void runSoManyRounds() {
        says("n ROUNDS (1 .. 40;");
        for (int n = 1; n <= 40; n++) {
            SafeParts x = longWait();
            x.run(n);
            due("run(" + n + ")", x.told(6), n);
            due("EMPTY LETTERS", x.told(5), 2 * n);
        }
    }

    private static void runEndsBehindStill() {
        says("it ends behind one that was STILL");
        SafeParts x = Make.parts(2);
        x.channel(0, 1, 1, 1);
        x.form(1);
        x.event(1, 5, 0);
        due("run(40)", x.run(40), 0);
        due("one ROUND", x.told(6), 1);
        x.event(0, 3, 0);
        x.event(0, 4, 0);
        due("run(40)", x.run(40), 2);
        due("two and one that was STILL", x.told(6), 4);
        due("run(2)", x.run(2), 0);
        due("one more that was STILL", x.told(6), 5);
        due("it is not LET GO", x.told(7), 0);
    }

    private static void runEndsWithoutEvents() {
        says("as soon as no EVENT is left");
        for (int form = 0; form < 3; form++) {
            SafeParts x = Make.parts(2);
            x.channel(0, 1, 1, 1);
            x.form(form);
            x.event(0, 3, 0);
            x.event(0, 4, 0);
            due("run(40)", x.run(40), 2);
            due("two ROUNDS", x.told(6), 2);
            due("none is left", x.told(3), 0);
        }
    }

    private static void runWithoutEvents() {
        says("as soon as no EVENT is left");
        for (int form = 0; form < 3; form++) {
            SafeParts x = Make.parts(2);
            x.channel(0, 1, 1, 1);
            x.form(form);
            due("run(40)", x.run(40), 0);
            due("no ROUND", x.told(6), 0);
            due("no EMPTY LETTER", x.told(5), 0);
            due("CLOCK", x.channelOf(0, 4), 0);
        }
    }

    private static void runHowMany() {
        says("how many EVENTS were worked on. OUTSIDE, NOT: no PARTS; a RING WITHOUT PROMISE (FORM 0, 2)");
        SafeParts x = Make.thirtyByHand(6);
        due("one of each PART", x.run(1), 6);
        due("two of each PART", x.run(2), 12);
        due("the others", x.run(40), 12);
        due("none", x.run(40), 0);
        due("all", x.told(4), 30);
    }

    private static void runNoParts() {
        says("NOT: no PARTS; a RING WITHOUT PROMISE (FORM 0, 2).");
        for (int form = 0; form < 3; form++) {
            SafeParts x = new SafeParts();
            x.form(form);
            due("run(1)", x.run(1), NOT);
            due("run(40)", x.run(40), NOT);
            x.parts(1);
            due("with one", x.run(1), 0);
        }
    }

    private static void runRingWithoutPromise() {
        says("a RING WITHOUT PROMISE (FORM 0, 2)");
        for (int parts = 2; parts <= 6; parts++) {
            SafeParts x = Make.ring(parts, 0, 1);
            x.event(0, 5, 0);
            due("FORM 0", x.run(1), NOT);
            x.form(2);
            due("FORM 2", x.run(1), NOT);
            due("no ROUND", x.told(6), 0);
            x.form(1);
            due("FORM 1", x.run(1), 0);
            due("one ROUND", x.told(6), 1);
            SafeParts y = Make.ring(parts, 1, 1);
            due("with a promise", y.run(1), 0);
        }
        due("without EVENTS, too", Make.ring(2, 0, 1).run(1), NOT);
    }

    // ---- promise 8

    private static void letGoAnswersT() {
        says("LET GO: T.");
        for (int time : new int[] {0, 1, 9998, 9999}) {
            SafeParts x = Make.parts(2);
            x.channel(0, 1, 0, 1);
            x.event(1, time, 0);
            due("T", x.letGo(), time);
            due("once", x.told(7), 1);
            due("CLOCK: T and 1", x.channelOf(0, 4), time + 1);
        }
        SafeParts y = Make.ring(2, 0, 99);
        y.event(0, 9999, 2);
        due("T", y.letGo(), 9999);
        due("T of a LETTER", y.letGo(), 10098);
        due("T of its LETTER", y.letGo(), 10197);
        due("none any more", y.letGo(), NOT);
        due("three times", y.told(7), 3);
    }

    private static void letGoInEachForm() {
        says("`int letGo()`: LET GO: T. NOT: some PART MAY work, no EVENTS.");
        for (int form = 0; form < 3; form++) {
            SafeParts x = Make.ring(2, 0, 1);
            x.form(form);
            x.event(1, 7, 0);
            due("T in form " + form, x.letGo(), 7);
            due("worked on", x.told(4), 1);
            due("no EMPTY LETTERS", x.told(5), 0);
        }
    }

    private static void letGoIfSomePartMay() {
        says("NOT: some PART MAY work");
        for (int p = 0; p < 6; p++) {
            SafeParts x = Make.parts(6);
            int other = (p + 1) % 6;
            x.channel(p, other, 0, 1);
            x.event(other, 2, 0);
            x.event(p, 9, 0);
            due("PART " + p + " may, though its EVENT is the later", x.letGo(), NOT);
            due("nothing was worked on", x.told(4), 0);
            due("CLOCK", x.channelOf(0, 4), 0);
            due("how often", x.told(7), 0);
            x.form(1);
            x.run(1);
            due("none may any more", x.letGo(), 2);
        }
    }

    private static void letGoNoEvents() {
        says("NOT: some PART MAY work, no EVENTS.");
        due("no PARTS", new SafeParts().letGo(), NOT);
        SafeParts x = Make.ring(2, 0, 1);
        due("none yet", x.letGo(), NOT);
        x.event(0, 3, 0);
        due("one", x.letGo(), 3);
        due("none any more", x.letGo(), NOT);
        due("once", x.told(7), 1);
        due("CLOCK as it was", x.channelOf(0, 4), 4);
    }

    // ---- promise 9

    private static void finishTillNoEventIsLeft() {
        says("Till no EVENT is left: ROUNDS");
        SafeParts x = Make.thirtyByHand(1);
        due("finish()", x.finish(), 30);
        due("30 ROUNDS", x.told(6), 30);
        due("none is left", x.told(3), 0);
        due("no LET GO", x.told(7), 0);
    }

    private static void finishWithoutEvents() {
        says("Till no EVENT is left");
        for (int form = 0; form < 3; form++) {
            SafeParts x = Make.ring(3, 1, 1);
            x.form(form);
            due("finish()", x.finish(), 0);
            due("no ROUND", x.told(6), 0);
            due("no LET GO", x.told(7), 0);
            due("no EMPTY LETTER", x.told(5), 0);
        }
    }

    /** PART 1 waits for PART 0, which has two EVENTS: two ROUNDS, one STILL, LET GO, one STILL, LET GO. */
    private static void finishLetGoBehindStill() {
        says("LET GO behind each that was STILL");
        SafeParts x = Make.parts(2);
        x.channel(0, 1, 0, 1);
        x.form(1);
        x.event(0, 1, 0);
        x.event(0, 2, 0);
        x.event(1, 5, 0);
        x.event(1, 7, 0);
        due("finish()", x.finish(), 4);
        due("ROUNDS", x.told(6), 4);
        due("LET GO", x.told(7), 2);
        int[] round = {0, 1, 3, 5};
        for (int k = 0; k < round.length; k++) {
            due("entry " + k, x.record(k, 3), round[k]);
        }
    }

    private static void finishFourHundredAtMost() {
        says("400 of both together at most");
        SafeParts x = Make.chains(2, 100, 100, 0);
        due("200 by 400", x.finish(), 200);
        due("ROUNDS", x.told(6), 200);
        due("LET GO", x.told(7), 200);
        due("none is left", x.told(3), 0);
        SafeParts y = Make.chains(2, 100, 100, 1);
        due("200 of 201", y.finish(), 200);
        due("ROUNDS", y.told(6), 200);
        due("LET GO", y.told(7), 200);
        due("one is left", y.told(3), 1);
        due("400 anew", y.finish(), 1);
        due("ROUNDS", y.told(6), 201);
        due("LET GO", y.told(7), 201);
    }

    private static void finishFourHundredRounds() {
        says("400 of both together at most");
        for (int form = 0; form < 3; form++) {
            SafeParts x = longWait();
            x.event(1, 9999, 0);
            x.form(form);
            due("finish() in form " + form, x.finish(), form == 1 ? 2 : 0);
            due("ROUNDS", x.told(6), form == 1 ? 1 : 400);
            due("LET GO", x.told(7), form == 1 ? 1 : 0);
            due("EMPTY LETTERS", x.told(5), form == 1 ? 0 : 800);
        }
    }

    /** The first ROUND is not STILL, so that the 400th is a ROUND, which is STILL. */
    private static void finishRoundIsTheLast() {
        says("400 of both together at most");
        SafeParts x = Make.chains(3, 100, 100, 0);
        x.event(2, 0, 0);
        due("one of PART 2, 199 of the chains", x.finish(), 200);
        due("ROUNDS", x.told(6), 201);
        due("LET GO", x.told(7), 199);
        due("one is left", x.told(3), 1);
    }

    private static void finishHowMany() {
        says("400 of both together at most: how many EVENTS were worked on");
        SafeParts x = Make.thirtyByHand(6);
        x.run(2);
        due("without those ahead of it", x.finish(), 18);
        due("all", x.told(4), 30);
        due("none any more", x.finish(), 0);
    }

    private static void finishNoParts() {
        says("how many EVENTS were worked on. NOT: no PARTS; a RING WITHOUT PROMISE (FORM 0, 2).");
        for (int form = 0; form < 3; form++) {
            SafeParts x = new SafeParts();
            x.form(form);
            due("finish()", x.finish(), NOT);
            x.parts(1);
            due("with one", x.finish(), 0);
        }
    }

    private static void finishRingWithoutPromise() {
        says("a RING WITHOUT PROMISE (FORM 0, 2)");
        for (int parts = 2; parts <= 6; parts++) {
            SafeParts x = Make.ring(parts, 0, 1);
            x.event(0, 5, 3);
            due("FORM 0", x.finish(), NOT);
            x.form(2);
            due("FORM 2", x.finish(), NOT);
            due("no ROUND", x.told(6), 0);
            due("no LET GO", x.told(7), 0);
            x.form(1);
            due("FORM 1", x.finish(), 4);
        }
        due("without EVENTS, too", Make.ring(2, 0, 1).finish(), NOT);
    }
}
