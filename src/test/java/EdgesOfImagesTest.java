/** Promises 18 and 19: each sentence that names an edge has a test of its own. */
public final class EdgesOfImagesTest {
    private static final int UNKNOWN = SafeParts.UNKNOWN;
    private static final int NOT = SafeParts.NOT;
    private static final int FULL = SafeParts.FULL;
    private static final int MIN = Integer.MIN_VALUE;
    private static final int MAX = Integer.MAX_VALUE;
    private static final Check CHECK = new Check("EdgesOfImagesTest");

    public static void main(String[] args) {
        keepUnknown();
        keepOverIt();
        keepWithoutParts();
        keepLater();
        goBackUnknown();
        goBackNotKept();
        goBackAgain();
        goBackToWhatIsFull();
        goBackToForm();
        goBackToNoRound();
        goBackNotTheRecord();
        goBackToAFullRecord();
        CHECK.end();
    }

    private static void says(String words) {
        CHECK.says(words);
    }

    private static void due(String call, int got, int want) {
        CHECK.due(call, got, want);
    }

    // ---- promise 18

    private static void keepUnknown() {
        says("IMAGE i keeps all but THE RECORD: 1. UNKNOWN.");
        SafeParts x = Make.parts(1);
        for (int i : new int[] {MIN, -1, 2, MAX}) {
            due("keep(" + i + ")", x.keep(i), UNKNOWN);
        }
        due("none was kept", x.goBack(0), NOT);
        due("none was kept", x.goBack(1), NOT);
        due("keep(0)", x.keep(0), 1);
        due("keep(1)", x.keep(1), 1);
    }

    private static void keepOverIt() {
        says("IMAGE i keeps all but THE RECORD: 1.");
        for (int i = 0; i < 2; i++) {
            SafeParts x = Make.parts(1);
            x.keep(i);
            x.event(0, 5, 0);
            due("once more", x.keep(i), 1);
            x.event(0, 6, 0);
            x.goBack(i);
            due("as it was kept last", x.told(3), 1);
            due("the other was not", x.goBack(1 - i), NOT);
        }
    }

    private static void keepWithoutParts() {
        says("IMAGE i keeps all but THE RECORD: 1.");
        SafeParts x = new SafeParts();
        due("keep(1)", x.keep(1), 1);
        x.form(2);
        due("goBack(1)", x.goBack(1), 1);
        due("no PARTS", x.told(0), 0);
        due("FORM", x.told(2), 0);
    }

    /** What is kept is not what is so now, and does not go on with it. */
    private static void keepLater() {
        says("IMAGE i keeps all but THE RECORD: 1.");
        SafeParts x = Make.chains(2, 4, 0, 0);
        x.keep(0);
        x.letGo();
        x.keep(1);
        x.finish();
        x.goBack(1);
        due("worked on", x.told(4), 1);
        due("the least time", x.told(9), 1);
        due("finish()", x.finish(), 3);
        x.goBack(0);
        due("worked on", x.told(4), 0);
        due("the least time", x.told(9), 0);
        due("finish()", x.finish(), 4);
    }

    // ---- promise 19

    private static void goBackUnknown() {
        says("All but THE RECORD is as it was kept: 1. UNKNOWN, NOT: it was not.");
        SafeParts x = Make.parts(1);
        for (int i : new int[] {MIN, -1, 2, MAX}) {
            due("none kept: goBack(" + i + ")", x.goBack(i), UNKNOWN);
        }
        x.keep(0);
        x.keep(1);
        for (int i : new int[] {MIN, -1, 2, MAX}) {
            due("both kept: goBack(" + i + ")", x.goBack(i), UNKNOWN);
        }
        due("goBack(0)", x.goBack(0), 1);
        due("goBack(1)", x.goBack(1), 1);
    }

    private static void goBackNotKept() {
        says("NOT: it was not.");
        for (int i = 0; i < 2; i++) {
            SafeParts x = Make.parts(2);
            due("none kept", x.goBack(i), NOT);
            x.keep(1 - i);
            due("the other kept", x.goBack(i), NOT);
            due("that one", x.goBack(1 - i), 1);
            due("still not", x.goBack(i), NOT);
            x.keep(i);
            due("now it is", x.goBack(i), 1);
        }
    }

    private static void goBackAgain() {
        says("All but THE RECORD is as it was kept: 1.");
        SafeParts x = Make.thirtyByHand(3);
        x.keep(0);
        for (int k = 0; k < 3; k++) {
            due("finish()", x.finish(), 30);
            due("goBack(0)", x.goBack(0), 1);
            due("30 wait", x.told(3), 30);
            due("none was worked on", x.told(4), 0);
        }
    }

    private static void goBackToWhatIsFull() {
        says("All but THE RECORD is as it was kept: 1.");
        SafeParts x = Make.twelveChannels();
        for (int k = 0; k < 30; k++) {
            x.event(k % 6, 5, 0);
        }
        x.keep(0);
        x.form(1);
        x.finish();
        x.goBack(0);
        due("12 CHANNELS", x.channel(0, 3, 1, 1), FULL);
        due("30 by hand", x.event(0, 5, 0), FULL);
        due("30 wait", x.told(3), 30);
        due("CLOCK", x.channelOf(11, 4), 0);
    }

    private static void goBackToForm() {
        says("All but THE RECORD is as it was kept: 1.");
        for (int form = 0; form < 3; form++) {
            SafeParts x = Make.parts(1);
            x.form(form);
            x.keep(0);
            x.form((form + 1) % 3);
            x.goBack(0);
            due("FORM", x.told(2), form);
        }
    }

    private static void goBackToNoRound() {
        says("All but THE RECORD is as it was kept: 1.");
        SafeParts x = Make.parts(3);
        x.channel(0, 1, 1, 1);
        x.event(1, 5, 0);
        x.event(1, 6, 0);
        x.keep(0);
        x.letGo();
        x.run(1);
        due("a ROUND was run", x.channel(1, 2, 1, 1), NOT);
        due("PART 1 worked on 5", x.event(1, 5, 0), NOT);
        x.goBack(0);
        due("none was", x.channel(1, 2, 1, 1), 1);
        due("it did not", x.event(1, 5, 0), 3);
        x.goBack(0);
        due("no CHANNEL came", x.told(1), 1);
        due("no EVENT came", x.told(3), 2);
    }

    private static void goBackNotTheRecord() {
        says("All but THE RECORD is as it was kept: 1.");
        SafeParts x = Make.parts(1);
        x.event(0, 5, 1);
        x.event(0, 6, 2);
        x.keep(0);
        x.run(1);
        x.keep(1);
        x.run(1);
        x.goBack(0);
        due("two entries", x.told(10), 2);
        due("the second", x.record(1, 2), 2);
        x.run(1);
        due("three entries", x.told(10), 3);
        due("value of the third", x.record(2, 2), 1);
        due("ROUND of the third", x.record(2, 3), 0);
        x.goBack(1);
        due("three entries", x.told(10), 3);
        x.run(1);
        due("value of the fourth", x.record(3, 2), 2);
        due("ROUND of the fourth", x.record(3, 3), 1);
    }

    private static void goBackToAFullRecord() {
        says("All but THE RECORD is as it was kept: 1.");
        SafeParts x = Make.chains(2, 100, 0, 0);
        x.keep(0);
        for (int k = 0; k < 3; k++) {
            due("100 each time", x.finish(), 100);
            due("entries", x.told(10), Math.min(200, 100 * (k + 1)));
            x.goBack(0);
        }
        due("the last: time", x.record(199, 1), 99);
        due("the last: ROUND", x.record(199, 3), 199);
        due("no entry was worked on now", x.told(4), 0);
        x.parts(1);
        due("none anew", x.told(10), 0);
    }
}
