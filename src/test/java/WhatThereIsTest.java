/** Promises 1 to 6: a new object, parts, channel, event, form, drift. */
public final class WhatThereIsTest {
    private static final int NONE = SafeParts.NONE;
    private static final int NEVER = SafeParts.NEVER;
    private static final int UNKNOWN = SafeParts.UNKNOWN;
    private static final int OUTSIDE = SafeParts.OUTSIDE;
    private static final int NOT = SafeParts.NOT;
    private static final int FULL = SafeParts.FULL;
    private static final int MIN = Integer.MIN_VALUE;
    private static final int MAX = Integer.MAX_VALUE;
    private static final Check CHECK = new Check("WhatThereIsTest");

    public static void main(String[] args) {
        promise1NewObject();
        promise1ObjectsApart();
        promise2Parts();
        promise2PartsBeginAnew();
        promise3Channel();
        promise3ChannelOrderOfRefusals();
        promise3ChannelBehindRounds();
        promise4Event();
        promise4EventOrder();
        promise4EventNot();
        promise4EventFull();
        promise5Form();
        promise6Drift();
        promise6DriftRefusedByEvent();
        CHECK.end();
    }

    private static void due(String call, int got, int want) {
        CHECK.due(call, got, want);
    }

    private static void promise1NewObject() {
        SafeParts x = new SafeParts();
        int[] want = {0, 0, 0, 0, 0, 0, 0, 0, 0, NEVER, 0, 0, 0};
        for (int what = 0; what < want.length; what++) {
            due("new: told(" + what + ")", x.told(what), want[what]);
        }
        due("new: part", x.part(0, 0), UNKNOWN);
        due("new: channel", x.channel(0, 1, 1, 1), UNKNOWN);
        due("new: event", x.event(0, 0, 0), UNKNOWN);
        due("new: between", x.between(0, 1), UNKNOWN);
        due("new: channelOf", x.channelOf(0, 0), UNKNOWN);
        due("new: record", x.record(0, 0), NONE);
        due("new: ring", x.ring(0), UNKNOWN);
        due("new: waits", x.waits(0), UNKNOWN);
        due("new: inOrder", x.inOrder(0, 0), UNKNOWN);
        due("new: goBack", x.goBack(0), NOT);
        due("new: drift", x.drift(1, 1), NOT);
        due("new: run", x.run(1), NOT);
        due("new: letGo", x.letGo(), NOT);
        due("new: finish", x.finish(), NOT);
    }

    private static void promise1ObjectsApart() {
        SafeParts x = new SafeParts();
        SafeParts y = new SafeParts();
        x.parts(2);
        x.channel(0, 1, 1, 2);
        x.event(0, 3, 1);
        due("apart: parts of the other", y.told(0), 0);
        y.parts(1);
        due("apart: events of the other", y.told(3), 0);
        due("apart: channels of the first", x.told(1), 1);
    }

    private static void promise2Parts() {
        SafeParts x = new SafeParts();
        for (int n : new int[] {MIN, -1, 0, 7, MAX}) {
            due("parts(" + n + ")", x.parts(n), OUTSIDE);
        }
        for (int n = 1; n <= 6; n++) {
            due("parts(" + n + ")", x.parts(n), 0);
            due("told(0) of " + n, x.told(0), n);
            due("the last of " + n, x.part(n - 1, 0), 0);
            due("behind the last of " + n, x.part(n, 0), UNKNOWN);
        }
    }

    private static void promise2PartsBeginAnew() {
        SafeParts x = new SafeParts();
        x.parts(2);
        x.channel(0, 1, 2, 3);
        x.channel(1, 0, 2, 3);
        x.event(0, 1, 4);
        x.event(1, 2, 4);
        x.form(2);
        x.keep(0);
        x.keep(1);
        x.run(3);
        int workedOn = x.told(4);
        CHECK.holds("something was worked on", workedOn > 0);
        x.form(1);
        x.run(40);
        x.letGo();
        workedOn = x.told(4);
        due("parts(9) changes nothing", x.parts(9), OUTSIDE);
        due("told(4) then", x.told(4), workedOn);
        due("told(1) then", x.told(1), 2);
        due("parts anew", x.parts(3), workedOn);
        int[] want = {3, 0, 1, 0, 0, 0, 0, 0, 0, NEVER, 0, 0, 0};
        for (int what = 0; what < want.length; what++) {
            due("anew: told(" + what + ")", x.told(what), want[what]);
        }
        for (int p = 0; p < 3; p++) {
            int[] ofPart = {0, 0, 0, NEVER, 0, NEVER, NONE, 0, NONE, 0, 0};
            for (int what = 0; what < ofPart.length; what++) {
                due("anew: part(" + p + ", " + what + ")", x.part(p, what), ofPart[what]);
            }
        }
        due("anew: record", x.record(0, 0), NONE);
        due("anew: goBack(0)", x.goBack(0), NOT);
        due("anew: goBack(1)", x.goBack(1), NOT);
        due("anew: channel is not refused", x.channel(0, 1, 0, 1), 0);
        due("anew: its clock", x.channelOf(0, 4), 0);
        due("anew: its letters", x.channelOf(0, 5), 0);
        due("anew: its empty letters", x.channelOf(0, 6), 0);
        due("anew: event at 0", x.event(0, 0, 0), 1);
        due("nothing was worked on", x.parts(1), 0);
    }

    private static void promise3Channel() {
        SafeParts x = new SafeParts();
        x.parts(3);
        due("channel(0, 1, 0, 1)", x.channel(0, 1, 0, 1), 0);
        due("channel(1, 0, 99, 99)", x.channel(1, 0, 99, 99), 1);
        due("channel(2, 1, 0, 99)", x.channel(2, 1, 0, 99), 2);
        int[][] rows = {{0, 1, 0, 1, 0, 0, 0}, {1, 0, 99, 99, 0, 0, 0}, {2, 1, 0, 99, 0, 0, 0}};
        for (int c = 0; c < 3; c++) {
            for (int what = 0; what < 7; what++) {
                due("channelOf(" + c + ", " + what + ")", x.channelOf(c, what), rows[c][what]);
            }
        }
        for (int p : new int[] {MIN, -1, 3, 6, MAX}) {
            due("channel from " + p, x.channel(p, 1, 1, 1), UNKNOWN);
            due("channel to " + p, x.channel(1, p, 1, 1), UNKNOWN);
        }
        due("channel to itself", x.channel(2, 2, 1, 1), UNKNOWN);
        for (int promise : new int[] {MIN, -1, 100, MAX}) {
            due("promise " + promise, x.channel(0, 2, promise, 99), OUTSIDE);
        }
        for (int delay : new int[] {MIN, -1, 0, 100, MAX}) {
            due("delay " + delay, x.channel(0, 2, 0, delay), OUTSIDE);
        }
        due("delay less than promise", x.channel(0, 2, 7, 6), OUTSIDE);
        due("one that way", x.channel(2, 1, 5, 5), NOT);
        due("told(1) behind refusals", x.told(1), 3);
        due("delay like promise", x.channel(0, 2, 7, 7), 3);
    }

    private static void promise3ChannelOrderOfRefusals() {
        SafeParts x = new SafeParts();
        x.parts(6);
        int made = 0;
        for (int from = 0; from < 6 && made < 12; from++) {
            for (int to = 0; to < 6 && made < 12; to++) {
                if (from != to) {
                    due("channel " + made, x.channel(from, to, 1, 1), made);
                    made++;
                }
            }
        }
        due("FULL", x.channel(5, 4, 1, 1), FULL);
        due("NOT ahead of FULL", x.channel(0, 1, 1, 1), NOT);
        due("OUTSIDE ahead of NOT", x.channel(0, 1, 1, 0), OUTSIDE);
        due("OUTSIDE ahead of FULL", x.channel(5, 4, 2, 1), OUTSIDE);
        due("UNKNOWN ahead of OUTSIDE", x.channel(5, 6, 2, 1), UNKNOWN);
        due("UNKNOWN (one twice) ahead of OUTSIDE", x.channel(5, 5, 2, 1), UNKNOWN);
        due("still 12", x.told(1), 12);
        x.event(5, 0, 0);
        x.run(1);
        due("NOT behind a ROUND ahead of FULL", x.channel(5, 4, 1, 1), NOT);
    }

    private static void promise3ChannelBehindRounds() {
        SafeParts x = new SafeParts();
        x.parts(3);
        x.channel(0, 1, 1, 1);
        x.event(1, 4, 0);
        due("behind an event", x.channel(1, 2, 1, 1), 1);
        x.keep(0);
        x.run(1);
        due("behind a round", x.channel(2, 0, 1, 1), NOT);
        x.goBack(0);
        due("as it was ahead of the round", x.channel(2, 0, 1, 1), 2);
        x.goBack(0);
        due("letGo", x.letGo(), 4);
        due("behind letGo", x.channel(2, 0, 1, 1), NOT);
    }

    private static void promise4Event() {
        SafeParts x = new SafeParts();
        x.parts(2);
        due("event at 0", x.event(0, 0, 0), 1);
        due("event at 9999", x.event(0, 9999, 99), 2);
        due("of the other part", x.event(1, 5, 5), 1);
        for (int p : new int[] {MIN, -1, 2, 6, MAX}) {
            due("event of part " + p, x.event(p, 0, 0), UNKNOWN);
        }
        for (int time : new int[] {MIN, -1, 10000, MAX}) {
            due("event at " + time, x.event(0, time, 0), OUTSIDE);
        }
        for (int value : new int[] {MIN, -1, 100, MAX}) {
            due("event of value " + value, x.event(0, 0, value), OUTSIDE);
        }
        due("UNKNOWN ahead of OUTSIDE", x.event(2, -1, 100), UNKNOWN);
        due("told(3)", x.told(3), 3);
        due("told(12)", x.told(12), 3);
        due("part(0, 4)", x.part(0, 4), 2);
    }

    /** By time; by hand ahead of LETTERS; LETTERS by CHANNEL; as they came. */
    private static void promise4EventOrder() {
        SafeParts x = new SafeParts();
        x.parts(4);
        x.channel(2, 3, 1, 7);
        x.channel(0, 3, 1, 10);
        x.channel(1, 3, 1, 6);
        x.event(3, 11, 50);
        x.event(3, 10, 30);
        x.event(0, 0, 21);
        x.event(0, 0, 22);
        x.event(1, 4, 23);
        x.event(2, 3, 24);
        x.event(3, 10, 31);
        x.event(3, 9, 29);
        x.form(1);
        // The letters all come at 10, so 9 is SAFE then, and 10 is not.
        due("run", x.run(40), 5);
        due("by hand behind the letters", x.event(3, 10, 32), 8);
        int[] value = {30, 31, 32, 23, 20, 21, 22, 50};
        int[] time = {10, 10, 10, 10, 10, 10, 10, 11};
        int entry = x.told(10);
        due("finish", x.finish(), 8);
        for (int k = 0; k < value.length; k++) {
            due("order: part " + k, x.record(entry + k, 0), 3);
            due("order: time " + k, x.record(entry + k, 1), time[k]);
            due("order: value " + k, x.record(entry + k, 2), value[k]);
        }
    }

    private static void promise4EventNot() {
        SafeParts x = new SafeParts();
        x.parts(2);
        x.channel(0, 1, 3, 10);
        x.event(0, 5, 0);
        x.event(0, 8, 0);
        due("run", x.run(1), 1);
        due("clock: 8 and 3", x.channelOf(0, 4), 11);
        due("at what was worked on", x.event(0, 5, 0), NOT);
        due("ahead of what was worked on", x.event(0, 0, 0), NOT);
        due("clock above time and promise", x.event(0, 7, 0), NOT);
        due("clock like time and promise", x.event(0, 8, 1), 2);
        due("OUTSIDE ahead of NOT", x.event(0, 5, 100), OUTSIDE);
        due("the other part has not worked", x.event(1, 0, 0), 1);
        due("told(12)", x.told(12), 4);
        due("finish", x.finish(), 4);
        due("part 1 worked on a letter of 18", x.part(1, 2), 18);
        due("event at 18", x.event(1, 18, 0), NOT);
        due("event at 19", x.event(1, 19, 0), 1);
    }

    private static void promise4EventFull() {
        SafeParts x = new SafeParts();
        x.parts(3);
        for (int k = 0; k < 30; k++) {
            due("event " + k, x.event(k % 3, 100 + k, 0), k / 3 + 1);
        }
        due("the 31st", x.event(0, 500, 0), FULL);
        due("OUTSIDE ahead of FULL", x.event(0, 10000, 0), OUTSIDE);
        due("finish", x.finish(), 30);
        due("those worked on count, too", x.event(0, 500, 0), FULL);
        due("NOT ahead of FULL", x.event(0, 100, 0), NOT);
        due("told(12)", x.told(12), 30);
        x.parts(1);
        for (int k = 0; k < 30; k++) {
            due("of one part " + k, x.event(0, 100 - k, 0), k + 1);
        }
        due("of one part the 31st", x.event(0, 1, 0), FULL);
        due("first", x.part(0, 5), 71);
    }

    private static void promise5Form() {
        SafeParts x = new SafeParts();
        due("form(1)", x.form(1), 0);
        for (int v : new int[] {MIN, -1, 3, MAX}) {
            due("form(" + v + ")", x.form(v), OUTSIDE);
        }
        due("form(2)", x.form(2), 1);
        due("told(2)", x.told(2), 2);
        due("form(2) again", x.form(2), 2);
        due("form(0)", x.form(0), 2);
        due("told(2) again", x.told(2), 0);
    }

    /** The lots of SEED 1: 16807, 282475249, 1622650073, 984943658, 1144108930, 470211272, ... */
    private static void promise6Drift() {
        SafeParts x = new SafeParts();
        x.parts(3);
        due("drift(2, 1)", x.drift(2, 1), 2);
        due("told(12)", x.told(12), 2);
        // 16807 by 3: 1; 282475249 by 50: 49; 1622650073 by 20: 13
        due("part 1: how many", x.part(1, 4), 1);
        due("part 1: time", x.part(1, 5), 50);
        due("part 1: value", x.part(1, 6), 13);
        // 984943658 by 3: 2; 1144108930 by 50: 30; 470211272 by 20: 12
        due("part 2: how many", x.part(2, 4), 1);
        due("part 2: time", x.part(2, 5), 31);
        due("part 2: value", x.part(2, 6), 12);
        due("finish", x.finish(), 2);
        // From NOW (50 and 31) on.
        due("drift(2, 1) again", x.drift(2, 1), 2);
        due("part 1: later", x.part(1, 5), 100);
        due("part 2: later", x.part(2, 5), 62);
        for (int n : new int[] {MIN, -1, 0, 21, MAX}) {
            due("drift(" + n + ", 1)", x.drift(n, 1), OUTSIDE);
        }
        for (int seed : new int[] {MIN, -1, 0, 1000000, MAX}) {
            due("drift(1, " + seed + ")", x.drift(1, seed), OUTSIDE);
        }
        due("OUTSIDE ahead of NOT", new SafeParts().drift(0, 1), OUTSIDE);
        due("told(12) behind refusals", x.told(12), 4);
        due("drift(20, 999999)", x.drift(20, 999999), 20);
        due("no more than 30", x.drift(20, 1), 6);
        due("none any more", x.drift(20, 1), 0);
    }

    private static void promise6DriftRefusedByEvent() {
        SafeParts x = new SafeParts();
        x.parts(1);
        x.event(0, 9999, 0);
        x.finish();
        due("drift behind 9999", x.drift(20, 5), 0);
        x.parts(2);
        x.channel(0, 1, 0, 1);
        x.form(0);
        x.event(1, 9000, 0);
        due("run", x.run(1), 0);
        due("clock of the channel", x.channelOf(0, 4), NEVER);
        // 16807 by 2: 1, so the first of SEED 1 is of part 1; 984943658 by 2: 0: the channel promised.
        due("drift(2, 1)", x.drift(2, 1), 1);
        due("of part 1", x.part(1, 4), 2);
        due("of part 0", x.part(0, 4), 0);
    }
}
