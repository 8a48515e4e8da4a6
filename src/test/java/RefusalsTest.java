import java.util.ArrayList;
import java.util.List;
import java.util.function.Supplier;
import java.util.function.ToIntFunction;

/** Of several refusals the first in the document's order, and that what is refused changes nothing. */
public final class RefusalsTest {
    private static final int UNKNOWN = SafeParts.UNKNOWN;
    private static final int OUTSIDE = SafeParts.OUTSIDE;
    private static final int NOT = SafeParts.NOT;
    private static final int FULL = SafeParts.FULL;
    private static final int VIEWS = 6;
    private static final Check CHECK = new Check("RefusalsTest");

    private record Refused(String text, int want, ToIntFunction<SafeParts> call) { }

    public static void main(String[] args) {
        order();
        changesNothing();
        CHECK.end();
    }

    private static void due(String call, int got, int want) {
        CHECK.due(call, got, want);
    }

    // ---- the order

    private static void order() {
        CHECK.says("REFUSALS, of several the first in this order: UNKNOWN (a PART, CHANNEL, IMAGE that there is not; "
            + "one twice, where two are asked), OUTSIDE (another number out of its bounds), NOT (not now, as told), FULL.");
        orderOfChannelUnknown();
        orderOfChannelOutside();
        orderOfChannelNot();
        orderOfEventUnknown();
        orderOfEventOutside();
        orderOfEventNot();
        orderOfDrift();
        orderOfRun();
        orderOfPart();
        orderOfChannelOf();
        orderOfInOrder();
        orderOfGoBack();
    }

    /** 12 CHANNELS, and a ROUND was run. */
    private static SafeParts fullAndRun() {
        SafeParts x = Make.twelveChannels();
        x.event(0, 5, 0);
        x.run(1);
        return x;
    }

    private static void orderOfChannelUnknown() {
        SafeParts x = fullAndRun();
        due("UNKNOWN ahead of OUTSIDE", Make.parts(2).channel(0, 2, 0, 0), UNKNOWN);
        due("UNKNOWN (the first) ahead of OUTSIDE", Make.parts(2).channel(-1, 0, 100, 1), UNKNOWN);
        due("UNKNOWN (one twice) ahead of OUTSIDE", Make.parts(2).channel(1, 1, 2, 1), UNKNOWN);
        due("UNKNOWN ahead of NOT and FULL", x.channel(0, 6, 1, 1), UNKNOWN);
        due("UNKNOWN (one twice) ahead of NOT and FULL", x.channel(4, 4, 1, 1), UNKNOWN);
        due("UNKNOWN ahead of all", x.channel(6, 0, 5, 4), UNKNOWN);
        due("UNKNOWN ahead of FULL", Make.twelveChannels().channel(0, 6, 1, 1), UNKNOWN);
    }

    private static void orderOfChannelOutside() {
        SafeParts x = Make.parts(2);
        x.channel(0, 1, 1, 1);
        due("OUTSIDE ahead of NOT: one that way", x.channel(0, 1, 1, 100), OUTSIDE);
        due("OUTSIDE (DELAY less) ahead of NOT: one that way", x.channel(0, 1, 2, 1), OUTSIDE);
        x.event(1, 5, 0);
        x.keep(0);
        x.letGo();
        due("OUTSIDE ahead of NOT: LET GO", x.channel(1, 0, -1, 1), OUTSIDE);
        x.goBack(0);
        x.run(1);
        due("OUTSIDE ahead of NOT: a ROUND was run", x.channel(1, 0, 2, 1), OUTSIDE);
        due("OUTSIDE ahead of FULL", Make.twelveChannels().channel(0, 3, 2, 1), OUTSIDE);
        due("OUTSIDE ahead of NOT and FULL", fullAndRun().channel(0, 1, 0, 0), OUTSIDE);
    }

    private static void orderOfChannelNot() {
        SafeParts x = Make.twelveChannels();
        due("NOT (one that way) ahead of FULL", x.channel(5, 1, 1, 1), NOT);
        due("FULL", x.channel(5, 2, 1, 1), FULL);
        x.event(3, 5, 0);
        x.keep(0);
        x.letGo();
        due("NOT (LET GO) ahead of FULL", x.channel(5, 2, 1, 1), NOT);
        x.goBack(0);
        due("FULL again", x.channel(5, 2, 1, 1), FULL);
        x.run(1);
        due("NOT (a ROUND was run) ahead of FULL", x.channel(5, 2, 1, 1), NOT);
    }

    /** 30 by hand, of which those of PART 0 were worked on, up to 127. */
    private static SafeParts fullAndWorked() {
        SafeParts x = Make.thirtyByHand(3);
        x.finish();
        due("NOW of PART 0", x.part(0, 2), 127);
        return x;
    }

    private static void orderOfEventUnknown() {
        SafeParts x = fullAndWorked();
        due("UNKNOWN ahead of OUTSIDE: time", Make.parts(2).event(2, 10000, 0), UNKNOWN);
        due("UNKNOWN ahead of OUTSIDE: value", Make.parts(2).event(-1, 0, 100), UNKNOWN);
        due("UNKNOWN ahead of FULL", x.event(3, 500, 0), UNKNOWN);
        due("UNKNOWN ahead of all", x.event(3, -1, -1), UNKNOWN);
    }

    private static void orderOfEventOutside() {
        SafeParts x = fullAndWorked();
        due("OUTSIDE (time) ahead of NOT and FULL", x.event(0, -1, 0), OUTSIDE);
        due("OUTSIDE (value) ahead of NOT and FULL", x.event(0, 127, 100), OUTSIDE);
        due("OUTSIDE (time) ahead of FULL", x.event(0, 10000, 0), OUTSIDE);
        due("OUTSIDE (value) ahead of FULL", x.event(0, 500, -1), OUTSIDE);
        SafeParts y = Make.parts(2);
        y.channel(0, 1, 0, 1);
        y.event(1, 5, 0);
        y.run(1);
        due("NOT by CLOCK", y.event(0, 5, 0), NOT);
        due("OUTSIDE ahead of NOT by CLOCK: value", y.event(0, 5, 100), OUTSIDE);
        due("OUTSIDE ahead of NOT by CLOCK: time", y.event(0, -1, 0), OUTSIDE);
    }

    private static void orderOfEventNot() {
        SafeParts x = fullAndWorked();
        due("NOT (worked on) ahead of FULL", x.event(0, 127, 0), NOT);
        due("FULL", x.event(0, 128, 0), FULL);
        SafeParts y = Make.parts(2);
        y.channel(0, 1, 0, 1);
        for (int k = 0; k < 30; k++) {
            y.event(1, 5, 0);
        }
        due("FULL", y.event(0, 9, 0), FULL);
        y.run(1);
        due("NOT (CLOCK) ahead of FULL", y.event(0, 9, 0), NOT);
        due("FULL of the other", y.event(1, 9, 0), FULL);
    }

    private static void orderOfDrift() {
        SafeParts x = new SafeParts();
        due("OUTSIDE (n below) ahead of NOT", x.drift(0, 1), OUTSIDE);
        due("OUTSIDE (n above) ahead of NOT", x.drift(21, 1), OUTSIDE);
        due("OUTSIDE (SEED below) ahead of NOT", x.drift(1, 0), OUTSIDE);
        due("OUTSIDE (SEED above) ahead of NOT", x.drift(1, 1000000), OUTSIDE);
        due("NOT", x.drift(1, 1), NOT);
    }

    private static void orderOfRun() {
        for (int n : new int[] {0, 41}) {
            due("OUTSIDE ahead of NOT: no PARTS", new SafeParts().run(n), OUTSIDE);
            due("OUTSIDE ahead of NOT: a RING WITHOUT PROMISE", Make.ring(2, 0, 1).run(n), OUTSIDE);
        }
    }

    private static void orderOfPart() {
        for (int what : new int[] {-1, 11}) {
            due("UNKNOWN ahead of OUTSIDE", Make.parts(2).part(2, what), UNKNOWN);
            due("UNKNOWN ahead of OUTSIDE", Make.parts(2).part(-1, what), UNKNOWN);
            due("OUTSIDE", Make.parts(2).part(1, what), OUTSIDE);
        }
    }

    private static void orderOfChannelOf() {
        for (int what : new int[] {-1, 7}) {
            due("UNKNOWN ahead of OUTSIDE", Make.ring(2, 1, 1).channelOf(2, what), UNKNOWN);
            due("UNKNOWN ahead of OUTSIDE", Make.ring(2, 1, 1).channelOf(-1, what), UNKNOWN);
            due("OUTSIDE", Make.ring(2, 1, 1).channelOf(1, what), OUTSIDE);
        }
    }

    private static void orderOfInOrder() {
        for (int what : new int[] {-1, 2}) {
            due("UNKNOWN ahead of OUTSIDE", Make.parts(2).inOrder(2, what), UNKNOWN);
            due("UNKNOWN ahead of OUTSIDE", Make.parts(2).inOrder(-1, what), UNKNOWN);
            due("OUTSIDE", Make.parts(2).inOrder(1, what), OUTSIDE);
        }
    }

    private static void orderOfGoBack() {
        due("UNKNOWN ahead of NOT", Make.parts(1).goBack(2), UNKNOWN);
        due("UNKNOWN ahead of NOT", Make.parts(1).goBack(-1), UNKNOWN);
        due("NOT", Make.parts(1).goBack(1), NOT);
    }

    // ---- what is refused changes nothing

    private static void changesNothing() {
        CHECK.says("What is refused changes nothing.");
        changesNothingWithoutParts();
        changesNothingAtFirst();
        changesNothingWhatIsFull();
        changesNothingBehindRounds();
        changesNothingWithoutPromise();
    }

    private static void changesNothingWithoutParts() {
        List<Refused> all = new ArrayList<>(ofAnyState());
        all.add(new Refused("channel", UNKNOWN, x -> x.channel(0, 1, 1, 1)));
        all.add(new Refused("event", UNKNOWN, x -> x.event(0, 0, 0)));
        all.add(new Refused("drift", NOT, x -> x.drift(5, 5)));
        all.add(new Refused("run", NOT, x -> x.run(5)));
        all.add(new Refused("letGo", NOT, x -> x.letGo()));
        all.add(new Refused("finish", NOT, x -> x.finish()));
        all.add(new Refused("goBack(0)", NOT, x -> x.goBack(0)));
        all.add(new Refused("goBack(1)", NOT, x -> x.goBack(1)));
        each("without PARTS", SafeParts::new, all);
    }

    /** PART 0 may work, no ROUND was run, and one IMAGE was kept. */
    private static SafeParts atFirst() {
        SafeParts x = Make.parts(3);
        x.channel(0, 1, 2, 3);
        x.channel(1, 2, 1, 4);
        x.event(1, 4, 7);
        x.keep(0);
        x.event(0, 6, 9);
        return x;
    }

    private static void changesNothingAtFirst() {
        List<Refused> all = new ArrayList<>(ofAnyState());
        all.addAll(ofThreeParts());
        all.add(new Refused("channel: one that way", NOT, x -> x.channel(0, 1, 9, 9)));
        all.add(new Refused("letGo: PART 0 may", NOT, x -> x.letGo()));
        all.add(new Refused("goBack(1)", NOT, x -> x.goBack(1)));
        each("at first", RefusalsTest::atFirst, all);
    }

    private static SafeParts full() {
        SafeParts x = Make.twelveChannels();
        x.form(2);
        for (int k = 0; k < 30; k++) {
            x.event(k % 6, 5 + k % 4, k % 3);
            if (k == 9) {
                x.keep(1);
            }
        }
        return x;
    }

    private static void changesNothingWhatIsFull() {
        List<Refused> all = new ArrayList<>(ofAnyState());
        all.add(new Refused("channel: full", FULL, x -> x.channel(0, 3, 9, 9)));
        all.add(new Refused("channel: one that way", NOT, x -> x.channel(0, 1, 9, 9)));
        all.add(new Refused("event: full", FULL, x -> x.event(0, 1, 1)));
        all.add(new Refused("goBack(0)", NOT, x -> x.goBack(0)));
        each("full", RefusalsTest::full, all);
    }

    /** ROUNDS were run in each FORM, it was LET GO, and both IMAGES were kept; none may work. */
    private static SafeParts behindRounds() {
        SafeParts x = Make.ring(3, 2, 3);
        x.event(0, 4, 8);
        x.event(1, 4, 3);
        x.keep(1);
        x.run(4);
        x.form(2);
        x.run(2);
        x.keep(0);
        x.form(1);
        x.run(40);
        x.letGo();
        x.run(40);
        return x;
    }

    private static void changesNothingBehindRounds() {
        SafeParts is = behindRounds();
        CHECK.holds("events wait, and none may", is.told(3) > 0 && is.told(8) == 0);
        CHECK.holds("part 0 worked, and it was LET GO", is.part(0, 0) > 0 && is.told(7) > 0);
        List<Refused> all = new ArrayList<>(ofAnyState());
        all.addAll(ofThreeParts());
        all.add(new Refused("channel: a ROUND was run", NOT, x -> x.channel(1, 0, 9, 9)));
        all.add(new Refused("event: worked on", NOT, x -> x.event(0, x.part(0, 2), 1)));
        all.add(new Refused("event: CLOCK", NOT, x -> x.event(0, x.channelOf(0, 4) - 3, 1)));
        each("behind rounds", RefusalsTest::behindRounds, all);
        each("no events", RefusalsTest::ended, List.of(new Refused("letGo: no EVENTS", NOT, x -> x.letGo())));
    }

    private static SafeParts ended() {
        SafeParts x = behindRounds();
        x.finish();
        return x;
    }

    private static void changesNothingWithoutPromise() {
        List<Refused> all = List.of(
            new Refused("run(1)", NOT, x -> x.run(1)),
            new Refused("run(40)", NOT, x -> x.run(40)),
            new Refused("finish", NOT, x -> x.finish()));
        for (int form = 0; form < 3; form += 2) {
            int v = form;
            each("a ring without promise, form " + v, () -> withoutPromise(v), all);
        }
    }

    private static SafeParts withoutPromise(int form) {
        SafeParts x = Make.ring(3, 0, 3);
        x.keep(0);
        x.event(0, 4, 8);
        x.event(1, 4, 3);
        x.keep(1);
        x.letGo();
        x.form(form);
        return x;
    }

    /** What is refused in every state. */
    private static List<Refused> ofAnyState() {
        return List.of(
            new Refused("parts(0)", OUTSIDE, x -> x.parts(0)),
            new Refused("parts(7)", OUTSIDE, x -> x.parts(7)),
            new Refused("channel to itself", UNKNOWN, x -> x.channel(1, 1, 1, 1)),
            new Refused("channel from 6", UNKNOWN, x -> x.channel(6, 0, 1, 1)),
            new Refused("event of 6", UNKNOWN, x -> x.event(6, 1, 1)),
            new Refused("form(-1)", OUTSIDE, x -> x.form(-1)),
            new Refused("form(3)", OUTSIDE, x -> x.form(3)),
            new Refused("drift(0, 1)", OUTSIDE, x -> x.drift(0, 1)),
            new Refused("drift(21, 1)", OUTSIDE, x -> x.drift(21, 1)),
            new Refused("drift(1, 0)", OUTSIDE, x -> x.drift(1, 0)),
            new Refused("drift(1, 1000000)", OUTSIDE, x -> x.drift(1, 1000000)),
            new Refused("run(0)", OUTSIDE, x -> x.run(0)),
            new Refused("run(41)", OUTSIDE, x -> x.run(41)),
            new Refused("told(13)", OUTSIDE, x -> x.told(13)),
            new Refused("part(6, 0)", UNKNOWN, x -> x.part(6, 0)),
            new Refused("channelOf(12, 0)", UNKNOWN, x -> x.channelOf(12, 0)),
            new Refused("between(0, 6)", UNKNOWN, x -> x.between(0, 6)),
            new Refused("record(-1, 0)", OUTSIDE, x -> x.record(-1, 0)),
            new Refused("record(0, 4)", OUTSIDE, x -> x.record(0, 4)),
            new Refused("ring(6)", UNKNOWN, x -> x.ring(6)),
            new Refused("waits(6)", UNKNOWN, x -> x.waits(6)),
            new Refused("inOrder(6, 0)", UNKNOWN, x -> x.inOrder(6, 0)),
            new Refused("keep(-1)", UNKNOWN, x -> x.keep(-1)),
            new Refused("keep(2)", UNKNOWN, x -> x.keep(2)),
            new Refused("goBack(-1)", UNKNOWN, x -> x.goBack(-1)),
            new Refused("goBack(2)", UNKNOWN, x -> x.goBack(2)));
    }

    /** What is refused besides, where there are three PARTS. */
    private static List<Refused> ofThreeParts() {
        return List.of(
            new Refused("channel to 3", UNKNOWN, x -> x.channel(0, 3, 1, 1)),
            new Refused("channel, PROMISE -1", OUTSIDE, x -> x.channel(0, 2, -1, 1)),
            new Refused("channel, DELAY 0", OUTSIDE, x -> x.channel(0, 2, 0, 0)),
            new Refused("channel, DELAY 100", OUTSIDE, x -> x.channel(0, 2, 0, 100)),
            new Refused("channel, DELAY less", OUTSIDE, x -> x.channel(0, 2, 4, 3)),
            new Refused("event of 3", UNKNOWN, x -> x.event(3, 1, 1)),
            new Refused("event, time -1", OUTSIDE, x -> x.event(2, -1, 1)),
            new Refused("event, time 10000", OUTSIDE, x -> x.event(2, 10000, 1)),
            new Refused("event, value -1", OUTSIDE, x -> x.event(2, 9000, -1)),
            new Refused("event, value 100", OUTSIDE, x -> x.event(2, 9000, 100)),
            new Refused("part(0, 11)", OUTSIDE, x -> x.part(0, 11)),
            new Refused("channelOf(0, 7)", OUTSIDE, x -> x.channelOf(0, 7)),
            new Refused("between(1, 1)", UNKNOWN, x -> x.between(1, 1)),
            new Refused("inOrder(0, 2)", OUTSIDE, x -> x.inOrder(0, 2)));
    }

    private static void each(String when, Supplier<SafeParts> made, List<Refused> all) {
        for (Refused refused : all) {
            String what = when + ", " + refused.text;
            for (int view = 0; view < VIEWS; view++) {
                SafeParts x = made.get();
                due(what, refused.call.applyAsInt(x), refused.want);
                same(what + ", view " + view, look(x, view), look(made.get(), view));
            }
        }
    }

    private static void same(String what, List<Integer> got, List<Integer> want) {
        due(what + ": how many numbers", got.size(), want.size());
        for (int k = 0; k < Math.min(got.size(), want.size()); k++) {
            due(what + ": number " + k, got.get(k), want.get(k));
        }
    }

    /** Another object for each view, so that none has more than 512 calls. */
    private static List<Integer> look(SafeParts x, int view) {
        List<Integer> all = new ArrayList<>();
        if (view == 0) {
            addBetween(x, all);
        } else if (view == 1) {
            addRecord(x, all);
        } else if (view < 4) {
            all.add(x.goBack(view - 2));
        } else if (view == 4) {
            all.add(x.run(2));
            all.add(x.letGo());
            all.add(x.finish());
        } else {
            all.add(x.channel(2, 0, 1, 5));
            all.add(x.event(2, 9000, 1));
            all.add(x.drift(20, 77));
        }
        addNumbers(x, all);
        return all;
    }

    private static void addNumbers(SafeParts x, List<Integer> all) {
        for (int what = 0; what <= 12; what++) {
            all.add(x.told(what));
        }
        for (int p = 0; p < 6; p++) {
            for (int what = 0; what <= 10; what++) {
                all.add(x.part(p, what));
            }
            all.add(x.ring(p));
            all.add(x.waits(p));
            all.add(x.inOrder(p, 1));
        }
        for (int c = 0; c < 12; c++) {
            for (int what = 0; what <= 6; what++) {
                all.add(x.channelOf(c, what));
            }
        }
    }

    private static void addBetween(SafeParts x, List<Integer> all) {
        for (int from = 0; from < 6; from++) {
            for (int to = 0; to < 6; to++) {
                all.add(x.between(from, to));
            }
        }
    }

    private static void addRecord(SafeParts x, List<Integer> all) {
        for (int k = 0; k < 50; k++) {
            for (int what = 0; what < 4; what++) {
                all.add(x.record(k, what));
            }
        }
    }
}
