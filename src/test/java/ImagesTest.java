/** Promises 18 and 19: keep, goBack. */
public final class ImagesTest {
    private static final int UNKNOWN = SafeParts.UNKNOWN;
    private static final int NOT = SafeParts.NOT;
    private static final Check CHECK = new Check("ImagesTest");

    public static void main(String[] args) {
        promise18Keep();
        promise19GoBack();
        promise19AllButTheRecord();
        promise19OrderOfWhatWaits();
        promise19WithoutParts();
        CHECK.end();
    }

    private static void due(String call, int got, int want) {
        CHECK.due(call, got, want);
    }

    private static void promise18Keep() {
        SafeParts x = new SafeParts();
        x.parts(2);
        for (int i : new int[] {Integer.MIN_VALUE, -1, 2, Integer.MAX_VALUE}) {
            due("keep(" + i + ")", x.keep(i), UNKNOWN);
            due("goBack(" + i + ")", x.goBack(i), UNKNOWN);
        }
        due("keep(0)", x.keep(0), 1);
        x.event(0, 1, 0);
        due("keep(1)", x.keep(1), 1);
        x.event(0, 2, 0);
        due("goBack(0)", x.goBack(0), 1);
        due("no event", x.told(3), 0);
        due("goBack(1)", x.goBack(1), 1);
        due("one event", x.told(3), 1);
        due("keep(0) over it", x.keep(0), 1);
        x.event(0, 3, 0);
        due("goBack(0)", x.goBack(0), 1);
        due("one event now", x.told(3), 1);
        due("goBack(0) once more", x.goBack(0), 1);
        due("as before", x.told(3), 1);
    }

    private static void promise19GoBack() {
        SafeParts x = new SafeParts();
        x.parts(1);
        due("not kept", x.goBack(0), NOT);
        due("not kept", x.goBack(1), NOT);
        x.keep(0);
        due("the other was not", x.goBack(1), NOT);
        due("this one was", x.goBack(0), 1);
        x.parts(0);
        due("a refused call changes nothing", x.goBack(0), 1);
        x.parts(1);
        due("gone with the parts", x.goBack(0), NOT);
    }

    private static int[] allBut(SafeParts x) {
        int[] all = new int[300];
        int n = 0;
        for (int what = 0; what <= 12; what++) {
            if (what != 10) {
                all[n++] = x.told(what);
            }
        }
        for (int p = 0; p < 6; p++) {
            for (int what = 0; what <= 10; what++) {
                all[n++] = x.part(p, what);
            }
            all[n++] = x.inOrder(p, 0);
            all[n++] = x.inOrder(p, 1);
        }
        for (int c = 0; c < 12; c++) {
            for (int what = 0; what <= 6; what++) {
                all[n++] = x.channelOf(c, what);
            }
        }
        return all;
    }

    private static void promise19AllButTheRecord() {
        SafeParts x = new SafeParts();
        x.parts(3);
        x.channel(0, 1, 1, 4);
        x.channel(1, 2, 2, 3);
        x.channel(2, 0, 3, 3);
        x.event(0, 1, 8);
        x.event(1, 2, 9);
        x.form(1);
        x.run(2);
        x.letGo();
        x.form(2);
        x.run(3);
        int[] kept = allBut(x);
        int entries = x.told(10);
        int roundsAndLetGo = x.told(6) + x.told(7);
        due("it was LET GO", x.told(7), 1);
        due("keep(1)", x.keep(1), 1);
        x.form(0);
        x.event(2, 900, 5);
        int more = x.finish();
        x.form(1);
        CHECK.holds("more was worked on", more > 0);
        due("goBack(1)", x.goBack(1), 1);
        int[] back = allBut(x);
        for (int k = 0; k < kept.length; k++) {
            due("kept " + k, back[k], kept[k]);
        }
        due("the record stays", x.told(10), entries + more);
        int again = x.run(1);
        CHECK.holds("the same is worked on again", again > 0);
        due("the record goes on", x.told(10), entries + more + again);
        due("with the round that is so now", x.record(entries + more, 3), roundsAndLetGo);
    }

    private static void promise19OrderOfWhatWaits() {
        SafeParts x = new SafeParts();
        x.parts(1);
        x.event(0, 5, 1);
        x.event(0, 5, 2);
        x.event(0, 5, 3);
        x.keep(0);
        x.run(2);
        x.goBack(0);
        x.event(0, 5, 4);
        x.run(4);
        int[] value = {1, 2, 1, 2, 3, 4};
        for (int k = 0; k < value.length; k++) {
            due("value of entry " + k, x.record(k, 2), value[k]);
        }
    }

    private static void promise19WithoutParts() {
        SafeParts x = new SafeParts();
        due("keep without parts", x.keep(0), 1);
        x.form(2);
        due("goBack without parts", x.goBack(0), 1);
        due("form", x.told(2), 0);
        due("parts", x.told(0), 0);
    }
}
