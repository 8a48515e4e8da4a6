/** The calls of the document's face by their place there, each with as many numbers as it takes. */
final class Calls {
    static final int HOW_MANY = 18;
    static final int TOLD = 8;
    private static final String[] NAME = {"parts", "channel", "event", "form", "drift", "run", "letGo", "finish", "told", "part",
        "channelOf", "between", "record", "ring", "waits", "inOrder", "keep", "goBack"};
    private static final int[] TAKES = {1, 4, 3, 1, 2, 1, 0, 0, 1, 2, 2, 2, 2, 1, 1, 2, 1, 1};

    private Calls() {
    }

    static int takes(int which) {
        return TAKES[which];
    }

    static String name(int which) {
        return NAME[which];
    }

    /** The place of a call in the face; HOW_MANY: there is none of that name. */
    static int byName(String name) {
        int which = 0;
        while (which < HOW_MANY && !NAME[which].equals(name)) {
            which++;
        }
        return which;
    }

    static String text(int which, int[] a) {
        StringBuilder text = new StringBuilder(NAME[which]).append('(');
        for (int k = 0; k < a.length; k++) {
            text.append(k == 0 ? "" : ", ").append(a[k]);
        }
        return text.append(')').toString();
    }

    static int call(SafeParts x, int which, int[] a) {
        switch (which) {
            case 0: return x.parts(a[0]);
            case 1: return x.channel(a[0], a[1], a[2], a[3]);
            case 2: return x.event(a[0], a[1], a[2]);
            case 3: return x.form(a[0]);
            case 4: return x.drift(a[0], a[1]);
            case 5: return x.run(a[0]);
            case 6: return x.letGo();
            case 7: return x.finish();
            case 8: return x.told(a[0]);
            case 9: return x.part(a[0], a[1]);
            case 10: return x.channelOf(a[0], a[1]);
            case 11: return x.between(a[0], a[1]);
            case 12: return x.record(a[0], a[1]);
            case 13: return x.ring(a[0]);
            case 14: return x.waits(a[0]);
            case 15: return x.inOrder(a[0], a[1]);
            case 16: return x.keep(a[0]);
            default: return x.goBack(a[0]);
        }
    }
}
