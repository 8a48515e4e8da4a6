import java.util.Arrays;

/**
 * Every call with every number on both sides of its bounds, in states that are empty, ordinary and full, against
 * the Model; and what is told behind it.
 */
public final class EdgesAgainstModelTest {
    private static final int[] PART = {Integer.MIN_VALUE, -1, 0, 1, 2, 3, 5, 6, Integer.MAX_VALUE};
    private static final int[] OTHER_PART = {-1, 0, 1, 2, 3, 5, 6};
    private static final int[] PROMISE = {-1, 0, 1, 98, 99, 100};
    private static final int[] DELAY = {-1, 0, 1, 98, 99, 100};
    private static final int[] TIME = {Integer.MIN_VALUE, -1, 0, 1, 3, 4, 5, 6, 7, 8, 9, 10, 11, 9998, 9999, 10000, Integer.MAX_VALUE};
    private static final int[] VALUE = {-1, 0, 1, 98, 99, 100};
    private static final int[] FORM = {Integer.MIN_VALUE, -1, 0, 1, 2, 3, Integer.MAX_VALUE};
    private static final int[] LOTS = {-1, 0, 1, 2, 19, 20, 21};
    private static final int[] SEED = {-1, 0, 1, 2, 999998, 999999, 1000000};
    private static final int[] ROUNDS = {Integer.MIN_VALUE, -1, 0, 1, 2, 39, 40, 41, Integer.MAX_VALUE};
    private static final int[] WHAT = {Integer.MIN_VALUE, -1, 0, 1, 2, 3, 4, 5, 6, 7, 8, 9, 10, 11, 12, 13, Integer.MAX_VALUE};
    private static final int[] CHANNEL = {Integer.MIN_VALUE, -1, 0, 1, 2, 3, 10, 11, 12, Integer.MAX_VALUE};
    private static final int[] ENTRY = {Integer.MIN_VALUE, -1, 0, 1, 2, 29, 30, 198, 199, 200, 201, Integer.MAX_VALUE};
    private static final int[] IMAGE = {Integer.MIN_VALUE, -1, 0, 1, 2, Integer.MAX_VALUE};

    /** What each call takes, in the order of the document's face. */
    private static final int[][][] NUMBERS = {{PART}, {OTHER_PART, OTHER_PART, PROMISE, DELAY}, {PART, TIME, VALUE}, {FORM},
        {LOTS, SEED}, {ROUNDS}, {}, {}, {WHAT}, {PART, WHAT}, {CHANNEL, WHAT}, {PART, PART}, {ENTRY, WHAT}, {PART}, {PART},
        {PART, FORM}, {IMAGE}, {IMAGE}};

    /** Calls by their place in the face, each with its numbers, that lead to a state. */
    private static final int[][][] STATES = {
        {},
        {{0, 1}},
        {{0, 6}},
        {{0, 3}, {1, 0, 1, 2, 3}, {1, 1, 2, 0, 4}, {2, 0, 4, 9}, {2, 1, 6, 2}, {16, 0}},
        {{0, 3}, {1, 0, 1, 2, 3}, {1, 1, 2, 0, 4}, {2, 0, 4, 9}, {2, 0, 8, 9}, {2, 1, 6, 2}, {16, 1}, {5, 1}},
        {{0, 3}, {1, 0, 1, 0, 3}, {1, 1, 0, 0, 4}, {2, 0, 4, 9}, {2, 1, 4, 2}, {16, 0}, {6}, {16, 1}},
        {{0, 2}, {3, 1}, {1, 0, 1, 0, 1}, {1, 1, 0, 0, 1}, {2, 0, 0, 99}, {2, 0, 3000, 99}, {2, 0, 6000, 99}, {7}},
        {{0, 6}, {4, 20, 1}, {4, 20, 2}, {16, 0}, {5, 2}},
        {{0, 6}, {1, 0, 1, 1, 2}, {1, 1, 2, 1, 2}, {1, 2, 3, 1, 2}, {1, 3, 4, 1, 2}, {1, 4, 5, 1, 2}, {1, 5, 0, 1, 2},
            {1, 0, 2, 1, 2}, {1, 1, 3, 1, 2}, {1, 2, 4, 1, 2}, {1, 3, 5, 1, 2}, {1, 4, 0, 1, 2}, {1, 5, 1, 1, 2}, {3, 2},
            {4, 20, 3}, {4, 20, 4}},
    };
    private static final Check CHECK = new Check("EdgesAgainstModelTest");

    public static void main(String[] args) {
        for (int state = 0; state < STATES.length; state++) {
            for (int which = 0; which < Calls.HOW_MANY; which++) {
                everyRow(state, which, new int[Calls.takes(which)], 0);
            }
        }
        CHECK.end();
    }

    /** Fills in the number at a place and those behind it in every way. */
    private static void everyRow(int state, int which, int[] row, int place) {
        if (place == row.length) {
            one(state, which, row);
            return;
        }
        for (int number : NUMBERS[which][place]) {
            row[place] = number;
            everyRow(state, which, row, place + 1);
        }
    }

    private static void one(int state, int which, int[] row) {
        SafeParts x = new SafeParts();
        Model model = new Model();
        for (int[] step : STATES[state]) {
            int[] numbers = Arrays.copyOfRange(step, 1, step.length);
            CHECK.due("state " + state, Calls.call(x, step[0], numbers), model.call(step[0], numbers));
        }
        String text = "state " + state + ", " + Calls.text(which, row);
        CHECK.due(text, Calls.call(x, which, row), model.call(which, row));
        for (int what = 0; what <= 12; what++) {
            CHECK.due(text + ", then told(" + what + ")", x.told(what), model.call(Calls.TOLD, new int[] {what}));
        }
    }
}
