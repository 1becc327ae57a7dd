import java.util.ArrayList;
import java.util.List;
import java.util.function.Function;
import java.util.function.Supplier;

/** What the hand-made tests share: small maps, texts, and calls that are refused, saved or change nothing. */
class Cases {
    static final String ARGUMENT = "throws.IllegalArgumentException";
    static final String STATE = "throws.IllegalStateException";
    static final String INDEX = "throws.IndexOutOfBoundsException";

    static final int NONE = -1;
    static final int LEAST = Integer.MIN_VALUE;
    static final int MOST = Integer.MAX_VALUE;

    static CornerLabels map(int[]... points) {
        CornerLabels labels = new CornerLabels();
        for (int[] p : points) {
            labels.add(p[0], p[1], p[2], p[3], p[4]);
        }
        return labels;
    }

    static int[] p(int x, int y, int width, int height, int weight) {
        return new int[] {x, y, width, height, weight};
    }

    /** Puts a text into the buffer, in the place of what it had. */
    static CornerLabels type(CornerLabels labels, String text) {
        labels.clearBuffer();
        for (int i = 0; i < text.length(); i++) {
            labels.append(text.charAt(i));
        }
        return labels;
    }

    static CornerLabels typed(String text) {
        return type(new CornerLabels(), text);
    }

    static CornerLabels placed(CornerLabels labels, int point, int corner) {
        labels.place(point, corner);
        return labels;
    }

    /** Eight points in the left upper quarter that do not disturb each other. */
    static CornerLabels eight() {
        CornerLabels labels = new CornerLabels();
        for (int i = 0; i < 8; i++) {
            labels.add(5 + 5 * i, 5, 1, 1, 1 + i);
        }
        return labels;
    }

    /** The points 0 and 2 have the corner 0 alone, and clash; all are in the upper left corner of the map. */
    static CornerLabels crowded() {
        return map(p(0, 0, 6, 3, 5), p(30, 20, 2, 2, 7), p(1, 0, 6, 3, 5));
    }

    /** Point 1 can stand at the corner 1 alone, where the label of point 0 stands at first. */
    static CornerLabels tight() {
        return placed(map(p(10, 20, 4, 2, 1), p(16, 20, 8, 2, 1), p(17, 21, 1, 1, 1),
                p(17, 19, 1, 1, 1), p(15, 19, 1, 1, 1)), 0, 0);
    }

    /** Eight points of the weights 1 to 8, with labels of 20 x 9 squares, that close all corners of each other. */
    static CornerLabels closed() {
        CornerLabels labels = typed("19,8:20x9;40,8:20x9*2;19,31:20x9*3;40,31:20x9*4");
        labels.read();
        type(labels, "20,17:20x9*5;39,22:20x9*6;19,18:20x9*7;40,21:20x9*8").read();
        return labels;
    }

    /** Whether a label of that size at a corner of the point x, y has the square. */
    static boolean has(int x, int y, int width, int height, int corner, int column, int row) {
        int fromX = corner == 0 || corner == 3 ? x + 1 : x - width;
        int toX = corner == 0 || corner == 3 ? x + width : x - 1;
        int fromY = corner == 0 || corner == 1 ? y + 1 : y - height;
        int toY = corner == 0 || corner == 1 ? y + height : y - 1;
        return column >= fromX && column <= toX && row >= fromY && row <= toY;
    }

    /** The hash as the document tells it, from what the other calls answer. */
    static long digestOf(CornerLabels labels, String buffer) {
        List<Long> values = new ArrayList<>();
        for (int what = 0; what <= 8; what++) {
            values.add((long) labels.count(what));
        }
        int points = labels.count(0);
        for (int p = 0; p < points; p++) {
            for (int what = 0; what <= 8; what++) {
                values.add((long) labels.point(p, what));
            }
            values.add((long) labels.best(p));
            values.add((long) labels.bestWeight(p));
            values.add((long) labels.ifPushed(p));
        }
        for (int p = 0; p < points; p++) {
            for (int q = p + 1; q < points; q++) {
                values.add((long) labels.clash(p, 0, q, 0));
                values.add((long) labels.clash(p, 0, q, 1));
            }
        }
        values.add((long) labels.bestWeight(-1));
        values.add((long) labels.fullPlans());
        values.add((long) labels.dearest());
        values.add(Double.doubleToLongBits(labels.standingShare()));
        values.add((long) buffer.length());
        for (int i = 0; i < buffer.length(); i++) {
            values.add((long) buffer.charAt(i));
        }
        long hash = 2833L;
        for (long value : values) {
            hash = 31L * hash + value;
        }
        return hash;
    }

    /** All that an object tells: its digest, and that after each undo. It uses the object up. */
    static String story(CornerLabels labels) {
        StringBuilder story = new StringBuilder().append(labels.digest());
        for (int i = 0; i < 10 && labels.count(8) > 0; i++) {
            labels.undo();
            story.append(' ').append(labels.digest());
        }
        return story.toString();
    }

    /** The call throws, and leaves the object like one that was never asked, also its saved states. */
    static void refused(Check check, String call, String thrown, Supplier<CornerLabels> make,
            Function<CornerLabels, Object> code) {
        CornerLabels asked = make.get();
        check.due(call, thrown, () -> code.apply(asked));
        check.due(call + " changes nothing", story(make.get()), () -> story(asked));
    }

    /** The call saves one state, that from before it. */
    static void saved(Check check, String call, Object answer, Supplier<CornerLabels> make,
            Function<CornerLabels, Object> code) {
        CornerLabels asked = make.get();
        int before = asked.count(8);
        check.due(call, answer, () -> code.apply(asked));
        check.due(call + " saves one state", before + 1, () -> asked.count(8));
        check.due(call + " undone, states left", before, asked::undo);
        check.due(call + " undone", story(make.get()), () -> story(asked));
    }

    /** The call answers, and leaves the object like one that was never asked, also its saved states. */
    static void idle(Check check, String call, Object answer, Supplier<CornerLabels> make,
            Function<CornerLabels, Object> code) {
        CornerLabels asked = make.get();
        check.due(call, answer, () -> code.apply(asked));
        check.due(call + " changes nothing", story(make.get()), () -> story(asked));
    }
}
