/** A test for each sentence with a boundary in "The public face", and in "Terms" down to "Leaders". */
public final class TermBoundaries extends Cases {
    private static final Check CHECK = new Check("TermBoundaries");

    public static void main(String[] args) {
        constant();
        usedForManyCalls();
        squaresOfTheMap();
        atMostEightPoints();
        numberedAsTheyCame();
        numbersLessByOne();
        noTwoOnOne();
        widths();
        heights();
        weights();
        droppedAtFirst();
        cornerSquares();
        openOnTheMap();
        openWithoutPoints();
        commonSquares();
        openWhereTheyStand();
        clashIsRefused();
        pointDropsLabels();
        plansOfOpenCorners();
        plansWithoutClash();
        lowerCornerAhead();
        cornerAheadOfDropped();
        firstUnlikePoint();
        mostWeight();
        firstOfSeveral();
        justTheseStand();
        fewestMoved();
        firstOfTheFewest();
        leaderSquares();
        leaderCrossesLabels();
        leaderCrossesPoints();
        CHECK.end();
    }

    private static void due(String call, Object want, Check.Call code) {
        CHECK.due(call, want, code);
    }

    // ---- The public face

    private static void constant() {
        CHECK.says("The public face", "NONE = -1: There is nothing to return.");
        due("NONE", -1, () -> CornerLabels.NONE);
        due("at, on an empty map", CornerLabels.NONE, () -> new CornerLabels().at(0, 0));
        due("dearest, on an empty map", CornerLabels.NONE, () -> new CornerLabels().dearest());
        due("bestWeight(NONE)", 0, () -> new CornerLabels().bestWeight(CornerLabels.NONE));
    }

    private static void usedForManyCalls() {
        CHECK.says("What it is", "An object is used for at most 512 calls after it has been made");
        CornerLabels many = map(p(10, 10, 3, 3, 1), p(20, 20, 3, 3, 1));
        CornerLabels few = map(p(10, 10, 3, 3, 1), p(20, 20, 3, 3, 1));
        for (int call = 3; call <= 511; call++) {
            many.weigh(call % 2, 1 + call % 99);
        }
        for (int call = 506; call <= 511; call++) {
            few.weigh(call % 2, 1 + call % 99);
        }
        long fewest = few.digest();
        due("the 512th call, a digest", fewest, many::digest);
        CornerLabels asked = crowded();
        long first = crowded().digest();
        for (int call = 4; call <= 511; call++) {
            asked.digest();
        }
        due("the 512th call, always a digest", first, asked::digest);
        CornerLabels typing = new CornerLabels();
        for (int call = 1; call <= 510; call++) {
            if (call % 61 == 0) {
                typing.clearBuffer();
            } else {
                typing.append('1' + call % 9);
            }
        }
        due("the 511th call, an append", 23, () -> typing.append('1'));
        due("the 512th call, clearBuffer", 23, typing::clearBuffer);
        CornerLabels moved = map(p(10, 10, 3, 3, 1));
        for (int call = 2; call <= 510; call++) {
            moved.mirror();
        }
        due("the 511th call, a look", 49, () -> moved.point(0, 0));
        due("the 512th call, an undo", 5, moved::undo);
    }

    // ---- Map, points, labels

    private static void squaresOfTheMap() {
        CHECK.says("Terms", "The map has 60 columns and 40 rows of squares;"
                + " a square is told by x, 0 to 59, and y, 0 to 39.");
        CornerLabels corners = new CornerLabels();
        int[][] squares = {{0, 0}, {59, 0}, {0, 39}, {59, 39}};
        for (int i = 0; i < 4; i++) {
            int k = i;
            int x = squares[i][0];
            int y = squares[i][1];
            due("at " + x + ", " + y, NONE, () -> corners.at(x, y));
            due("add on " + x + ", " + y, i, () -> corners.add(x, y, 1, 1, 1));
            due("at " + x + ", " + y, i, () -> corners.at(x, y));
            due("x of " + i, x, () -> corners.point(k, 0));
            due("y of " + i, y, () -> corners.point(k, 1));
            // in its corner of the map a label has one corner, the one that points to the middle
            int open = new int[] {1, 2, 8, 4}[i];
            due("open corners of " + i, open, () -> corners.point(k, 6));
        }
        int[][] off = {{-1, 0}, {60, 0}, {0, -1}, {0, 40}, {60, 40}, {-1, -1}, {MOST, 0}, {LEAST, 0},
            {0, MOST}, {0, LEAST}};
        for (int[] s : off) {
            due("add off the map, on " + s[0] + ", " + s[1], ARGUMENT, () -> corners.add(s[0], s[1], 1, 1, 1));
            due("at " + s[0] + ", " + s[1], ARGUMENT, () -> corners.at(s[0], s[1]));
        }
    }

    private static void atMostEightPoints() {
        CHECK.says("Terms", "There are at most 8 points");
        CornerLabels labels = new CornerLabels();
        for (int i = 0; i < 8; i++) {
            int k = i;
            due("add the point " + i, i, () -> labels.add(k, 0, 1, 1, 1));
        }
        refused(CHECK, "add a ninth", STATE, Cases::eight, x -> x.add(59, 39, 1, 1, 1));
        due("read a ninth", 0, () -> type(labels, "59,39:1x1").read());
        due("points", 8, () -> labels.count(0));
        due("take one of them", 0, () -> labels.remove(4));
        due("add the eighth again", 7, () -> labels.add(59, 39, 1, 1, 1));
        due("add a ninth again", STATE, () -> labels.add(58, 39, 1, 1, 1));
        due("undo the eighth", 5, labels::undo);
        due("read the eighth and a ninth", 1, () -> type(labels, "59,39:1x1;58,39:1x1").read());
        due("points", 8, () -> labels.count(0));
    }

    private static void numberedAsTheyCame() {
        CHECK.says("Terms", "numbered from 0 in the order in which they came");
        CornerLabels labels = new CornerLabels();
        int[] columns = {50, 3, 40, 20, 59, 0, 10, 30};
        for (int i = 0; i < 8; i++) {
            int k = i;
            due("the number of the point that came as number " + i, i, () -> labels.add(columns[k], 39 - k, 1, 1, 1));
        }
        for (int i = 0; i < 8; i++) {
            int k = i;
            due("x of " + i, columns[i], () -> labels.point(k, 0));
            due("at the square of " + i, i, () -> labels.at(columns[k], 39 - k));
        }
        due("number 8", INDEX, () -> labels.point(8, 0));
        due("number -1", INDEX, () -> labels.point(-1, 0));
    }

    private static void numbersLessByOne() {
        CHECK.says("Terms", "if one is removed, those behind it have numbers that are less by 1");
        for (int removed = 0; removed < 8; removed++) {
            CornerLabels labels = new CornerLabels();
            for (int i = 0; i < 8; i++) {
                labels.add(4 + 7 * i, 12 + 2 * i, 1 + i % 3, 1 + i % 2, 10 + i);
                labels.place(i, i % 4);
            }
            labels.remove(removed);
            String call = "without the former " + removed + ", property ";
            for (int i = 0; i < 7; i++) {
                int k = i;
                int was = i < removed ? i : i + 1;
                int[] want = {4 + 7 * was, 12 + 2 * was, 1 + was % 3, 1 + was % 2, 10 + was, was % 4};
                for (int what = 0; what < 6; what++) {
                    int w = what;
                    due(call + what + " of " + i, want[what], () -> labels.point(k, w));
                }
                due(call + "at the square of " + i, i, () -> labels.at(want[0], want[1]));
            }
            due(call + "0 of 7", INDEX, () -> labels.point(7, 0));
            due("the next one that comes", 7, () -> labels.add(0, 0, 1, 1, 1));
        }
    }

    private static void noTwoOnOne() {
        CHECK.says("Terms", "A point stands on a square, no two on one");
        refused(CHECK, "on the same square", STATE, () -> map(p(12, 10, 3, 3, 1), p(30, 20, 1, 1, 1)),
                x -> x.add(12, 10, 1, 1, 9));
        refused(CHECK, "on the square of the latter", STATE, () -> map(p(12, 10, 3, 3, 1), p(30, 20, 1, 1, 1)),
                x -> x.add(30, 20, 1, 1, 9));
        CornerLabels labels = map(p(12, 10, 3, 3, 1));
        due("beside it", 1, () -> labels.add(13, 10, 1, 1, 1));
        due("below it", 2, () -> labels.add(12, 11, 1, 1, 1));
        due("with x and y exchanged", 3, () -> labels.add(10, 12, 1, 1, 1));
        due("read on the same square", 0, () -> type(labels, "12,10:1x1;1,1:1x1").read());
        labels.mirror();
        due("where it was before the mirror", 4, () -> labels.add(12, 10, 1, 1, 1));
        due("where it is since", STATE, () -> labels.add(47, 10, 1, 1, 1));
        labels.remove(0);
        due("where it was removed", 4, () -> labels.add(47, 10, 1, 1, 1));
    }

    private static void widths() {
        CHECK.says("Terms", "it has a label with a width, 1 to 20 squares");
        for (int width : new int[] {1, 20}) {
            CornerLabels labels = placed(map(p(30, 20, width, 3, 1)), 0, 0);
            due("the width " + width, width, () -> labels.point(0, 2));
            due("its squares", 3 * width, () -> labels.count(4));
            due("its last column", 100, () -> labels.at(30 + width, 21));
            due("behind it", NONE, () -> labels.at(31 + width, 21));
        }
        for (int width : new int[] {0, 21, -1, MOST, LEAST}) {
            refused(CHECK, "add, width " + width, ARGUMENT, Cases::crowded, x -> x.add(9, 9, width, 3, 1));
            refused(CHECK, "resize, width " + width, ARGUMENT, Cases::tight, x -> x.resize(0, width, 3));
        }
    }

    private static void heights() {
        CHECK.says("Terms", "a height, 1 to 9 squares");
        for (int height : new int[] {1, 9}) {
            CornerLabels labels = placed(map(p(30, 20, 3, height, 1)), 0, 0);
            due("the height " + height, height, () -> labels.point(0, 3));
            due("its squares", 3 * height, () -> labels.count(4));
            due("its last row", 100, () -> labels.at(31, 20 + height));
            due("below it", NONE, () -> labels.at(31, 21 + height));
        }
        for (int height : new int[] {0, 10, -1, MOST, LEAST}) {
            refused(CHECK, "add, height " + height, ARGUMENT, Cases::crowded, x -> x.add(9, 9, 3, height, 1));
            refused(CHECK, "resize, height " + height, ARGUMENT, Cases::tight, x -> x.resize(0, 3, height));
        }
    }

    private static void weights() {
        CHECK.says("Terms", "and a weight, 1 to 99");
        for (int weight : new int[] {1, 99}) {
            CornerLabels labels = placed(map(p(30, 20, 3, 3, weight)), 0, 0);
            due("the weight " + weight, weight, () -> labels.point(0, 4));
            due("what stands", weight, () -> labels.count(2));
            due("the best plan", weight, () -> labels.bestWeight(NONE));
        }
        for (int weight : new int[] {0, 100, -1, MOST, LEAST}) {
            refused(CHECK, "add, weight " + weight, ARGUMENT, Cases::crowded, x -> x.add(9, 9, 3, 3, weight));
            refused(CHECK, "weigh, weight " + weight, ARGUMENT, Cases::tight, x -> x.weigh(0, weight));
        }
    }

    private static void droppedAtFirst() {
        CHECK.says("Terms", "A label stands at a corner of its point, or it is dropped, at first");
        CornerLabels labels = map(p(30, 20, 3, 3, 4));
        type(labels, "10,10:2x2").read();
        for (int i = 0; i < 2; i++) {
            int k = i;
            due("the corner of " + i + " at first", NONE, () -> labels.point(k, 5));
        }
        due("labels that stand at first", 0, () -> labels.count(1));
        for (int corner = 0; corner < 4; corner++) {
            int c = corner;
            labels.place(0, corner);
            due("it stands at", corner, () -> labels.point(0, 5));
            due("labels that stand, at " + c, 1, () -> labels.count(1));
        }
        labels.drop(0);
        due("it is dropped", NONE, () -> labels.point(0, 5));
        // the rows of a removed point are used again: nothing of its label may be left
        CornerLabels again = placed(map(p(10, 10, 2, 2, 1), p(30, 20, 3, 3, 4)), 1, 2);
        again.remove(1);
        again.add(40, 20, 3, 3, 4);
        due("in the place of one whose label stood", NONE, () -> again.point(1, 5));
    }

    private static void cornerSquares() {
        String[] texts = {"corner 0: on the squares x + 1 to x + width, y + 1 to y + height",
            "corner 1: x - width to x - 1, y + 1 to y + height",
            "corner 2: x - width to x - 1, y - height to y - 1",
            "corner 3: x + 1 to x + width, y - height to y - 1"};
        int[][] sizes = {{1, 1}, {20, 9}, {4, 1}, {1, 3}};
        for (int corner = 0; corner < 4; corner++) {
            CHECK.says("Terms", texts[corner]);
            for (int[] size : sizes) {
                for (int row = 0; row < 40; row++) {
                    dueRow(corner, size, row);
                }
            }
        }
    }

    /** Each row has an object of its own, as an object answers 512 calls. */
    private static void dueRow(int corner, int[] size, int row) {
        CornerLabels labels = placed(map(p(30, 20, size[0], size[1], 1)), 0, corner);
        StringBuilder got = new StringBuilder();
        StringBuilder want = new StringBuilder();
        for (int column = 0; column < 60; column++) {
            int at = labels.at(column, row);
            got.append(at == 100 ? 'L' : at == 0 ? 'P' : at == NONE ? '.' : '?');
            boolean point = column == 30 && row == 20;
            want.append(point ? 'P' : has(30, 20, size[0], size[1], corner, column, row) ? 'L' : '.');
        }
        due(size[0] + " x " + size[1] + ", row " + row, want.toString(), got::toString);
    }

    private static void openOnTheMap() {
        CHECK.says("Terms", "A corner is open for a point if all these squares are on the map");
        int[][] sizes = {{1, 1}, {20, 9}, {7, 3}};
        for (int[] size : sizes) {
            int w = size[0];
            int h = size[1];
            int[][] last = {{59 - w, 39 - h}, {w, 39 - h}, {w, h}, {59 - w, h}};
            int[] stepX = {1, -1, -1, 1};
            int[] stepY = {1, 1, -1, -1};
            for (int corner = 0; corner < 4; corner++) {
                int x = last[corner][0];
                int y = last[corner][1];
                dueOpen(true, corner, p(x, y, w, h, 1));
                dueOpen(false, corner, p(x + stepX[corner], y, w, h, 1));
                dueOpen(false, corner, p(x, y + stepY[corner], w, h, 1));
                dueOpen(false, corner, p(x + stepX[corner], y + stepY[corner], w, h, 1));
                dueOpen(true, corner, p(x - stepX[corner], y - stepY[corner], w, h, 1));
            }
        }
    }

    private static void dueOpen(boolean open, int corner, int[] point) {
        String call = " corner " + corner + " of " + java.util.Arrays.toString(point);
        CornerLabels labels = map(point);
        due("is open:" + call, open, () -> (labels.point(0, 6) >> corner & 1) == 1);
        due("is free:" + call, open, () -> (labels.point(0, 7) >> corner & 1) == 1);
        due("place at" + call, open ? (Object) NONE : STATE, () -> labels.place(0, corner));
    }

    private static void openWithoutPoints() {
        CHECK.says("Terms", "and no point stands on one of them");
        for (int corner = 0; corner < 4; corner++) {
            for (int x = 24; x <= 36; x++) {
                for (int y = 16; y <= 24; y++) {
                    if (x == 30 && y == 20) {
                        continue;
                    }
                    int c = corner;
                    CornerLabels labels = map(p(30, 20, 5, 3, 1), p(x, y, 1, 1, 1));
                    boolean open = !has(30, 20, 5, 3, corner, x, y);
                    String call = "corner " + corner + " with a point on " + x + ", " + y;
                    due(call, open, () -> (labels.point(0, 6) >> c & 1) == 1);
                    due("place at " + call, open ? (Object) NONE : STATE, () -> labels.place(0, c));
                }
            }
        }
    }

    private static void commonSquares() {
        CHECK.says("Terms", "Two labels clash if they have a square in common");
        for (int dx = -5; dx <= 5; dx++) {
            for (int dy = -4; dy <= 4; dy++) {
                if (dx == 0 && dy == 0) {
                    continue;
                }
                CornerLabels labels = map(p(20, 20, 4, 3, 1), p(20 + dx, 20 + dy, 4, 3, 1));
                int common = Math.max(0, 4 - Math.abs(dx)) * Math.max(0, 3 - Math.abs(dy));
                String call = "a label of 4 x 3 squares, and one that is " + dx + ", " + dy + " beside it";
                due("clash, " + call, common, () -> labels.clash(0, 0, 1, 0));
                boolean bothOpen = (labels.point(0, 6) & labels.point(1, 6) & 1) == 1;
                if (bothOpen) {
                    labels.place(0, 0);
                    due("is free, " + call, common == 0, () -> (labels.point(1, 7) & 1) == 1);
                    due("place, " + call, common == 0 ? (Object) NONE : STATE, () -> labels.place(1, 0));
                }
            }
        }
    }

    private static void openWhereTheyStand() {
        CHECK.says("Terms", "Labels that stand are at open corners; what would change this is refused");
        for (int corner = 1; corner < 4; corner++) {
            int c = corner;
            refused(CHECK, "off the map, at the corner " + corner, STATE, Cases::crowded, x -> x.place(0, c));
        }
        refused(CHECK, "on a point", STATE, () -> map(p(20, 20, 3, 3, 1), p(23, 23, 1, 1, 1)), x -> x.place(0, 0));
        CornerLabels grown = placed(map(p(56, 20, 3, 3, 1)), 0, 0);
        due("a label that outgrows the map is dropped: open corners", 2, () -> grown.resize(0, 4, 3));
        due("its corner", NONE, () -> grown.point(0, 5));
    }

    private static void clashIsRefused() {
        CHECK.says("Terms", "and no two of them clash; what would change this is refused");
        refused(CHECK, "in the way of another label", STATE, () -> placed(crowded(), 2, 0), x -> x.place(0, 0));
        refused(CHECK, "from a free corner into the way of another label", STATE,
                () -> placed(placed(map(p(20, 20, 4, 3, 1), p(26, 20, 4, 3, 1)), 0, 0), 1, 0), x -> x.place(1, 1));
        CornerLabels grown = placed(placed(map(p(20, 20, 4, 3, 1), p(30, 20, 4, 3, 1)), 0, 0), 1, 1);
        due("a label that outgrows the room is dropped: open corners", 4, () -> grown.resize(0, 6, 3));
        due("its corner", NONE, () -> grown.point(0, 5));
        due("the other stands", 1, () -> grown.point(1, 5));
        due("its free corners", 14, () -> grown.point(0, 7));
    }

    private static void pointDropsLabels() {
        CHECK.says("Terms", "but when a point comes: then labels that stand on its square are dropped");
        for (int corner = 0; corner < 4; corner++) {
            for (int x = 24; x <= 36; x++) {
                for (int y = 16; y <= 24; y++) {
                    if (x == 30 && y == 20) {
                        continue;
                    }
                    CornerLabels added = placed(map(p(30, 20, 5, 3, 1)), 0, corner);
                    CornerLabels read = placed(map(p(30, 20, 5, 3, 1)), 0, corner);
                    int stands = has(30, 20, 5, 3, corner, x, y) ? NONE : corner;
                    String call = " a point on " + x + ", " + y + ", the label that stood at " + corner;
                    added.add(x, y, 1, 1, 1);
                    type(read, x + "," + y + ":1x1").read();
                    due("add" + call, stands, () -> added.point(0, 5));
                    due("read" + call, stands, () -> read.point(0, 5));
                }
            }
        }
        CornerLabels labels = placed(placed(map(p(10, 20, 4, 3, 1), p(14, 20, 4, 3, 1)), 1, 0), 0, 0);
        labels.add(14, 23, 1, 1, 1);
        due("the label with the square", NONE, () -> labels.point(0, 5));
        due("the label beside it", 0, () -> labels.point(1, 5));
        for (int covered = 0; covered < 7; covered++) {
            CornerLabels row = eight();
            row.remove(7);
            row.solve();
            row.add(6 + 5 * covered, 6, 1, 1, 1);
            for (int i = 0; i < 7; i++) {
                int k = i;
                int stands = i == covered ? NONE : 0;
                due("the label of " + i + ", a point on that of " + covered, stands, () -> row.point(k, 5));
            }
        }
    }

    // ---- Plans

    private static void plansOfOpenCorners() {
        CHECK.says("Plans", "A plan tells a corner, or dropped, for each point, so that each told corner is open");
        CornerLabels closed = closed();
        for (int i = 0; i < 8; i++) {
            int k = i;
            due("the best corner of " + i, NONE, () -> closed.best(k));
            due("room for " + i, NONE, () -> closed.ifPushed(k));
        }
        due("the best weight", 0, () -> closed.bestWeight(NONE));
        due("full plans", 1, closed::fullPlans);
        due("the first corner is closed", 1, () -> map(p(20, 0, 20, 9, 1), p(40, 9, 1, 1, 1)).best(0));
        due("full plans at the edge", 2, () -> map(p(0, 20, 5, 5, 1)).fullPlans());
        due("full plans in the corner", 1, () -> map(p(0, 0, 5, 5, 1)).fullPlans());
    }

    private static void plansWithoutClash() {
        CHECK.says("Plans", "and no two labels clash");
        // the point 1 has its corner 1 alone, whose first square is the last one of the label of the point 0
        CornerLabels one = map(p(0, 0, 6, 3, 5), p(7, 2, 1, 9, 1), p(8, 3, 1, 1, 1));
        due("the open corners of 1", 2, () -> one.point(1, 6));
        due("one square in common", 1, () -> one.clash(0, 0, 1, 1));
        due("one square in common, the best weight", 6, () -> one.bestWeight(NONE));
        due("one square in common, full plans", 0, one::fullPlans);
        one.resize(0, 6, 2);
        due("none in common, the best weight", 7, () -> one.bestWeight(NONE));
        due("none in common, full plans", 3, one::fullPlans);
        due("side by side", 10, () -> map(p(0, 0, 6, 3, 5), p(6, 0, 7, 3, 5)).bestWeight(NONE));
        due("side by side but for a column", 5, () -> map(p(0, 0, 6, 3, 5), p(5, 0, 7, 3, 5)).bestWeight(NONE));
        due("side by side, full plans", 1, () -> map(p(0, 0, 6, 3, 5), p(6, 0, 7, 3, 5)).fullPlans());
        due("side by side but for a column, full plans", 0,
                () -> map(p(0, 0, 6, 3, 5), p(5, 0, 7, 3, 5)).fullPlans());
    }

    private static void lowerCornerAhead() {
        CHECK.says("Plans", "a lower corner is ahead of a higher one");
        int[][] closing = {{31, 21}, {29, 21}, {29, 19}, {31, 19}};
        CornerLabels labels = map(p(30, 20, 1, 1, 1));
        for (int corner = 0; corner < 4; corner++) {
            int c = corner;
            due("with " + corner + " corners closed", corner, () -> labels.best(0));
            labels.solve();
            due("with " + corner + " corners closed, solved", corner, () -> labels.point(0, 5));
            labels.drop(0);
            due("with " + corner + " corners closed, none moves", 0, () -> labels.push(0));
            due("with " + corner + " corners closed, pushed", corner, () -> labels.point(0, 5));
            due("the next one", corner + 1, () -> labels.add(closing[c][0], closing[c][1], 1, 1, 1));
        }
        due("with all closed", NONE, () -> labels.best(0));
    }

    private static void cornerAheadOfDropped() {
        CHECK.says("Plans", "each corner ahead of dropped");
        // the one corner of 0 is in the way of the one of 1 and of the one of 2, which weigh as much together
        for (int[] weights : new int[][] {{5, 2, 3}, {4, 2, 3}, {6, 2, 3}}) {
            CornerLabels labels = map(p(0, 0, 6, 3, weights[0]), p(3, 0, 4, 3, weights[1]), p(0, 2, 2, 3, weights[2]));
            int stands = weights[0] >= 5 ? 0 : NONE;
            due("the best corner of 0 with " + weights[0], stands, () -> labels.best(0));
            due("the best corner of 1 with " + weights[0], NONE - stands, () -> labels.best(1));
            due("the best corner of 2 with " + weights[0], NONE - stands, () -> labels.best(2));
        }
        // a corner 3 too: the labels of 0 and 1 can stand above alone, and clash there
        CornerLabels high = map(p(0, 39, 6, 3, 5), p(1, 39, 6, 3, 5));
        due("the best corner of 0, at the lower edge", 3, () -> high.best(0));
        due("the best corner of 1, at the lower edge", NONE, () -> high.best(1));
    }

    private static void firstUnlikePoint() {
        CHECK.says("Plans", "the first point with unlike ones decides");
        // the corners 0 and 0 clash; of (0, 1) and (1, 0) the former is ahead
        CornerLabels labels = map(p(20, 20, 4, 2, 1), p(20, 19, 4, 2, 1));
        due("common squares at 0 and 0", 4, () -> labels.clash(0, 0, 1, 0));
        due("common squares at 0 and 1", 0, () -> labels.clash(0, 0, 1, 1));
        due("the best corner of 0", 0, () -> labels.best(0));
        due("the best corner of 1", 1, () -> labels.best(1));
        // the same points in the other order
        CornerLabels turned = map(p(20, 19, 4, 2, 1), p(20, 20, 4, 2, 1));
        due("the best corner of 0, turned", 0, () -> turned.best(0));
        due("the best corner of 1, turned", 1, () -> turned.best(1));
        // the last point can be dropped or the first one: the first one that is unlike is the second
        CornerLabels three = map(p(40, 20, 1, 1, 9), p(0, 0, 6, 3, 5), p(1, 0, 6, 3, 5));
        due("the best corner of the second of three", 0, () -> three.best(1));
        due("the best corner of the third of three", NONE, () -> three.best(2));
    }

    private static void mostWeight() {
        CHECK.says("Plans", "The best plan is the one with the most weight of labels that stand");
        CornerLabels lighter = map(p(0, 0, 6, 3, 98), p(1, 0, 6, 3, 99));
        due("the latter is heavier by 1", 99, () -> lighter.bestWeight(NONE));
        due("the former", NONE, () -> lighter.best(0));
        due("the latter", 0, () -> lighter.best(1));
        CornerLabels heavier = map(p(0, 0, 6, 3, 99), p(1, 0, 6, 3, 98));
        due("the former is heavier by 1", 99, () -> heavier.bestWeight(NONE));
        due("the former", 0, () -> heavier.best(0));
        CornerLabels two = map(p(0, 0, 6, 3, 98), p(3, 0, 4, 3, 1), p(0, 2, 2, 3, 98));
        due("two together are heavier by 1", 99, () -> two.bestWeight(NONE));
        due("the one that stands in their way", NONE, () -> two.best(0));
        CornerLabels eight = new CornerLabels();
        for (int i = 0; i < 8; i++) {
            eight.add(5 + 5 * i, 20, 1, 1, 99);
        }
        due("the most that can be", 792, () -> eight.bestWeight(NONE));
    }

    private static void firstOfSeveral() {
        CHECK.says("Plans", "of several the one that comes first");
        CornerLabels labels = crowded();
        labels.place(2, 0);
        labels.place(1, 2);
        due("of two as heavy, though the other one stands", 0, () -> labels.best(0));
        due("the lowest corner, though it stands at another", 0, () -> labels.best(1));
        due("the one in the way, though it stands", NONE, () -> labels.best(2));
        CornerLabels eight = eight();
        for (int i = 0; i < 8; i++) {
            int k = i;
            due("with room for all, " + i, 0, () -> eight.best(k));
        }
        // each is in the way of both others
        CornerLabels three = map(p(0, 0, 6, 3, 5), p(1, 0, 6, 3, 5), p(2, 0, 6, 3, 3));
        int[] want = {0, NONE, NONE};
        for (int i = 0; i < 3; i++) {
            int k = i;
            due("one of three, " + i, want[i], () -> three.best(k));
        }
    }

    private static void justTheseStand() {
        CHECK.says("Plans", "To make room for a point whose label is dropped:"
                + " of the plans in which just its label and all labels that stand now stand");
        CornerLabels labels = tight();
        labels.push(1);
        for (int i = 2; i < 5; i++) {
            int k = i;
            due("a dropped one stays dropped, " + i, NONE, () -> labels.point(k, 5));
        }
        due("labels that stand", 2, () -> labels.count(1));
        due("as many as the squares they have", 24, () -> labels.count(4));
        // the former can't give way: it has one corner
        refused(CHECK, "one that stands would have to be dropped", STATE, () -> placed(crowded(), 0, 0),
                x -> x.push(2));
        refused(CHECK, "one that stands would have to be dropped, and is the latter", STATE,
                () -> placed(crowded(), 2, 0), x -> x.push(0));
        due("dropped, the same has room", 0, () -> crowded().push(2));
        refused(CHECK, "its label stands", STATE, Cases::tight, x -> x.push(0));
        refused(CHECK, "without an open corner", STATE, Cases::closed, x -> x.push(3));
    }

    /** To stand at its corner 0 the point 0 moves 1 and 2, at its corner 1 it moves 3; 2 and 3 are closed. */
    private static CornerLabels between() {
        CornerLabels labels = map(p(30, 20, 6, 2, 1), p(32, 23, 1, 1, 1), p(36, 23, 1, 1, 1), p(26, 23, 1, 1, 1),
                p(29, 19, 1, 1, 1), p(31, 19, 1, 1, 1));
        labels.place(1, 3);
        labels.place(2, 2);
        labels.place(3, 2);
        return labels;
    }

    private static void fewestMoved() {
        CHECK.says("Plans", "the one in which the fewest of the latter are at another corner than now");
        CornerLabels labels = between();
        due("its open corners", 3, () -> labels.point(0, 6));
        due("its free corners", 0, () -> labels.point(0, 7));
        due("one would move", 1, () -> labels.ifPushed(0));
        due("one moves", 1, () -> labels.push(0));
        int[] want = {1, 3, 2, 0, NONE, NONE};
        for (int i = 0; i < 6; i++) {
            int k = i;
            due("the corner of " + i, want[i], () -> labels.point(k, 5));
        }
        CornerLabels two = map(p(30, 20, 6, 2, 1), p(32, 23, 1, 1, 1), p(36, 23, 1, 1, 1), p(29, 21, 1, 1, 1),
                p(29, 19, 1, 1, 1), p(31, 19, 1, 1, 1));
        two.place(1, 3);
        two.place(2, 2);
        due("with the corner 1 closed two move", 2, () -> two.push(0));
        due("to their first corners", 0, () -> two.point(1, 5));
        due("to their first corners", 0, () -> two.point(2, 5));
        CornerLabels none = between();
        none.drop(3);
        due("none moves, as the corner 1 is free", 0, () -> none.push(0));
        due("at its free corner", 1, () -> none.point(0, 5));
    }

    private static void firstOfTheFewest() {
        CHECK.says("Plans", "(to make room) of several the one that comes first");
        CornerLabels labels = between();
        labels.drop(2);
        due("one moves", 1, () -> labels.push(0));
        int[] want = {0, 0, NONE, 2, NONE, NONE};
        for (int i = 0; i < 6; i++) {
            int k = i;
            due("the corner of " + i, want[i], () -> labels.point(k, 5));
        }
        // the same with the wanted point as the last one: the first that is unlike is one that moves
        CornerLabels last = map(p(26, 23, 1, 1, 1), p(32, 23, 1, 1, 1), p(29, 19, 1, 1, 1), p(31, 19, 1, 1, 1),
                p(30, 20, 6, 2, 1));
        last.place(0, 2);
        last.place(1, 3);
        due("one moves, the wanted point is the last", 1, () -> last.push(4));
        due("the first one moves", 0, () -> last.point(0, 5));
        due("the second one stays", 3, () -> last.point(1, 5));
        due("the wanted one", 1, () -> last.point(4, 5));
    }

    // ---- Leaders

    private static void leaderSquares() {
        CHECK.says("Leaders", "The leader of a point goes from it to the right edge of the map:"
                + " over the squares x + 1 to 59 of its row.");
        CornerLabels edge = map(p(59, 20, 1, 1, 1), p(58, 19, 1, 1, 1), p(0, 20, 1, 1, 1));
        edge.place(1, 2);
        due("from the last column", 0, () -> edge.point(0, 8));
        due("from the last column but one, with none in its row", 0, () -> edge.point(1, 8));
        due("from the first column", 1, () -> edge.point(2, 8));
        CornerLabels near = map(p(30, 20, 1, 1, 1), p(31, 20, 1, 1, 1));
        due("over x + 1", 1, () -> near.point(0, 8));
        due("not over x - 1", 0, () -> near.point(1, 8));
        CornerLabels far = map(p(30, 20, 1, 1, 1), p(59, 20, 1, 1, 1), p(0, 20, 1, 1, 1));
        due("over 59", 1, () -> far.point(0, 8));
        due("not over 0", 0, () -> far.point(1, 8));
        due("over all from 1 on", 2, () -> far.point(2, 8));
        CornerLabels rows = map(p(30, 20, 1, 1, 1), p(40, 19, 1, 1, 1), p(40, 21, 1, 1, 1));
        due("not over the rows beside it", 0, () -> rows.point(0, 8));
    }

    private static void leaderCrossesLabels() {
        CHECK.says("Leaders", "It crosses the labels that have such a square (if they stand)");
        for (int corner = 0; corner < 4; corner++) {
            for (int y = 16; y <= 24; y++) {
                for (int x = 22; x <= 37; x++) {
                    if (y == 20 || has(30, 20, 5, 3, corner, x, y)) {
                        continue;
                    }
                    CornerLabels labels = map(p(30, 20, 5, 3, 1), p(x, y, 1, 1, 1));
                    String call = "from " + x + ", " + y + ", the label at " + corner;
                    due(call + ", dropped", 0, () -> labels.point(1, 8));
                    labels.place(0, corner);
                    boolean right = corner == 0 || corner == 3 ? x < 31 : x < 25;
                    boolean row = corner < 2 ? y > 20 && y < 24 : y < 20 && y > 16;
                    due(call, right && row ? 1 : 0, () -> labels.point(1, 8));
                }
            }
        }
        CornerLabels column = placed(map(p(30, 20, 1, 1, 1), p(30, 21, 1, 1, 1)), 0, 0);
        due("a label that has the column x + 1 alone", 1, () -> column.point(1, 8));
        for (int labelled = 0; labelled < 8; labelled++) {
            CornerLabels eight = new CornerLabels();
            int left = (labelled + 1) % 8;
            int right = (labelled + 2) % 8;
            for (int i = 0; i < 8; i++) {
                int x = i == labelled ? 30 : i == left ? 20 : i == right ? 50 : 2 * i;
                int y = i == labelled ? 20 : i == left ? 22 : i == right ? 21 : 2;
                eight.add(x, y, 5, 3, 1);
            }
            eight.place(labelled, 0);
            due("a point left of the label of " + labelled, 1, () -> eight.point(left, 8));
            due("a point right of the label of " + labelled, 0, () -> eight.point(right, 8));
        }
        // what is high or heavy is not wide
        CornerLabels tall = placed(map(p(30, 20, 1, 9, 99), p(33, 22, 1, 1, 1), p(28, 22, 1, 1, 1)), 0, 0);
        due("a high and heavy label of one column, left of the point", 0, () -> tall.point(1, 8));
        due("a high and heavy label of one column, and a point", 2, () -> tall.point(2, 8));
        CornerLabels edge = placed(map(p(58, 20, 1, 1, 1), p(0, 21, 1, 1, 1)), 0, 0);
        due("a label in the last column", 1, () -> edge.point(1, 8));
        edge.mirror();
        due("mirrored, it is left of the point", 0, () -> edge.point(1, 8));
        CornerLabels own = placed(map(p(30, 20, 20, 9, 1)), 0, 0);
        due("its own label", 0, () -> own.point(0, 8));
        own.place(0, 3);
        due("its own label above it", 0, () -> own.point(0, 8));
        CornerLabels two = placed(placed(map(p(10, 20, 1, 1, 1), p(20, 18, 3, 3, 1), p(30, 22, 3, 3, 1)), 1, 0), 2, 2);
        due("two labels, each with squares of its own", 2, () -> two.point(0, 8));
    }

    private static void leaderCrossesPoints() {
        CHECK.says("Leaders", "and the points that stand on such a square");
        CornerLabels row = new CornerLabels();
        for (int i = 0; i < 8; i++) {
            row.add(i == 7 ? 59 : 8 * i, 20, 8, 3, 1);
        }
        for (int i = 0; i < 8; i++) {
            int k = i;
            due("the points right of number " + i, 7 - i, () -> row.point(k, 8));
        }
        row.solve();
        due("their labels are in other rows", 7, () -> row.point(0, 8));
        row.mirror();
        due("mirrored, the last one is the first", 7, () -> row.point(7, 8));
        due("mirrored, the first one is the last", 0, () -> row.point(0, 8));
        CornerLabels both = placed(map(p(10, 20, 1, 1, 1), p(20, 20, 3, 3, 1), p(30, 19, 3, 3, 1)), 2, 0);
        due("a point and a label, all together", 2, () -> both.point(0, 8));
    }
}
