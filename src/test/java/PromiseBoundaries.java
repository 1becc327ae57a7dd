import java.math.BigInteger;
import java.util.function.Function;

/** A test for each sentence with a boundary in the promises 1 to 10 and 16 to 26. */
public final class PromiseBoundaries extends Cases {
    private static final Check CHECK = new Check("PromiseBoundaries");
    private static final int[] FAR = {-1, -2, 100, MOST, MOST - 7, LEAST, LEAST + 7};

    public static void main(String[] args) {
        newMap();
        addX();
        addY();
        addNumber();
        addThrows();
        removeOpens();
        noSuchPoint();
        weighPrevious();
        weighThrows();
        resizeDrops();
        resizeOpen();
        resizeThrows();
        placeCorner();
        placeReturns();
        placeThrows();
        dropReturns();
        solveWeight();
        pushReturns();
        pushThrows();
        mirrorColumns();
        mirrorCorners();
        mirrorReturns();
        looksChangeNothing();
        pointCorner();
        pointOpen();
        pointFree();
        pointWhat();
        clashSquares();
        clashAnywhere();
        clashThrows();
        atPoint();
        atLabel();
        atNothing();
        atThrows();
        countNumbers();
        countPairs();
        countCrossed();
        countWhat();
        bestDropped();
        weightWithout();
        weightThrows();
        wouldPush();
        wouldThrow();
        fullPlans();
        fullPlansOne();
        dearestSum();
        dearestLowest();
        dearestNone();
        shareDivided();
        shareOne();
        hashOverflows();
        hashStart();
        hashOfNone();
        hashPairs();
        hashShare();
        hashBuffer();
        CHECK.end();
    }

    private static void due(String call, Object want, Check.Call code) {
        CHECK.due(call, want, code);
    }

    // ---- Promise 1: A new object

    private static void newMap() {
        CHECK.says("Promise 1", "Creates a map without points, with an empty buffer.");
        for (int what = 0; what <= 8; what++) {
            int w = what;
            due("count(" + what + ")", 0, () -> new CornerLabels().count(w));
        }
        due("point(0, 0)", INDEX, () -> new CornerLabels().point(0, 0));
        due("the length of the buffer", 0, () -> new CornerLabels().clearBuffer());
        due("firstError", 0, () -> new CornerLabels().firstError());
        due("append", 1, () -> new CornerLabels().append('1'));
        due("undo", STATE, () -> new CornerLabels().undo());
        due("at the last square", NONE, () -> new CornerLabels().at(59, 39));
        due("standingShare", 1.0, () -> new CornerLabels().standingShare());
        // no object has anything of another one
        CornerLabels first = type(eight(), "1,1");
        first.solve();
        due("beside another object", new CornerLabels().digest(), () -> new CornerLabels().digest());
        due("points beside another object", 0, () -> new CornerLabels().count(0));
    }

    // ---- Promise 2: add

    private static void addX() {
        CHECK.says("Promise 2", "x: 0 to 59");
        for (int x : new int[] {0, 1, 58, 59}) {
            due("add on the column " + x, 3, () -> crowded().add(x, 30, 1, 1, 1));
        }
        for (int x : new int[] {-1, 60, MOST, LEAST}) {
            refused(CHECK, "add on the column " + x, ARGUMENT, Cases::crowded, c -> c.add(x, 30, 1, 1, 1));
        }
    }

    private static void addY() {
        CHECK.says("Promise 2", "y: 0 to 39");
        for (int y : new int[] {0, 1, 38, 39}) {
            due("add on the row " + y, 3, () -> crowded().add(50, y, 1, 1, 1));
        }
        for (int y : new int[] {-1, 40, 59, MOST, LEAST}) {
            refused(CHECK, "add on the row " + y, ARGUMENT, Cases::crowded, c -> c.add(50, y, 1, 1, 1));
        }
    }

    private static void addNumber() {
        CHECK.says("Promise 2", "Returns its number.");
        due("the first", 0, () -> new CornerLabels().add(0, 0, 1, 1, 1));
        CornerLabels labels = eight();
        labels.remove(7);
        due("the last", 7, () -> labels.add(0, 0, 1, 1, 1));
        labels.remove(0);
        labels.remove(0);
        due("after two are removed", 6, () -> labels.add(0, 39, 1, 1, 1));
    }

    private static void addThrows() {
        CHECK.says("Promise 2", "Throws IllegalStateException if there are 8 points, or one stands there");
        refused(CHECK, "to 8 points", STATE, Cases::eight, x -> x.add(0, 0, 1, 1, 1));
        refused(CHECK, "to 8 points, on one of them", STATE, Cases::eight, x -> x.add(5, 5, 1, 1, 1));
        refused(CHECK, "on the first", STATE, Cases::crowded, x -> x.add(0, 0, 1, 1, 1));
        refused(CHECK, "on the last", STATE, Cases::crowded, x -> x.add(1, 0, 1, 1, 1));
        CornerLabels seven = eight();
        seven.remove(3);
        due("to 7 points, where the removed one was", 7, () -> seven.add(20, 5, 1, 1, 1));
        due("on a label", 3, () -> placed(crowded(), 0, 0).add(3, 2, 1, 1, 1));
    }

    // ---- Promise 3: remove

    private static void removeOpens() {
        CHECK.says("Promise 3", "Returns how many corners of other points are open then that were not.");
        due("the only point", 0, () -> map(p(30, 20, 3, 3, 1)).remove(0));
        due("one that closes none", 0, () -> map(p(30, 20, 3, 3, 1), p(34, 21, 1, 1, 1)).remove(1));
        due("one that closes one", 1, () -> map(p(30, 20, 3, 3, 1), p(33, 21, 1, 1, 1)).remove(1));
        due("its own corners do not count", 0, () -> map(p(30, 20, 3, 3, 1), p(33, 21, 1, 1, 1)).remove(0));
        CornerLabels twice = map(p(30, 20, 3, 3, 1), p(33, 21, 1, 1, 1), p(33, 22, 1, 1, 1));
        due("one of two that close the same corner", 0, () -> twice.remove(1));
        due("the other one", 1, () -> twice.remove(1));
        CornerLabels edge = map(p(57, 20, 3, 3, 1), p(58, 21, 1, 1, 1));
        due("a corner that stays closed, as it is off the map", 0, () -> edge.remove(1));
        CornerLabels many = new CornerLabels();
        many.add(30, 20, 1, 1, 1);
        int[][] around = {{29, 19, 1}, {31, 19, 1}, {29, 21, 1}, {31, 21, 1}, {28, 19, 2}, {32, 19, 2}, {28, 21, 2}};
        for (int[] other : around) {
            many.add(other[0], other[1], other[2], 1, 1);
        }
        due("one that closes a corner of each of seven others", 7, () -> many.remove(0));
        CornerLabels closed = closed();
        due("none is open", 0, () -> closed.point(0, 6));
        due("one of three that closes four corners alone", 4, () -> closed.remove(4));
    }

    private static void noSuchPoint() {
        dueNoPoint("3", "remove", c -> i -> c.remove(i));
        dueNoPoint("4", "weigh", c -> i -> c.weigh(i, 1));
        dueNoPoint("5", "resize", c -> i -> c.resize(i, 1, 1));
        dueNoPoint("6", "place", c -> i -> c.place(i, 0));
        dueNoPoint("7", "drop", c -> i -> c.drop(i));
        dueNoPoint("9", "push", c -> i -> c.push(i));
        dueNoPoint("16", "point", c -> i -> c.point(i, 0));
        dueNoPoint("17", "clash, one", c -> i -> c.clash(i, 0, 0, 0));
        dueNoPoint("17", "clash, other", c -> i -> c.clash(0, 0, i, 0));
        dueNoPoint("20", "best", c -> i -> c.best(i));
        dueNoPoint("22", "ifPushed", c -> i -> c.ifPushed(i));
    }

    private interface Ask {
        Object of(int point);
    }

    /** A call with numbers of no point: on maps with no, three and eight points. */
    private static void dueNoPoint(String promise, String name, Function<CornerLabels, Ask> call) {
        CHECK.says("Promise " + promise, "Throws IndexOutOfBoundsException if there is no such point: " + name);
        refused(CHECK, name + " of 0 on an empty map", INDEX, CornerLabels::new, c -> call.apply(c).of(0));
        refused(CHECK, name + " of 3 of 3", INDEX, Cases::crowded, c -> call.apply(c).of(3));
        refused(CHECK, name + " of 8 of 8", INDEX, Cases::eight, c -> call.apply(c).of(8));
        for (int number : FAR) {
            refused(CHECK, name + " of " + number, INDEX, Cases::crowded, c -> call.apply(c).of(number));
        }
        CornerLabels gone = eight();
        gone.remove(0);
        due(name + " of 7 after one is removed", INDEX, () -> call.apply(gone).of(7));
        due(name + " of 7 of 8 is refused", false, () -> INDEX.equals(
                Check.answerOf(() -> call.apply(eight()).of(7))));
    }

    // ---- Promise 4: weigh

    private static void weighPrevious() {
        CHECK.says("Promise 4", "Returns the previous one.");
        CornerLabels labels = map(p(10, 10, 1, 1, 99), p(20, 20, 1, 1, 1));
        due("from 99 to 1", 99, () -> labels.weigh(0, 1));
        due("from 1 to 1", 1, () -> labels.weigh(0, 1));
        due("from 1 to 99", 1, () -> labels.weigh(1, 99));
        due("the new weight of 0", 1, () -> labels.point(0, 4));
        due("the new weight of 1", 99, () -> labels.point(1, 4));
        CornerLabels standing = placed(map(p(10, 10, 1, 1, 99)), 0, 2);
        standing.weigh(0, 3);
        due("the label still stands", 2, () -> standing.point(0, 5));
        due("what stands", 3, () -> standing.count(2));
    }

    private static void weighThrows() {
        CHECK.says("Promise 4", "weight: 1 to 99; throws IllegalArgumentException if weight is out of range");
        for (int weight : new int[] {1, 2, 98, 99}) {
            due("weigh " + weight, 5, () -> crowded().weigh(0, weight));
        }
        for (int weight : new int[] {0, 100, -1, -99, MOST, LEAST}) {
            refused(CHECK, "weigh " + weight, ARGUMENT, Cases::crowded, c -> c.weigh(0, weight));
        }
    }

    // ---- Promise 5: resize

    private static void resizeDrops() {
        CHECK.says("Promise 5", "Changes the size of a label, which is dropped then.");
        CornerLabels labels = placed(placed(crowded(), 0, 0), 1, 3);
        labels.resize(1, 2, 2);
        due("also to the same size", NONE, () -> labels.point(1, 5));
        due("the other one stands", 0, () -> labels.point(0, 5));
        labels.resize(0, 20, 1);
        due("to another width", NONE, () -> labels.point(0, 5));
        due("the width", 20, () -> labels.point(0, 2));
        due("the height", 1, () -> labels.point(0, 3));
        due("the squares", 0, () -> labels.count(4));
        for (int resized = 0; resized < 8; resized++) {
            CornerLabels row = eight();
            row.solve();
            row.resize(resized, 3, 2);
            for (int i = 0; i < 8; i++) {
                int k = i;
                String call = " of " + i + ", with " + resized + " resized";
                due("the width" + call, i == resized ? 3 : 1, () -> row.point(k, 2));
                due("the height" + call, i == resized ? 2 : 1, () -> row.point(k, 3));
                due("the corner" + call, i == resized ? NONE : 0, () -> row.point(k, 5));
            }
        }
    }

    private static void resizeOpen() {
        CHECK.says("Promise 5", "Returns how many corners are open for it then.");
        due("all", 4, () -> map(p(30, 20, 1, 1, 1)).resize(0, 20, 9));
        due("all, at the edge of the map", 4, () -> map(p(39, 30, 1, 1, 1)).resize(0, 20, 9));
        due("two at the right edge", 2, () -> map(p(40, 30, 1, 1, 1)).resize(0, 20, 9));
        due("one in the corner of the map", 1, () -> map(p(40, 31, 1, 1, 1)).resize(0, 20, 9));
        due("none", 0, () -> closed().resize(0, 20, 9));
        due("two, if it is a row less", 2, () -> closed().resize(0, 20, 8));
        due("three", 3, () -> map(p(30, 20, 1, 1, 1), p(33, 23, 1, 1, 1)).resize(0, 3, 3));
        due("a label of another point does not close it", 4,
                () -> placed(map(p(30, 20, 1, 1, 1), p(34, 23, 3, 3, 1)), 1, 2).resize(0, 3, 3));
    }

    private static void resizeThrows() {
        CHECK.says("Promise 5", "Throws IllegalArgumentException if width or height is out of range");
        for (int[] size : new int[][] {{1, 1}, {20, 1}, {1, 9}, {20, 9}}) {
            due("resize to " + size[0] + " x " + size[1], 4, () -> map(p(30, 20, 3, 3, 1)).resize(0, size[0], size[1]));
        }
        int[][] wrong = {{0, 1}, {21, 1}, {1, 0}, {1, 10}, {-1, 1}, {1, -1}, {MOST, 1}, {1, MOST}, {LEAST, 1},
            {1, LEAST}, {9, 20}};
        for (int[] size : wrong) {
            refused(CHECK, "resize to " + size[0] + " x " + size[1], ARGUMENT, Cases::tight,
                    c -> c.resize(0, size[0], size[1]));
        }
    }

    // ---- Promise 6: place

    private static void placeCorner() {
        CHECK.says("Promise 6", "corner: 0 to 3; throws IllegalArgumentException if corner is out of range");
        for (int corner = 0; corner < 4; corner++) {
            int c = corner;
            due("place at " + corner, NONE, () -> crowded().place(1, c));
        }
        // the last ones are corners if only their lower bits are looked at
        for (int corner : new int[] {-1, 4, MOST, LEAST, 32, 33, -32, 256}) {
            refused(CHECK, "place at " + corner, ARGUMENT, Cases::crowded, c -> c.place(1, corner));
        }
    }

    private static void placeReturns() {
        CHECK.says("Promise 6", "Returns the corner at which it stood, NONE if it was dropped.");
        CornerLabels labels = crowded();
        int stood = NONE;
        for (int corner : new int[] {3, 0, 1, 1, 2, 0, 3}) {
            due("place at " + corner, stood, () -> labels.place(1, corner));
            stood = corner;
        }
        labels.drop(1);
        due("place after drop", NONE, () -> labels.place(1, 0));
        labels.resize(1, 3, 3);
        due("place after resize", NONE, () -> labels.place(1, 0));
    }

    private static void placeThrows() {
        CHECK.says("Promise 6", "Throws IllegalStateException if the corner is not open,"
                + " or it would clash with a label of another point");
        refused(CHECK, "a corner off the map", STATE, Cases::crowded, c -> c.place(0, 2));
        refused(CHECK, "a corner with a point", STATE, () -> map(p(30, 20, 3, 3, 1), p(31, 23, 1, 1, 1)),
                c -> c.place(0, 0));
        refused(CHECK, "over one square of a label", STATE,
                () -> placed(map(p(30, 20, 3, 3, 1), p(36, 26, 3, 3, 1)), 1, 2), c -> c.place(0, 0));
        due("beside a label", NONE,
                () -> placed(map(p(30, 20, 3, 3, 1), p(37, 26, 3, 3, 1)), 1, 2).place(0, 0));
        due("above a label", NONE,
                () -> placed(map(p(30, 20, 3, 3, 1), p(36, 27, 3, 3, 1)), 1, 2).place(0, 0));
        due("where its own label stands", 0, () -> placed(map(p(30, 20, 3, 3, 1)), 0, 0).place(0, 0));
        due("where a label was dropped", NONE, () -> {
            CornerLabels labels = placed(map(p(30, 20, 3, 3, 1), p(36, 26, 3, 3, 1)), 1, 2);
            labels.drop(1);
            return labels.place(0, 0);
        });
    }

    // ---- Promise 7: drop

    private static void dropReturns() {
        CHECK.says("Promise 7", "Returns the corner at which it stood, NONE if it was dropped.");
        for (int corner = 0; corner < 4; corner++) {
            CornerLabels labels = placed(crowded(), 1, corner);
            due("the corner " + corner, corner, () -> labels.drop(1));
            due("dropped", NONE, () -> labels.drop(1));
            due("it is dropped", NONE, () -> labels.point(1, 5));
        }
        due("at first", NONE, () -> crowded().drop(0));
    }

    // ---- Promise 8: solve

    private static void solveWeight() {
        CHECK.says("Promise 8", "Returns the weight of labels that stand then.");
        due("without points", 0, () -> new CornerLabels().solve());
        due("without open corners", 0, () -> closed().solve());
        due("all of eight", 36, () -> eight().solve());
        due("one of two", 12, () -> crowded().solve());
        CornerLabels labels = placed(crowded(), 2, 0);
        labels.solve();
        due("count(2) is the same", 12, () -> labels.count(2));
        due("what stood in the way is dropped", NONE, () -> labels.point(2, 5));
        due("again", 12, labels::solve);
        CornerLabels most = new CornerLabels();
        for (int i = 0; i < 8; i++) {
            most.add(5 + 5 * i, 20, 1, 1, 99);
        }
        due("the most that can be", 792, most::solve);
        due("all stand at their first corner", 0, () -> most.point(7, 5));
    }

    // ---- Promise 9: push

    private static void pushReturns() {
        CHECK.says("Promise 9", "Returns how many labels that stood are at another corner then.");
        due("none stood", 0, () -> crowded().push(0));
        due("one stood, and stays", 0, () -> placed(crowded(), 0, 0).push(1));
        due("one moves", 1, () -> tight().push(1));
        // the label of 0 takes the row below it; those of 1 to 5 stand there, and can go below their points
        CornerLabels row = map(p(20, 0, 20, 1, 1), p(25, 2, 1, 1, 1), p(28, 2, 1, 1, 1), p(31, 2, 1, 1, 1),
                p(34, 2, 1, 1, 1), p(37, 2, 1, 1, 1), p(19, 1, 1, 1, 1));
        for (int i = 1; i <= 5; i++) {
            row.place(i, 3);
        }
        due("five stand in the way", 0, () -> row.point(0, 7));
        due("five move", 5, () -> row.push(0));
        due("the wanted one", 0, () -> row.point(0, 5));
        due("the first of them", 0, () -> row.point(1, 5));
        due("labels that stand", 6, () -> row.count(1));
    }

    private static void pushThrows() {
        CHECK.says("Promise 9", "Throws IllegalStateException if its label stands, or there is no such plan");
        for (int corner = 0; corner < 4; corner++) {
            int c = corner;
            refused(CHECK, "it stands at " + corner, STATE, () -> placed(crowded(), 1, c), x -> x.push(1));
        }
        refused(CHECK, "no open corner", STATE, Cases::closed, x -> x.push(0));
        refused(CHECK, "no room beside what stands", STATE, () -> placed(crowded(), 0, 0), x -> x.push(2));
        due("room, if the other one is dropped", 0, () -> crowded().push(2));
    }

    // ---- Promise 10: mirror

    private static void mirrorColumns() {
        CHECK.says("Promise 10", "Mirrors the map: x becomes 59 less x");
        for (int x : new int[] {0, 1, 29, 30, 58, 59}) {
            CornerLabels labels = map(p(x, 7, 3, 2, 5));
            due("nothing stands", 0, labels::mirror);
            int[] want = {59 - x, 7, 3, 2, 5, NONE};
            for (int what = 0; what < 6; what++) {
                int w = what;
                due("property " + what + " of a point that was on " + x, want[what], () -> labels.point(0, w));
            }
        }
        CornerLabels twice = placed(crowded(), 0, 0);
        twice.mirror();
        twice.mirror();
        twice.undo();
        twice.undo();
        due("twice, and undone", story(placed(crowded(), 0, 0)), () -> story(twice));
    }

    private static void mirrorCorners() {
        CHECK.says("Promise 10", "the corners 0 and 1, and 2 and 3, are exchanged");
        int[] want = {1, 0, 3, 2};
        for (int corner = 0; corner < 4; corner++) {
            CornerLabels labels = placed(map(p(20, 20, 4, 3, 5)), 0, corner);
            int from = labels.at(24, 23) == 100 ? 0 : labels.at(16, 23) == 100 ? 1 : labels.at(16, 17) == 100 ? 2 : 3;
            due("it stands at", corner, () -> from);
            labels.mirror();
            due("the corner " + corner, want[corner], () -> labels.point(0, 5));
            int x = corner == 0 || corner == 3 ? 35 : 43;
            int y = corner == 0 || corner == 1 ? 23 : 17;
            due("its outer square", 100, () -> labels.at(x, y));
        }
        CornerLabels row = eight();
        for (int i = 0; i < 8; i++) {
            row.place(i, i % 4);
        }
        row.mirror();
        for (int i = 0; i < 8; i++) {
            int k = i;
            due("the corner of " + i + " of eight", want[i % 4], () -> row.point(k, 5));
        }
        CornerLabels dropped = map(p(20, 20, 4, 3, 5));
        dropped.mirror();
        due("dropped", NONE, () -> dropped.point(0, 5));
    }

    private static void mirrorReturns() {
        CHECK.says("Promise 10", "Returns how many labels stand.");
        due("without points", 0, () -> new CornerLabels().mirror());
        due("none", 0, () -> eight().mirror());
        due("one of three", 1, () -> placed(crowded(), 1, 0).mirror());
        CornerLabels all = eight();
        all.solve();
        due("eight", 8, all::mirror);
    }

    // ---- looks, and what would be

    private static void looksChangeNothing() {
        CHECK.says("The public face", "looks; nothing is changed / what would be; nothing is changed");
        for (int what = 0; what <= 8; what++) {
            int w = what;
            idle(CHECK, "point(0, " + what + ")", tight().point(0, what), Cases::tight, c -> c.point(0, w));
            idle(CHECK, "count(" + what + ")", tight().count(what), Cases::tight, c -> c.count(w));
        }
        idle(CHECK, "clash", tight().clash(0, 0, 1, 1), Cases::tight, c -> c.clash(0, 0, 1, 1));
        idle(CHECK, "at", 100, Cases::tight, c -> c.at(11, 21));
        idle(CHECK, "best", 2, Cases::tight, c -> c.best(0));
        idle(CHECK, "bestWeight", 5, Cases::tight, c -> c.bestWeight(NONE));
        idle(CHECK, "bestWeight without 1", 4, Cases::tight, c -> c.bestWeight(1));
        idle(CHECK, "ifPushed", 1, Cases::tight, c -> c.ifPushed(1));
        idle(CHECK, "ifPushed without a plan", NONE, Cases::tight, c -> c.ifPushed(0));
        idle(CHECK, "fullPlans", tight().fullPlans(), Cases::tight, c -> c.fullPlans());
        idle(CHECK, "dearest", 0, Cases::tight, c -> c.dearest());
        idle(CHECK, "standingShare", 0.2, Cases::tight, c -> c.standingShare());
        idle(CHECK, "digest", tight().digest(), Cases::tight, c -> c.digest());
        // nor do the answers that come depend on what was asked before
        CornerLabels asked = tight();
        askAll(asked);
        asked.drop(0);
        askAll(asked);
        asked.place(0, 2);
        for (int i = 1; i < 5; i++) {
            int k = i;
            asked.ifPushed(i);
            asked.bestWeight(i);
            due("room for " + i + ", none needs to move", 0, () -> asked.ifPushed(k));
        }
        due("after many looks", "" + placed(tight(), 0, 2).best(0) + placed(tight(), 0, 2).bestWeight(1),
                () -> "" + asked.best(0) + asked.bestWeight(1));
        asked.remove(4);
        asked.remove(3);
        askAll(asked);
        due("with two points less", digestOf(asked, ""), asked::digest);
    }

    private static void askAll(CornerLabels labels) {
        for (int i = 0; i < labels.count(0); i++) {
            labels.ifPushed(i);
            labels.best(i);
            labels.bestWeight(i);
        }
        labels.fullPlans();
        labels.dearest();
        labels.firstError();
    }

    // ---- Promise 16: point

    private static void pointCorner() {
        CHECK.says("Promise 16", "5: the corner at which it stands, NONE if it is dropped");
        due("dropped", NONE, () -> crowded().point(1, 5));
        for (int corner = 0; corner < 4; corner++) {
            int c = corner;
            due("it stands", corner, () -> placed(crowded(), 1, c).point(1, 5));
        }
    }

    private static void pointOpen() {
        CHECK.says("Promise 16", "6: the open corners, as a mask: bit k for the corner k");
        int[][] closing = {{33, 23}, {27, 23}, {27, 17}, {33, 17}};
        for (int mask = 0; mask <= 15; mask++) {
            CornerLabels labels = map(p(30, 20, 3, 3, 1));
            for (int corner = 0; corner < 4; corner++) {
                if ((mask >> corner & 1) == 0) {
                    labels.add(closing[corner][0], closing[corner][1], 1, 1, 1);
                }
            }
            due("the mask", mask, () -> labels.point(0, 6));
        }
    }

    private static void pointFree() {
        CHECK.says("Promise 16", "7: the corners that are open, and at which it would not clash"
                + " with labels of others that stand, as a mask");
        CornerLabels labels = map(p(30, 20, 3, 3, 1), p(36, 26, 3, 3, 1), p(24, 26, 3, 3, 1), p(24, 14, 3, 3, 1),
                p(36, 14, 3, 3, 1), p(31, 17, 1, 1, 1));
        int[] toMiddle = {NONE, 2, 3, 0, 1};
        due("all others dropped, the corner 3 closed", 7, () -> labels.point(0, 7));
        int[] want = {NONE, 6, 4, 0, 0};
        for (int i = 1; i <= 4; i++) {
            int k = i;
            labels.place(i, toMiddle[i]);
            due("with one label more in the way, " + i, want[k], () -> labels.point(0, 7));
        }
        due("open all the same", 7, () -> labels.point(0, 6));
        labels.drop(1);
        labels.place(0, 0);
        due("its own label is not in its way", 1, () -> labels.point(0, 7));
    }

    private static void pointWhat() {
        CHECK.says("Promise 16", "Throws IllegalArgumentException if what is not 0 to 8");
        for (int what = 0; what <= 8; what++) {
            int w = what;
            int[] want = {30, 20, 2, 2, 7, NONE, 15, 15, 0};
            due("what " + what, want[what], () -> crowded().point(1, w));
        }
        for (int what : new int[] {-1, 9, MOST, LEAST, 256}) {
            refused(CHECK, "what " + what, ARGUMENT, Cases::crowded, c -> c.point(1, what));
        }
    }

    // ---- Promise 17: clash

    private static void clashSquares() {
        CHECK.says("Promise 17", "Returns how many squares labels at these corners would have in common");
        CornerLabels labels = map(p(20, 20, 20, 9, 1), p(20, 10, 20, 9, 1), p(40, 20, 1, 1, 1), p(45, 30, 5, 3, 1));
        due("none, as the corners look away", 0, () -> labels.clash(0, 0, 1, 3));
        due("none, as they are side by side", 0, () -> labels.clash(0, 3, 1, 1));
        due("none, though they have columns in common", 0, () -> labels.clash(0, 0, 1, 0));
        due("nearly all", 180, () -> labels.clash(0, 3, 1, 0));
        due("the other way round", 180, () -> labels.clash(1, 0, 0, 3));
        due("one square", 1, () -> map(p(10, 10, 4, 3, 1), p(19, 16, 5, 3, 1)).clash(0, 0, 1, 2));
        due("none, a column beside it", 0, () -> map(p(10, 10, 4, 3, 1), p(20, 16, 5, 3, 1)).clash(0, 0, 1, 2));
        due("none, a row below it", 0, () -> map(p(10, 10, 4, 3, 1), p(19, 17, 5, 3, 1)).clash(0, 0, 1, 2));
        due("one within the other", 6, () -> map(p(10, 10, 20, 9, 1), p(15, 12, 3, 2, 1)).clash(0, 0, 1, 0));
    }

    private static void clashAnywhere() {
        CHECK.says("Promise 17", "(whether they are open, or on the map, does not matter)");
        CornerLabels top = map(p(0, 0, 20, 9, 1), p(1, 0, 20, 9, 1), p(59, 39, 20, 9, 1), p(58, 39, 20, 9, 1));
        due("both off the map, left and above", 19 * 9, () -> top.clash(0, 2, 1, 2));
        due("both off the map, above", 19 * 9, () -> top.clash(0, 3, 1, 3));
        due("both off the map, left", 19 * 9, () -> top.clash(0, 1, 1, 1));
        due("both off the map, right and below", 19 * 9, () -> top.clash(2, 0, 3, 0));
        due("partly off the map", 1, () -> map(p(0, 5, 2, 3, 1), p(1, 7, 2, 3, 1)).clash(0, 1, 1, 2));
        CornerLabels points = map(p(10, 10, 4, 4, 1), p(11, 11, 4, 4, 1), p(12, 12, 1, 1, 1));
        due("both with points on their squares", 9, () -> points.clash(0, 0, 1, 0));
        due("none of both is open", 0, () -> points.point(0, 6) & 1 | points.point(1, 6) & 1);
    }

    private static void clashThrows() {
        CHECK.says("Promise 17", "Throws IllegalArgumentException if both points are the same,"
                + " or a corner is out of range");
        for (int corner = 0; corner < 4; corner++) {
            int c = corner;
            refused(CHECK, "the same, corner " + corner, ARGUMENT, Cases::crowded, x -> x.clash(1, 0, 1, c));
            due("corner " + corner, 0, () -> crowded().clash(0, c, 1, c));
        }
        for (int corner : new int[] {-1, 4, MOST, LEAST}) {
            refused(CHECK, "corner " + corner, ARGUMENT, Cases::crowded, x -> x.clash(0, corner, 1, 0));
            refused(CHECK, "the other corner " + corner, ARGUMENT, Cases::crowded, x -> x.clash(0, 0, 1, corner));
        }
        due("the last two of eight", 0, () -> eight().clash(6, 0, 7, 0));
    }

    // ---- Promise 18: at

    private static void atPoint() {
        CHECK.says("Promise 18", "Returns the number of the point that stands there");
        for (int i = 0; i < 8; i++) {
            int k = i;
            due("the point " + i, i, () -> eight().at(5 + 5 * k, 5));
        }
        CornerLabels corners = map(p(0, 0, 1, 1, 1), p(59, 0, 1, 1, 1), p(0, 39, 1, 1, 1), p(59, 39, 1, 1, 1));
        due("0, 0", 0, () -> corners.at(0, 0));
        due("59, 0", 1, () -> corners.at(59, 0));
        due("0, 39", 2, () -> corners.at(0, 39));
        due("59, 39", 3, () -> corners.at(59, 39));
    }

    private static void atLabel() {
        CHECK.says("Promise 18", "the number of the point whose label has the square, plus 100");
        CornerLabels labels = eight();
        labels.solve();
        for (int i = 0; i < 8; i++) {
            int k = i;
            due("the label of " + i, 100 + i, () -> labels.at(6 + 5 * k, 6));
        }
        CornerLabels corners = map(p(1, 1, 1, 1, 1), p(58, 1, 1, 1, 1), p(1, 38, 1, 1, 1), p(58, 38, 1, 1, 1));
        int[] to = {2, 3, 1, 0};
        int[][] squares = {{0, 0}, {59, 0}, {0, 39}, {59, 39}};
        for (int i = 0; i < 4; i++) {
            int[] square = squares[i];
            corners.place(i, to[i]);
            due("at " + square[0] + ", " + square[1], 100 + i, () -> corners.at(square[0], square[1]));
        }
        labels.drop(3);
        due("dropped", NONE, () -> labels.at(21, 6));
    }

    private static void atNothing() {
        CHECK.says("Promise 18", "NONE if there is nothing");
        CornerLabels labels = placed(map(p(30, 20, 5, 3, 1)), 0, 0);
        int[][] squares = {{30, 21}, {31, 20}, {36, 21}, {31, 24}, {35, 24}, {36, 23}, {29, 19}, {0, 0}, {59, 39}};
        for (int[] square : squares) {
            due("at " + square[0] + ", " + square[1], NONE, () -> labels.at(square[0], square[1]));
        }
        due("on an empty map", NONE, () -> new CornerLabels().at(59, 0));
        due("where a point was removed", NONE, () -> {
            CornerLabels gone = placed(map(p(30, 20, 5, 3, 1)), 0, 0);
            gone.remove(0);
            return gone.at(30, 20);
        });
    }

    private static void atThrows() {
        CHECK.says("Promise 18", "Throws IllegalArgumentException if x or y is out of range");
        int[][] wrong = {{-1, 0}, {60, 0}, {0, -1}, {0, 40}, {-1, -1}, {60, 40}, {MOST, 0}, {LEAST, 0}, {0, MOST},
            {0, LEAST}};
        for (int[] square : wrong) {
            refused(CHECK, "at " + square[0] + ", " + square[1], ARGUMENT, Cases::tight,
                    x -> x.at(square[0], square[1]));
        }
        due("40 columns are not all", NONE, () -> new CornerLabels().at(40, 39));
    }

    // ---- Promise 19: count

    private static void countNumbers() {
        CHECK.says("Promise 19", "0: points; 1: labels that stand; 2: their weight together; 3: the weight of those"
                + " that are dropped; 4: the squares of all labels that stand; 5: points without an open corner;"
                + " 8: saved states (empty, and full)");
        int[] empty = {0, 0, 0, 0, 0, 0, 0, 0, 0};
        int[] closed = {8, 0, 0, 36, 0, 8, 0, 4, 2};
        int[] eight = {8, 0, 0, 36, 0, 0, 7, 28, 6};
        int[] solved = {8, 8, 36, 0, 8, 0, 7, 0, 6};
        for (int what = 0; what <= 8; what++) {
            int w = what;
            due("empty, count(" + what + ")", empty[what], () -> new CornerLabels().count(w));
            if (what != 6 && what != 7) {
                due("closed, count(" + what + ")", closed[what], () -> closed().count(w));
                due("eight, count(" + what + ")", eight[what], () -> eight().count(w));
                CornerLabels stand = eight();
                stand.solve();
                due("eight that stand, count(" + what + ")", solved[what], () -> stand.count(w));
            }
        }
        // the last point has no open corner, and stands behind all others when it is removed
        CornerLabels gone = map(p(1, 1, 1, 1, 1), p(0, 0, 2, 2, 9));
        due("without an open corner", 1, () -> gone.count(5));
        gone.remove(1);
        int[] left = {1, 0, 0, 1, 0, 0, 0, 0, 3};
        for (int what = 0; what <= 8; what++) {
            int w = what;
            due("after a point is removed, count(" + what + ")", left[what], () -> gone.count(w));
        }
        CornerLabels largest = placed(map(p(20, 20, 20, 9, 99), p(59, 39, 20, 9, 99)), 0, 0);
        due("the squares of one of the largest labels", 180, () -> largest.count(4));
        due("its weight", 99, () -> largest.count(2));
        due("the weight of the other one", 99, () -> largest.count(3));
    }

    private static void countPairs() {
        CHECK.says("Promise 19", "6: pairs of points some of whose open corners clash");
        due("one point", 0, () -> map(p(30, 20, 3, 3, 1)).count(6));
        due("one square in common", 1, () -> map(p(10, 10, 4, 3, 1), p(19, 10, 5, 3, 1)).count(6));
        due("none, a column beside it", 0, () -> map(p(10, 10, 4, 3, 1), p(20, 10, 5, 3, 1)).count(6));
        due("none, as these corners of the latter are closed", 0,
                () -> map(p(10, 10, 4, 3, 1), p(19, 10, 5, 3, 1), p(18, 13, 1, 1, 1), p(18, 8, 1, 1, 1)).count(6));
        due("none without open corners", 0, () -> closed().count(6));
        CornerLabels all = new CornerLabels();
        for (int i = 0; i < 8; i++) {
            all.add(26 + i, 20, 20, 9, 1);
        }
        due("all pairs of eight", 28, () -> all.count(6));
        all.solve();
        due("whether they stand does not matter", 28, () -> all.count(6));
        due("eight, each with the next one", 0, () -> eight().count(6));
    }

    private static void countCrossed() {
        CHECK.says("Promise 19", "7: what the leaders of all points without a label cross, together");
        due("eight in a row", 28, () -> eight().count(7));
        CornerLabels solved = eight();
        solved.solve();
        due("all have a label", 0, () -> solved.count(7));
        solved.drop(0);
        due("one has none", 7, () -> solved.count(7));
        solved.drop(7);
        due("the last one crosses nothing", 7, () -> solved.count(7));
        CornerLabels label = placed(map(p(30, 20, 5, 3, 1), p(10, 21, 1, 1, 1), p(10, 22, 1, 1, 1)), 0, 0);
        due("a label that two cross", 2, () -> label.count(7));
    }

    private static void countWhat() {
        CHECK.says("Promise 19", "Throws IllegalArgumentException if what is not 0 to 8");
        due("what 0", 3, () -> crowded().count(0));
        due("what 8", 3, () -> crowded().count(8));
        for (int what : new int[] {-1, 9, MOST, LEAST, 256}) {
            refused(CHECK, "what " + what, ARGUMENT, Cases::crowded, c -> c.count(what));
        }
    }

    // ---- Promise 20: best

    private static void bestDropped() {
        CHECK.says("Promise 20", "Returns the corner that the best plan tells for it; NONE for dropped.");
        due("stands", 0, () -> crowded().best(0));
        due("dropped", NONE, () -> crowded().best(2));
        due("without an open corner", NONE, () -> closed().best(7));
        due("the corner 3 alone", 3, () -> map(p(0, 39, 5, 5, 1)).best(0));
        due("the corner 2 alone", 2, () -> map(p(59, 39, 5, 5, 1)).best(0));
        due("the corner 1 alone", 1, () -> map(p(59, 0, 5, 5, 1)).best(0));
        CornerLabels labels = placed(crowded(), 2, 0);
        due("it would be dropped", NONE, () -> labels.best(2));
        due("it still stands", 0, () -> labels.point(2, 5));
    }

    // ---- Promise 21: bestWeight

    private static void weightWithout() {
        CHECK.says("Promise 21", "without: the number of a point that stays dropped in all plans that are looked at,"
                + " or NONE for none");
        due("none, without points", 0, () -> new CornerLabels().bestWeight(NONE));
        due("the only one", 0, () -> map(p(30, 20, 3, 3, 99)).bestWeight(0));
        due("none, one point", 99, () -> map(p(30, 20, 3, 3, 99)).bestWeight(NONE));
        for (int i = 0; i < 8; i++) {
            int k = i;
            due("eight without " + i, 36 - (i + 1), () -> eight().bestWeight(k));
        }
        due("eight", 36, () -> eight().bestWeight(NONE));
        due("without one that stands", 12, () -> placed(crowded(), 0, 0).bestWeight(0));
        due("without the one in the way another one stands", 12, () -> crowded().bestWeight(0));
        due("the corner that it closes stays closed", 9,
                () -> map(p(30, 20, 1, 1, 9), p(0, 0, 1, 1, 2), p(1, 1, 1, 1, 9)).bestWeight(2));
    }

    private static void weightThrows() {
        CHECK.says("Promise 21", "Throws IndexOutOfBoundsException if there is no such point"
                + " (and without is not NONE)");
        due("NONE", 12, () -> crowded().bestWeight(NONE));
        refused(CHECK, "0 on an empty map", INDEX, CornerLabels::new, x -> x.bestWeight(0));
        for (int number : new int[] {-2, 3, 8, MOST, LEAST, 100}) {
            refused(CHECK, "without " + number, INDEX, Cases::crowded, x -> x.bestWeight(number));
        }
        refused(CHECK, "8 of 8", INDEX, Cases::eight, x -> x.bestWeight(8));
    }

    // ---- Promise 22: ifPushed

    private static void wouldPush() {
        CHECK.says("Promise 22", "Returns what push() would return");
        due("none would move", 0, () -> crowded().ifPushed(0));
        due("one would move", 1, () -> tight().ifPushed(1));
        CornerLabels labels = tight();
        for (int i = 1; i < 5; i++) {
            int k = i;
            int would = labels.ifPushed(i);
            due("push of " + i, would, () -> labels.push(k));
        }
        due("all stand", 5, () -> labels.count(1));
    }

    private static void wouldThrow() {
        CHECK.says("Promise 22", "NONE if it would throw an exception");
        due("it stands", NONE, () -> tight().ifPushed(0));
        due("no open corner", NONE, () -> closed().ifPushed(4));
        due("no room beside what stands", NONE, () -> placed(crowded(), 0, 0).ifPushed(2));
        due("room, if the other one is dropped", 0, () -> crowded().ifPushed(2));
    }

    // ---- Promise 23: fullPlans

    private static void fullPlans() {
        CHECK.says("Promise 23", "how many plans there are in which the label of each point with an open corner stands,"
                + " and all others are dropped");
        due("one with all corners", 4, () -> map(p(30, 20, 3, 3, 1)).fullPlans());
        due("no room for all", 0, () -> crowded().fullPlans());
        due("one open, one closed", 3, () -> map(p(0, 0, 2, 2, 1), p(1, 1, 1, 1, 1)).fullPlans());
        CornerLabels most = new CornerLabels();
        for (int i = 0; i < 8; i++) {
            most.add(4 + 7 * i, 20, 3, 3, 1);
        }
        due("eight with all corners", 65536, most::fullPlans);
        most.solve();
        due("whether they stand does not matter", 65536, most::fullPlans);
        due("side by side: two corners each that clash", 14,
                () -> map(p(30, 20, 3, 3, 1), p(34, 20, 3, 3, 1)).fullPlans());
    }

    private static void fullPlansOne() {
        CHECK.says("Promise 23", "(1, if no point has one)");
        due("without points", 1, () -> new CornerLabels().fullPlans());
        due("eight without an open corner", 1, () -> closed().fullPlans());
        CornerLabels gone = closed();
        for (int i = 0; i < 8; i++) {
            gone.remove(0);
        }
        due("all removed", 1, gone::fullPlans);
    }

    // ---- Promise 24: dearest

    private static void dearestSum() {
        CHECK.says("Promise 24", "the point with the greatest sum of its own weight and bestWeight() without it");
        // 10 + 9, 9 + 10, 8 + 19: the third has no open corner, and costs its weight
        CornerLabels labels = map(p(30, 20, 1, 1, 10), p(40, 20, 1, 1, 9), p(0, 39, 20, 9, 8), p(1, 38, 1, 1, 1));
        due("one that cannot stand", 2, labels::dearest);
        labels.weigh(2, 99);
        due("a heavy one that cannot stand", 2, labels::dearest);
        // 5 + 7 + 6, 7 + 6, 6 + 7 + 5
        CornerLabels ways = crowded();
        ways.weigh(2, 6);
        due("two in the way of each other: both as much", 0, ways::dearest);
        ways.weigh(1, 99);
        due("a heavy one that is in nobody's way costs nothing", 0, ways::dearest);
    }

    private static void dearestLowest() {
        CHECK.says("Promise 24", "of several the lowest one");
        due("eight as much", 0, () -> eight().dearest());
        due("one", 0, () -> map(p(30, 20, 1, 1, 1)).dearest());
        due("the two latter ones as much, and more than the first", 1,
                () -> map(p(30, 20, 2, 2, 7), p(0, 0, 6, 3, 5), p(1, 0, 6, 3, 5)).dearest());
        due("the last one alone", 7, () -> closed().dearest());
    }

    private static void dearestNone() {
        CHECK.says("Promise 24", "NONE without points");
        due("new", NONE, () -> new CornerLabels().dearest());
        CornerLabels gone = map(p(30, 20, 1, 1, 99));
        gone.remove(0);
        due("the only one is removed", NONE, gone::dearest);
    }

    // ---- Promise 25: standingShare

    private static void shareDivided() {
        CHECK.says("Promise 25", "Returns the weight of labels that stand, as a double, divided by that of all");
        due("none stands", 0.0, () -> crowded().standingShare());
        due("all stand", 1.0, () -> placed(map(p(30, 20, 1, 1, 3)), 0, 0).standingShare());
        due("a third", 1.0 / 3.0, () -> placed(map(p(30, 20, 1, 1, 1), p(40, 20, 1, 1, 2)), 0, 0).standingShare());
        CornerLabels most = new CornerLabels();
        for (int i = 0; i < 8; i++) {
            most.add(5 + 5 * i, 20, 1, 1, i == 0 ? 1 : 99);
        }
        most.place(0, 0);
        due("the least that can be", 1.0 / 694.0, most::standingShare);
        most.solve();
        due("eight of eight", 1.0, most::standingShare);
        most.drop(0);
        due("the most but all", 693.0 / 694.0, most::standingShare);
        due("without an open corner", 0.0, () -> closed().standingShare());
    }

    private static void shareOne() {
        CHECK.says("Promise 25", "1.0 without points");
        due("new", 1.0, () -> new CornerLabels().standingShare());
        CornerLabels gone = map(p(30, 20, 1, 1, 99));
        gone.remove(0);
        due("the only one is removed", 1.0, gone::standingShare);
    }

    // ---- Promise 26: digest

    /** The hash of the values in whole numbers of any size, cut to 64 bits at the end. */
    private static long hashOf(long... values) {
        BigInteger hash = BigInteger.valueOf(2833);
        for (long value : values) {
            hash = hash.multiply(BigInteger.valueOf(31)).add(BigInteger.valueOf(value));
        }
        return hash.longValue();
    }

    private static long bits(double share) {
        return Double.doubleToLongBits(share);
    }

    private static void hashOverflows() {
        CHECK.says("Promise 26", "the hash becomes 31 * hash + v, in long arithmetic with overflow");
        // one point, 30, 20, with a label of 3 x 2 squares and the weight 7, at the corner 2
        long want = hashOf(1, 1, 7, 0, 6, 0, 0, 0, 2,
                30, 20, 3, 2, 7, 2, 15, 15, 0, 0, 0, NONE,
                7, 4, 0, bits(1.0), 0);
        due("one point", want, () -> placed(map(p(30, 20, 3, 2, 7)), 0, 2).digest());
        long text = hashOf(1, 1, 7, 0, 6, 0, 0, 0, 2,
                30, 20, 3, 2, 7, 2, 15, 15, 0, 0, 0, NONE,
                7, 4, 0, bits(1.0), 3, '1', ',', '~');
        due("one point and a text", text, () -> type(placed(map(p(30, 20, 3, 2, 7)), 0, 2), "1,~").digest());
    }

    private static void hashStart() {
        CHECK.says("Promise 26", "The hash starts at 2833. (without points, with an empty buffer)");
        long want = hashOf(0, 0, 0, 0, 0, 0, 0, 0, 0, 0, 1, NONE, bits(1.0), 0);
        due("new", want, () -> new CornerLabels().digest());
        CornerLabels gone = map(p(30, 20, 1, 1, 99));
        gone.undo();
        due("all undone", want, gone::digest);
    }

    private static void hashOfNone() {
        CHECK.says("Promise 26", "For each value v of the following list (NONE too)");
        long want = hashOf(1, 0, 0, 7, 0, 0, 0, 0, 1,
                30, 20, 3, 2, 7, NONE, 15, 15, 0, 0, 0, 0,
                7, 4, 0, bits(0.0), 0);
        due("a dropped label", want, () -> map(p(30, 20, 3, 2, 7)).digest());
    }

    private static void hashPairs() {
        CHECK.says("Promise 26", "for each pair of points, the former one lower, by the former and then the latter one,"
                + " the clash of their corners 0 and 0, and of 0 and 1");
        // 0 and 2 stand in the left upper corner of the map; 1 is far off
        long want = hashOf(3, 1, 5, 12, 18, 0, 1, 0, 4,
                0, 0, 6, 3, 5, 0, 1, 1, 1, 0, 12, NONE,
                30, 20, 2, 2, 7, NONE, 15, 15, 0, 0, 5, 0,
                1, 0, 6, 3, 5, NONE, 1, 0, 0, NONE, 12, NONE,
                0, 0, 15, 0, 0, 0,
                12, 0, 0, bits(5.0 / 17.0), 0);
        due("three points, of which 0 and 2 clash", want, () -> placed(crowded(), 0, 0).digest());
        CornerLabels unlike = map(p(20, 20, 4, 3, 1), p(26, 20, 5, 3, 2), p(22, 22, 6, 4, 3));
        int[][] clashes = {{0, 1, 0, 12}, {0, 2, 2, 1}, {1, 2, 2, 0}};
        for (int[] c : clashes) {
            due(c[0] + " and " + c[1] + ", the corners 0 and 0", c[2], () -> unlike.clash(c[0], 0, c[1], 0));
            due(c[0] + " and " + c[1] + ", the corners 0 and 1", c[3], () -> unlike.clash(c[0], 0, c[1], 1));
        }
        due("three points with unlike clashes", digestOf(unlike, ""), unlike::digest);
        CornerLabels closed = closed();
        due("the 28 pairs of eight", digestOf(closed, ""), closed::digest);
        due("one point has no pair", digestOf(map(p(9, 9, 9, 9, 9)), ""), () -> map(p(9, 9, 9, 9, 9)).digest());
    }

    private static void hashShare() {
        CHECK.says("Promise 26", "the bits of standingShare (as Double.doubleToLongBits)");
        for (int weight = 1; weight <= 99; weight++) {
            int w = weight;
            CornerLabels labels = placed(map(p(30, 20, 3, 2, weight), p(50, 10, 3, 2, 99)), 0, 0);
            long want = hashOf(2, 1, w, 99, 6, 0, 0, 0, 3,
                    30, 20, 3, 2, w, 0, 15, 15, 0, 0, 99, NONE,
                    50, 10, 3, 2, 99, NONE, 15, 15, 0, 0, w, 0,
                    0, 0,
                    99 + w, 16, 0, bits(w / (99.0 + w)), 0);
            due("a share of " + weight + " to 99", want, labels::digest);
        }
    }

    private static void hashBuffer() {
        CHECK.says("Promise 26", "the length of the buffer and each of its character codes");
        for (int length : new int[] {0, 1, 59, 60}) {
            long[] values = new long[14 + length];
            values[10] = 1;
            values[11] = NONE;
            values[12] = bits(1.0);
            values[13] = length;
            StringBuilder text = new StringBuilder();
            for (int i = 0; i < length; i++) {
                char sign = (char) (i % 2 == 0 ? 33 + i : 126 - i);
                text.append(sign);
                values[14 + i] = sign;
            }
            due("a buffer of " + length, hashOf(values), () -> typed(text.toString()).digest());
        }
        CornerLabels cleared = typed("123");
        cleared.clearBuffer();
        cleared.append('9');
        due("what was cleared is not told", typed("9").digest(), cleared::digest);
    }
}
