/** Hand-made cases for each promise of the document, by its number. */
public final class PromiseTests extends Cases {
    private static final Check CHECK = new Check("PromiseTests");

    public static void main(String[] args) {
        newObject();
        add();
        addDropsCovered();
        remove();
        weigh();
        resize();
        place();
        drop();
        solve();
        push();
        mirror();
        append();
        clearBuffer();
        firstError();
        read();
        undo();
        undoLimit();
        point();
        leader();
        clash();
        at();
        count();
        best();
        bestWeight();
        ifPushed();
        fullPlans();
        dearest();
        standingShare();
        digest();
        CHECK.end();
    }

    private static void due(String call, Object want, Check.Call code) {
        CHECK.due(call, want, code);
    }

    private static void newObject() {
        CornerLabels labels = new CornerLabels();
        due("1: NONE", -1, () -> CornerLabels.NONE);
        for (int what = 0; what <= 8; what++) {
            int w = what;
            due("1: count(" + what + ")", 0, () -> labels.count(w));
        }
        due("1: clearBuffer", 0, labels::clearBuffer);
        due("1: undo", STATE, labels::undo);
        due("1: point", INDEX, () -> labels.point(0, 0));
    }

    private static void add() {
        CornerLabels labels = new CornerLabels();
        int[][] wrong = {p(-1, 0, 1, 1, 1), p(60, 0, 1, 1, 1), p(0, -1, 1, 1, 1), p(0, 40, 1, 1, 1),
            p(0, 0, 0, 1, 1), p(0, 0, 21, 1, 1), p(0, 0, 1, 0, 1), p(0, 0, 1, 10, 1), p(0, 0, 1, 1, 0),
            p(0, 0, 1, 1, 100), p(Integer.MIN_VALUE, Integer.MAX_VALUE, 1, 1, 1)};
        for (int[] w : wrong) {
            due("2: add out of range", ARGUMENT, () -> labels.add(w[0], w[1], w[2], w[3], w[4]));
        }
        due("2: nothing is saved by a throw", 0, () -> labels.count(8));
        due("2: first", 0, () -> labels.add(0, 0, 20, 9, 99));
        due("2: last square", 1, () -> labels.add(59, 39, 1, 1, 1));
        due("2: one stands there", STATE, () -> labels.add(59, 39, 1, 1, 1));
        due("2: the argument is ahead of the state", ARGUMENT, () -> labels.add(59, 39, 1, 1, 100));
        due("2: dropped", -1, () -> labels.point(0, 5));
        due("2: x", 59, () -> labels.point(1, 0));
        for (int i = 2; i < 8; i++) {
            int k = i;
            due("2: number " + i, i, () -> labels.add(k, 20, 1, 1, 1));
        }
        due("2: a ninth", STATE, () -> labels.add(30, 30, 1, 1, 1));
        due("2: a ninth out of range", ARGUMENT, () -> labels.add(60, 30, 1, 1, 1));
        due("2: eight saved, six kept", 6, () -> labels.count(8));
    }

    private static void addDropsCovered() {
        CornerLabels labels = map(p(10, 10, 5, 2, 3), p(30, 10, 2, 2, 4));
        labels.place(0, 0);
        labels.place(1, 0);
        due("2: beside the label", 2, () -> labels.add(16, 12, 1, 1, 1));
        due("2: still stands", 0, () -> labels.point(0, 5));
        due("2: under the label", 3, () -> labels.add(15, 12, 1, 1, 1));
        due("2: is dropped", -1, () -> labels.point(0, 5));
        due("2: the other stands", 0, () -> labels.point(1, 5));
        due("2: corner 0 is closed", 14, () -> labels.point(0, 6));
        labels.undo();
        due("2: undone", 0, () -> labels.point(0, 5));
    }

    private static void remove() {
        CornerLabels labels = map(p(10, 10, 5, 2, 3), p(12, 11, 1, 1, 4), p(14, 12, 9, 1, 5));
        due("3: no such point", INDEX, () -> labels.remove(3));
        due("3: no such point", INDEX, () -> labels.remove(-1));
        // corner 0 of point 0 is closed by both others, corner 2 of point 2 by point 1
        due("3: the open corners of 0", 14, () -> labels.point(0, 6));
        due("3: the open corners of 2", 11, () -> labels.point(2, 6));
        due("3: opened", 1, () -> labels.remove(1));
        due("3: the latter has moved up", 14, () -> labels.point(1, 0));
        due("3: its weight too", 5, () -> labels.point(1, 4));
        due("3: points", 2, () -> labels.count(0));
        due("3: opened", 1, () -> labels.remove(1));
        due("3: none is opened", 0, () -> labels.remove(0));
        due("3: none is left", INDEX, () -> labels.remove(0));
        labels.undo();
        labels.undo();
        due("3: undone", 14, () -> labels.point(1, 0));
    }

    private static void weigh() {
        CornerLabels labels = map(p(10, 10, 5, 2, 3));
        due("4: no such point", INDEX, () -> labels.weigh(1, 0));
        due("4: too light", ARGUMENT, () -> labels.weigh(0, 0));
        due("4: too heavy", ARGUMENT, () -> labels.weigh(0, 100));
        due("4: previous", 3, () -> labels.weigh(0, 99));
        due("4: previous", 99, () -> labels.weigh(0, 1));
        due("4: the same", 1, () -> labels.weigh(0, 1));
        due("4: saved", 4, () -> labels.count(8));
        due("4: weight", 1, () -> labels.point(0, 4));
    }

    private static void resize() {
        CornerLabels labels = map(p(20, 9, 5, 2, 3));
        labels.place(0, 1);
        due("5: no such point", INDEX, () -> labels.resize(1, 0, 0));
        due("5: width", ARGUMENT, () -> labels.resize(0, 21, 1));
        due("5: width", ARGUMENT, () -> labels.resize(0, 0, 1));
        due("5: height", ARGUMENT, () -> labels.resize(0, 1, 10));
        due("5: height", ARGUMENT, () -> labels.resize(0, 1, 0));
        due("5: stands yet", 1, () -> labels.point(0, 5));
        due("5: all open", 4, () -> labels.resize(0, 20, 9));
        due("5: saved", 3, () -> labels.count(8));
        due("5: dropped", -1, () -> labels.point(0, 5));
        due("5: width", 20, () -> labels.point(0, 2));
        due("5: height", 9, () -> labels.point(0, 3));
        labels.add(21, 8, 1, 1, 1);
        labels.add(19, 10, 1, 1, 1);
        due("5: two open", 2, () -> labels.resize(0, 1, 1));
        due("5: which", 5, () -> labels.point(0, 6));
    }

    private static void place() {
        CornerLabels labels = map(p(0, 0, 5, 2, 3), p(8, 3, 4, 3, 2), p(50, 30, 10, 9, 1));
        due("6: no such point", INDEX, () -> labels.place(3, 9));
        due("6: no such corner", ARGUMENT, () -> labels.place(0, 4));
        due("6: no such corner", ARGUMENT, () -> labels.place(0, -1));
        due("6: off the map", STATE, () -> labels.place(0, 1));
        due("6: off the map", STATE, () -> labels.place(0, 2));
        due("6: off the map", STATE, () -> labels.place(0, 3));
        due("6: off the map by a column", STATE, () -> labels.place(2, 0));
        due("6: saved", 3, () -> labels.count(8));
        due("6: was dropped", -1, () -> labels.place(0, 0));
        due("6: clashes", STATE, () -> labels.place(1, 2));
        due("6: beside it", -1, () -> labels.place(1, 1));
        due("6: where it stands", 1, () -> labels.place(1, 1));
        due("6: over itself", 1, () -> labels.place(1, 0));
        due("6: its own square", 0, () -> labels.point(1, 5));
    }

    private static void drop() {
        CornerLabels labels = map(p(10, 10, 5, 2, 3));
        labels.place(0, 3);
        due("7: no such point", INDEX, () -> labels.drop(1));
        due("7: stood", 3, () -> labels.drop(0));
        due("7: dropped", -1, () -> labels.drop(0));
        due("7: saved", 4, () -> labels.count(8));
        due("7: undone", 3, labels::undo);
        due("7: undone", -1, () -> labels.point(0, 5));
    }

    private static void solve() {
        CornerLabels labels = crowded();
        labels.place(2, 0);
        due("8: the first of two as heavy", 12, labels::solve);
        due("8: stands", 0, () -> labels.point(0, 5));
        due("8: lowest corner", 0, () -> labels.point(1, 5));
        due("8: is dropped", -1, () -> labels.point(2, 5));
        labels.weigh(2, 6);
        due("8: the heavier one", 13, labels::solve);
        due("8: is dropped", -1, () -> labels.point(0, 5));
        due("8: stands", 0, () -> labels.point(2, 5));
        due("8: without points", 0, () -> new CornerLabels().solve());
        labels.undo();
        due("8: undone", 0, () -> labels.point(0, 5));
    }

    private static void push() {
        CornerLabels labels = tight();
        due("9: no such point", INDEX, () -> labels.push(5));
        due("9: it stands", STATE, () -> labels.push(0));
        due("9: one corner", 2, () -> labels.point(1, 6));
        due("9: none is free", 0, () -> labels.point(1, 7));
        due("9: saved", 6, () -> labels.count(8));
        due("9: one moves", 1, () -> labels.push(1));
        due("9: to the first corner with room", 2, () -> labels.point(0, 5));
        due("9: stands", 1, () -> labels.point(1, 5));
        due("9: the others do not", 2, () -> labels.count(1));
        labels.undo();
        due("9: undone", 0, () -> labels.point(0, 5));
        CornerLabels stuck = crowded();
        stuck.place(0, 0);
        due("9: no such plan", STATE, () -> stuck.push(2));
        due("9: nothing changed", 4, () -> stuck.count(8));
        due("9: none moves", 0, () -> stuck.push(1));
        due("9: at the first corner", 0, () -> stuck.point(1, 5));
    }

    private static void mirror() {
        CornerLabels labels = map(p(0, 0, 6, 3, 5), p(30, 20, 2, 2, 7), p(30, 10, 2, 2, 7), p(3, 39, 2, 2, 7));
        labels.place(0, 0);
        labels.place(1, 2);
        labels.place(2, 3);
        due("10: standing", 3, labels::mirror);
        due("10: x", 59, () -> labels.point(0, 0));
        due("10: y", 0, () -> labels.point(0, 1));
        due("10: corner 0", 1, () -> labels.point(0, 5));
        due("10: corner 2", 3, () -> labels.point(1, 5));
        due("10: corner 3", 2, () -> labels.point(2, 5));
        due("10: dropped", -1, () -> labels.point(3, 5));
        due("10: x", 56, () -> labels.point(3, 0));
        due("10: back", 3, labels::mirror);
        due("10: x", 0, () -> labels.point(0, 0));
        due("10: without points", 0, () -> new CornerLabels().mirror());
        labels.undo();
        due("10: undone", 59, () -> labels.point(0, 0));
    }

    private static void append() {
        CornerLabels labels = new CornerLabels();
        due("11: too low", ARGUMENT, () -> labels.append(32));
        due("11: too high", ARGUMENT, () -> labels.append(127));
        due("11: lowest", 1, () -> labels.append(33));
        due("11: highest", 2, () -> labels.append(126));
        for (int length = 3; length <= 60; length++) {
            due("11: length", length, () -> labels.append('0'));
        }
        due("11: full", STATE, () -> labels.append('0'));
        due("11: full, and too high", ARGUMENT, () -> labels.append(127));
        due("11: nothing is saved", 0, () -> labels.count(8));
    }

    private static void clearBuffer() {
        CornerLabels labels = new CornerLabels();
        type(labels, "0,0");
        due("12: length", 3, labels::clearBuffer);
        due("12: empty", 0, labels::clearBuffer);
        due("12: from the start", 1, () -> labels.append('1'));
    }

    private static void firstError() {
        CornerLabels labels = new CornerLabels();
        String[] good = {"", "0", "59", "5", "6", "0,39:20x9*99", "0,0:1x1;", "9,9:9x9*9;1", "1,2:3x4*5;6,7:8x9"};
        for (String text : good) {
            type(labels, text);
            due("13: " + text, text.length(), labels::firstError);
        }
        // the error is marked by a blank behind it, which is taken away
        String[] bad = {"a", "-", ",", "00", "60", "7 0", "01", "590", "5,4 0", "5,40", "5,00", "5,399", "5:",
            "5,:", "5,5,", "5,5:0", "5,5:21", "5,5:30", "5,5:200", "5,5:1X", "5,5:1x0", "5,5:1x10", "5,5:1x1,",
            "5,5:1x1x", "5,5:1x1*0", "5,5:1x1*100", "5,5:1x1*5*", "5,5:1x1*;", "5,5:1x1;;", "5,5;", "5,5:1*",
            "5,5:1x;", ";", "5,5:x", "5,5:1x1*5,"};
        for (String text : bad) {
            String typed = text.replace(" ", "");
            type(labels, typed);
            due("13: " + typed, typed.length() - 1, labels::firstError);
        }
        type(labels, "5,5:1y1;z");
        due("13: the first of two", 5, labels::firstError);
        type(labels, "0,0:1x1;0,0:1x1;0,0:1x1;0,0:1x1;0,0:1x1;0,0:1x1;0,0:1x1;0,0:");
        due("13: as long as the buffer", 60, labels::firstError);
        due("13: the buffer stays", 60, labels::clearBuffer);
    }

    private static void read() {
        CornerLabels labels = new CornerLabels();
        String[] bad = {"", "1", "1,1:1x", "1,1:1x1;", "1,1:1x1*", "1,1", "1,1:1x1;a", "1,1:1x10"};
        for (String text : bad) {
            type(labels, text);
            due("14: " + text, ARGUMENT, labels::read);
            due("14: the buffer stays", text.length(), labels::clearBuffer);
        }
        due("14: nothing saved", 0, () -> labels.count(8));
        type(labels, "10,11:12x3*45;59,39:20x9;1,1:1x1*1");
        due("14: three", 3, labels::read);
        due("14: cleared", 0, labels::clearBuffer);
        int[][] want = {{10, 11, 12, 3, 45, -1}, {59, 39, 20, 9, 1, -1}, {1, 1, 1, 1, 1, -1}};
        for (int i = 0; i < 18; i++) {
            int k = i;
            due("14: property " + i, want[i / 6][i % 6], () -> labels.point(k / 6, k % 6));
        }
        due("14: saved as one call", 1, () -> labels.count(8));
        type(labels, "2,2:1x1;1,1:1x1;3,3:1x1");
        due("14: up to the taken square", 1, labels::read);
        due("14: points", 4, () -> labels.count(0));
        type(labels, "2,2:1x1");
        due("14: none", 0, labels::read);
        due("14: cleared all the same", 0, labels::clearBuffer);
        due("14: saved all the same", 3, () -> labels.count(8));
        type(labels, "4,4:1x1;5,5:1x1;6,6:1x1;7,7:1x1;8,8:1x1");
        due("14: up to the eighth", 4, labels::read);
        labels.undo();
        due("14: undone as one call", 4, () -> labels.count(0));
        due("14: the buffer is not restored", 0, labels::clearBuffer);
        CornerLabels covered = map(p(10, 10, 3, 3, 3));
        covered.place(0, 0);
        type(covered, "12,12:1x1;12,12:1x1");
        due("14: twice the same", 1, covered::read);
        due("14: drops a label as add() does", -1, () -> covered.point(0, 5));
    }

    private static void undo() {
        CornerLabels labels = map(p(10, 10, 5, 2, 3));
        due("15: left", 0, labels::undo);
        due("15: no point", 0, () -> labels.count(0));
        due("15: none", STATE, labels::undo);
        labels.mirror();
        labels.solve();
        due("15: saved though nothing changed", 2, () -> labels.count(8));
        due("15: left", 1, labels::undo);
        labels.append('7');
        due("15: left", 0, labels::undo);
        due("15: the buffer is not restored", 1, labels::clearBuffer);
    }

    private static void undoLimit() {
        CornerLabels labels = map(p(10, 10, 5, 2, 1));
        for (int weight = 2; weight <= 9; weight++) {
            labels.weigh(0, weight);
        }
        due("15: at most six", 6, () -> labels.count(8));
        for (int weight = 8; weight >= 3; weight--) {
            due("15: left", weight - 3, labels::undo);
            due("15: weight", weight, () -> labels.point(0, 4));
        }
        due("15: the oldest are dropped", STATE, labels::undo);
    }

    private static void point() {
        CornerLabels labels = map(p(10, 10, 5, 2, 3), p(17, 10, 4, 3, 8), p(9, 9, 1, 1, 1));
        labels.place(1, 1);
        int[] want = {10, 10, 5, 2, 3, -1, 11, 10, 1};
        for (int what = 0; what <= 8; what++) {
            int w = what;
            due("16: property " + what, want[what], () -> labels.point(0, w));
        }
        due("16: corner", 1, () -> labels.point(1, 5));
        due("16: its own label does not disturb it", 15, () -> labels.point(1, 7));
        due("16: no such point", INDEX, () -> labels.point(3, 9));
        due("16: no such point", INDEX, () -> labels.point(-1, 0));
        due("16: no such property", ARGUMENT, () -> labels.point(0, 9));
        due("16: no such property", ARGUMENT, () -> labels.point(0, -1));
        CornerLabels edge = map(p(39, 30, 20, 9, 1), p(20, 9, 20, 9, 1), p(58, 1, 2, 2, 1));
        due("16: just on the map", 15, () -> edge.point(0, 6));
        due("16: just on the map", 15, () -> edge.point(1, 6));
        due("16: off by one", 2, () -> edge.point(2, 6));
    }

    private static void leader() {
        CornerLabels labels = map(p(10, 10, 5, 2, 3), p(20, 8, 5, 2, 3), p(30, 10, 1, 1, 1), p(4, 12, 5, 2, 3),
                p(58, 11, 1, 1, 1), p(12, 9, 1, 1, 1));
        due("16: one point", 1, () -> labels.point(0, 8));
        due("16: none is right of it", 0, () -> labels.point(2, 8));
        due("16: no label stands", 0, () -> labels.point(5, 8));
        labels.place(1, 0);
        due("16: the label's last row", 2, () -> labels.point(0, 8));
        due("16: the label's first row", 1, () -> labels.point(5, 8));
        due("16: the label's own point", 0, () -> labels.point(1, 8));
        labels.place(3, 3);
        due("16: a label left of the point", 2, () -> labels.point(0, 8));
        labels.place(4, 3);
        due("16: a label in the last column", 3, () -> labels.point(0, 8));
        due("16: and nothing else", 1, () -> labels.point(2, 8));
        due("16: a label above it", 0, () -> labels.point(3, 8));
        labels.place(4, 0);
        due("16: a point whose label stands has a leader too", 1, () -> labels.point(3, 8));
        due("16: the label has gone from that row", 2, () -> labels.point(0, 8));
    }

    private static void clash() {
        CornerLabels labels = map(p(10, 10, 5, 2, 3), p(13, 11, 4, 3, 20), p(0, 0, 20, 9, 1), p(1, 1, 20, 9, 1));
        due("17: no such point", INDEX, () -> labels.clash(0, 9, 4, 0));
        due("17: no such point", INDEX, () -> labels.clash(-1, 0, 0, 0));
        due("17: no such point, twice the same", INDEX, () -> labels.clash(4, 0, 4, 0));
        due("17: the same", ARGUMENT, () -> labels.clash(1, 0, 1, 1));
        due("17: corner", ARGUMENT, () -> labels.clash(0, 4, 1, 0));
        due("17: corner", ARGUMENT, () -> labels.clash(0, 0, 1, -1));
        due("17: two squares", 2, () -> labels.clash(0, 0, 1, 0));
        due("17: the other way", 2, () -> labels.clash(1, 0, 0, 0));
        due("17: four squares", 4, () -> labels.clash(0, 3, 1, 2));
        due("17: none", 0, () -> labels.clash(0, 1, 1, 0));
        due("17: off the map", 19 * 8, () -> labels.clash(2, 2, 3, 2));
        due("17: closed", 19 * 8, () -> labels.clash(2, 0, 3, 0));
    }

    private static void at() {
        CornerLabels labels = map(p(10, 10, 5, 2, 3), p(30, 30, 5, 2, 3));
        labels.place(1, 0);
        due("18: out of range", ARGUMENT, () -> labels.at(60, 0));
        due("18: out of range", ARGUMENT, () -> labels.at(-1, 0));
        due("18: out of range", ARGUMENT, () -> labels.at(0, 40));
        due("18: out of range", ARGUMENT, () -> labels.at(0, -1));
        due("18: point", 0, () -> labels.at(10, 10));
        due("18: point", 1, () -> labels.at(30, 30));
        due("18: its first square", 101, () -> labels.at(31, 31));
        due("18: its last square", 101, () -> labels.at(35, 32));
        due("18: behind it", -1, () -> labels.at(36, 32));
        due("18: below it", -1, () -> labels.at(35, 33));
        due("18: no label", -1, () -> labels.at(11, 11));
        int[][] first = {{31, 31}, {25, 31}, {25, 28}, {31, 28}};
        for (int corner = 0; corner < 4; corner++) {
            labels.place(1, corner);
            int[] square = first[corner];
            due("18: corner " + corner, 101, () -> labels.at(square[0], square[1]));
            due("18: corner " + corner, 101, () -> labels.at(square[0] + 4, square[1] + 1));
            due("18: corner " + corner, -1, () -> labels.at(square[0] - 1, square[1]));
            due("18: corner " + corner, -1, () -> labels.at(square[0], square[1] - 1));
        }
    }

    private static void count() {
        CornerLabels labels = map(p(10, 10, 5, 2, 3), p(19, 10, 4, 3, 20), p(0, 39, 1, 1, 50), p(1, 38, 2, 2, 2));
        labels.place(0, 0);
        labels.place(1, 0);
        int[] want = {4, 2, 23, 52, 22, 1, 1, 0, 6};
        for (int what = 0; what <= 8; what++) {
            int w = what;
            due("19: count(" + what + ")", want[what], () -> labels.count(w));
        }
        due("19: no such number", ARGUMENT, () -> labels.count(9));
        due("19: no such number", ARGUMENT, () -> labels.count(-1));
        labels.drop(0);
        due("19: the leader of 0 crosses the point 1", 1, () -> labels.count(7));
        // the only clash of these two is at the corner 0 of the former, which is not open
        CornerLabels closed = map(p(57, 10, 3, 1, 1), p(59, 5, 1, 6, 1));
        due("19: common squares", 0, () -> closed.clash(0, 1, 1, 1));
        due("19: common squares", 1, () -> closed.clash(0, 0, 1, 1));
        due("19: but not open", 0, () -> closed.count(6));
    }

    private static void best() {
        CornerLabels labels = crowded();
        due("20: no such point", INDEX, () -> labels.best(3));
        due("20: no such point", INDEX, () -> labels.best(-1));
        due("20: first", 0, () -> labels.best(0));
        due("20: dropped", -1, () -> labels.best(2));
        labels.weigh(2, 6);
        due("20: dropped", -1, () -> labels.best(0));
        due("20: heavier", 0, () -> labels.best(2));
        due("20: nothing is put", 0, () -> labels.count(1));
        // the former gives way: its corner 0 blocks the one corner of the latter
        CornerLabels way = map(p(1, 1, 1, 1, 9), p(0, 0, 5, 5, 1), p(0, 3, 3, 1, 1));
        due("20: another corner", 2, () -> map(p(10, 20, 4, 2, 1), p(16, 20, 8, 2, 1), p(17, 21, 1, 1, 1),
                p(17, 19, 1, 1, 1), p(15, 19, 1, 1, 1)).best(0));
        due("20: closed", -1, () -> way.best(1));
    }

    private static void bestWeight() {
        CornerLabels labels = crowded();
        due("21: no such point", INDEX, () -> labels.bestWeight(3));
        due("21: no such point", INDEX, () -> labels.bestWeight(-2));
        due("21: all", 12, () -> labels.bestWeight(-1));
        due("21: without 0", 12, () -> labels.bestWeight(0));
        due("21: without 1", 5, () -> labels.bestWeight(1));
        due("21: without points", 0, () -> new CornerLabels().bestWeight(-1));
        due("21: eight", 36, () -> eight().bestWeight(-1));
        due("21: eight but the last", 28, () -> eight().bestWeight(7));
    }

    private static void ifPushed() {
        CornerLabels labels = tight();
        due("22: no such point", INDEX, () -> labels.ifPushed(5));
        due("22: no such point", INDEX, () -> labels.ifPushed(-1));
        due("22: it stands", -1, () -> labels.ifPushed(0));
        due("22: one moves", 1, () -> labels.ifPushed(1));
        due("22: none has moved", 0, () -> labels.point(0, 5));
        due("22: none needs to move", 0, () -> labels.ifPushed(3));
        CornerLabels stuck = crowded();
        stuck.place(2, 0);
        due("22: no such plan", -1, () -> stuck.ifPushed(0));
    }

    private static void fullPlans() {
        due("23: without points", 1, () -> new CornerLabels().fullPlans());
        due("23: one", 4, () -> map(p(30, 20, 2, 2, 2)).fullPlans());
        due("23: in the corner", 1, () -> map(p(0, 0, 2, 2, 2)).fullPlans());
        due("23: they cannot all stand", 0, () -> crowded().fullPlans());
        due("23: two that do not clash", 16, () -> map(p(30, 20, 2, 2, 2), p(10, 20, 2, 2, 2)).fullPlans());
        // of 16 pairs of corners those with a square in common are left out: right and left, below and above
        due("23: two that clash", 14, () -> map(p(30, 20, 2, 2, 2), p(34, 20, 2, 2, 2)).fullPlans());
        due("23: a point without an open corner is dropped", 3,
                () -> map(p(0, 0, 2, 2, 1), p(1, 1, 1, 1, 1)).fullPlans());
    }

    private static void dearest() {
        due("24: without points", -1, () -> new CornerLabels().dearest());
        CornerLabels labels = crowded();
        // 5 + 12, 7 + 5, 5 + 12
        due("24: the lowest of several", 0, labels::dearest);
        labels.weigh(2, 4);
        // 5 + 11, 7 + 5, 4 + 12
        due("24: as much", 0, labels::dearest);
        labels.weigh(2, 6);
        // 5 + 13, 7 + 6, 6 + 12
        due("24: still", 0, labels::dearest);
        labels.resize(0, 1, 1);
        // all stand: 5 + 13, 7 + 11, 6 + 12
        due("24: all as much", 0, labels::dearest);
        CornerLabels two = map(p(30, 20, 1, 1, 50), p(0, 39, 20, 9, 1), p(1, 38, 1, 1, 7));
        // 50 + 7, 1 + 57, 7 + 51: the label of 1 is off, as the point 2 closes its one corner
        due("24: what can't stand costs its weight", 1, two::dearest);
    }

    private static void standingShare() {
        due("25: without points", 1.0, () -> new CornerLabels().standingShare());
        CornerLabels labels = crowded();
        due("25: none", 0.0, labels::standingShare);
        labels.place(1, 0);
        due("25: seven of 17", 7.0 / 17.0, labels::standingShare);
        labels.place(0, 0);
        due("25: twelve of 17", 12.0 / 17.0, labels::standingShare);
        labels.remove(2);
        due("25: all", 1.0, labels::standingShare);
    }

    private static void digest() {
        due("26: new", digestOf(new CornerLabels(), ""), () -> new CornerLabels().digest());
        CornerLabels labels = crowded();
        due("26: none stands", digestOf(labels, ""), labels::digest);
        labels.place(1, 2);
        type(labels, "1,x");
        due("26: one stands", digestOf(labels, "1,x"), labels::digest);
        labels.solve();
        due("26: two stand", digestOf(labels, "1,x"), labels::digest);
        CornerLabels all = eight();
        due("26: eight", digestOf(all, ""), all::digest);
        all.solve();
        due("26: eight stand", digestOf(all, ""), all::digest);
        CornerLabels tight = tight();
        due("26: tight", digestOf(tight, ""), tight::digest);
        due("26: asked again", digestOf(tight, ""), tight::digest);
    }
}
