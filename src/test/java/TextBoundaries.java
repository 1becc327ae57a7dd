/** A test for each sentence with a boundary in "Input text", "Undo" and "Exceptions", and in the promises 11 to 15. */
public final class TextBoundaries extends Cases {
    private static final Check CHECK = new Check("TextBoundaries");
    private static final String DIGITS = "0123456789";
    private static final String FROM_ONE = "123456789";
    /** Points as a text, of 60 characters. */
    private static final String FULL = "0,0:1x1;1,0:1x1;2,0:1x1;3,0:1x1;4,0:1x1;5,0:1x1;10,10:10x1*9";

    public static void main(String[] args) {
        bufferLength();
        oneOrMorePoints();
        numbersOfPoints();
        weightOrOne();
        leadingZeros();
        leftToRight();
        nextCharacters();
        anyLength();
        savedByEach();
        savedWithoutChange();
        notSavedByThrows();
        notSavedByOthers();
        allButBufferAndStates();
        atMostSix();
        oldestFirst();
        throwsChangeNothing();
        firstNamedIsThrown();
        appendCodes();
        appendToFull();
        appendLength();
        clearedLength();
        noError();
        firstOfErrors();
        readUpToThrow();
        readClears();
        readNone();
        readThrows();
        readDrops();
        undoLatest();
        undoLeft();
        undoNone();
        CHECK.end();
    }

    private static void due(String call, Object want, Check.Call code) {
        CHECK.due(call, want, code);
    }

    private static String digits(int length) {
        return "7".repeat(length);
    }

    // ---- Input text

    private static void bufferLength() {
        CHECK.says("Input text", "The buffer has at most 60 characters.");
        CornerLabels labels = new CornerLabels();
        for (int length = 1; length <= 60; length++) {
            due("append", length, () -> labels.append('~'));
        }
        refused(CHECK, "append to 60", STATE, () -> typed(digits(60)), x -> x.append('7'));
        due("append to 59", 60, () -> typed(digits(59)).append('7'));
        due("all 60 of them", 60, labels::clearBuffer);
        due("after clearBuffer", 1, () -> labels.append('~'));
        CornerLabels read = typed(FULL);
        due("a full buffer that is read", 7, read::read);
        due("after read", 1, () -> read.append('~'));
    }

    private static void oneOrMorePoints() {
        CHECK.says("Input text", "Points as a text are one or more points with \";\" between them");
        refused(CHECK, "none", ARGUMENT, CornerLabels::new, x -> x.read());
        due("one", 1, () -> typed("1,1:1x1").read());
        due("two", 2, () -> typed("1,1:1x1;2,2:1x1").read());
        due("seven, the most that fit", 7, () -> typed(FULL).read());
        due("seven of the shortest", 7, () -> typed("0,0:1x1;1,0:1x1;2,0:1x1;3,0:1x1;4,0:1x1;5,0:1x1;6,0:1x1").read());
        for (String text : new String[] {";", ";1,1:1x1", "1,1:1x1;", "1,1:1x1;;2,2:1x1", "1,1:1x1;2,2:1x1;",
            "1,1:1x1,2,2:1x1", "1,1:1x12,2:1x1"}) {
            refused(CHECK, "read of " + text, ARGUMENT, () -> typed(text), x -> x.read());
        }
        due("\";\" ahead of the first", 0, () -> typed(";1,1:1x1").firstError());
        due("\";\" behind the last", 8, () -> typed("1,1:1x1;").firstError());
        due("\";\" twice", 8, () -> typed("1,1:1x1;;").firstError());
    }

    private static void numbersOfPoints() {
        CHECK.says("Input text", "x, 0 to 59, \",\", y, 0 to 39, \":\", a width, 1 to 20, \"x\", a height, 1 to 9,"
                + " and perhaps \"*\" and a weight, 1 to 99");
        String[] ahead = {"", "7,", "7,7:", "7,7:7x", "7,7:7x7*"};
        String[] behind = {",7:7x7", ":7x7", "x7", "", ""};
        int[] least = {0, 0, 1, 1, 1};
        int[] most = {59, 39, 20, 9, 99};
        for (int part = 0; part < 5; part++) {
            for (int number = 0; number <= 120; number++) {
                int what = part;
                int n = number;
                String text = ahead[part] + number + behind[part];
                CornerLabels labels = typed(text);
                boolean good = number >= least[part] && number <= most[part];
                due("read of " + text, good ? (Object) 1 : ARGUMENT, labels::read);
                due("property " + part + " of " + text, good ? (Object) n : INDEX, () -> labels.point(0, what));
                CornerLabels scanned = typed(text);
                due("is without error: " + text, good, () -> scanned.firstError() == text.length());
            }
        }
        for (String text : new String[] {"59,39:20x9*99", "0,0:1x1*1", "0,0:1x1"}) {
            due("read of " + text, 1, () -> typed(text).read());
        }
        due("an error at the third digit", 2, () -> typed("590").firstError());
        due("an error at the second digit", 1, () -> typed("60").firstError());
        due("an error at the first digit", 4, () -> typed("7,7:0").firstError());
        due("many digits", 2, () -> typed("11111111111111111111").firstError());
        due("many digits of a weight", 10, () -> typed("7,7:7x7*1111111111").firstError());
    }

    private static void weightOrOne() {
        CHECK.says("Input text", "(without it 1)");
        CornerLabels labels = typed("1,1:2x2*98;3,3:2x2;5,5:2x2*7;7,7:2x2");
        due("four points", 4, labels::read);
        int[] want = {98, 1, 7, 1};
        for (int i = 0; i < 4; i++) {
            int k = i;
            due("the weight of " + i, want[i], () -> labels.point(k, 4));
        }
        // what an earlier text told must not be left behind
        type(labels, "9,9:1x1;11,11:1x1*50").read();
        due("without it, where an earlier text had one", 1, () -> labels.point(4, 4));
        due("with it, where an earlier text had none", 50, () -> labels.point(5, 4));
        due("\"*\" without a weight", ARGUMENT, () -> typed("1,1:1x1*").read());
        due("\"*\" without a weight, between points", 8, () -> typed("1,1:1x1*;2,2:1x1").firstError());
    }

    private static void leadingZeros() {
        CHECK.says("Input text", "Numbers are without leading zeros.");
        String[] ahead = {"", "7,", "7,7:", "7,7:7x", "7,7:7x7*", "7,7:7x7;", "7,7:7x7;8,"};
        for (int part = 0; part < ahead.length; part++) {
            for (String number : new String[] {"00", "01", "07", "09"}) {
                String text = ahead[part] + number;
                boolean mayBeZero = part != 2 && part != 3 && part != 4;
                int error = ahead[part].length() + (mayBeZero ? 1 : 0);
                due("first error of " + text, error, () -> typed(text).firstError());
            }
        }
        for (String text : new String[] {"01,1:1x1", "1,01:1x1", "1,1:01x1", "1,1:1x01", "1,1:1x1*01", "00,1:1x1"}) {
            due("read of " + text, ARGUMENT, () -> typed(text).read());
        }
        due("a zero that stands alone", 1, () -> typed("0,0:1x1").read());
        due("zeros that do not lead", 1, () -> typed("10,10:10x1*10").read());
    }

    private static void leftToRight() {
        CHECK.says("Input text", "The buffer is read from left to right");
        due("one wrong character at the front", 0, () -> typed("a1,1:1x1").firstError());
        due("what is behind it does not mend it", 0, () -> typed(",1,1:1x1").firstError());
        due("the characters turned round", 1, () -> typed("1x1:1,1").firstError());
        due("x behind y would be out of range", 4, () -> typed("39,59:1x1").firstError());
        due("width behind height would be out of range", 7, () -> typed("1,1:9x20").firstError());
    }

    private static void nextCharacters() {
        CHECK.says("Input text", "a character is a syntax error if no points as a text"
                + " begin with the characters before it and this character");
        String[] next = {"", DIGITS, "0", ",", "1", DIGITS + ",", "5", DIGITS + ",", "6", ",", "9", ",", "10", ",",
            "59", ",", "5,", DIGITS, "5,0", ":", "5,1", DIGITS + ":", "5,3", DIGITS + ":", "5,4", ":", "5,9", ":",
            "5,10", ":", "5,39", ":", "5,5:", FROM_ONE, "5,5:1", DIGITS + "x", "5,5:2", "0x", "5,5:3", "x",
            "5,5:9", "x", "5,5:10", "x", "5,5:19", "x", "5,5:20", "x", "5,5:5x", FROM_ONE, "5,5:5x1", "*;",
            "5,5:5x9", "*;", "5,5:5x5*", FROM_ONE, "5,5:5x5*1", DIGITS + ";", "5,5:5x5*9", DIGITS + ";",
            "5,5:5x5*10", ";", "5,5:5x5*99", ";", "5,5:5x5;", DIGITS, "5,5:5x5*5;", DIGITS, "5,5:5x5;0", ",",
            "5,5:5x5;5", DIGITS + ",", "5,5:5x5;6", ",", "5,5:5x5;5,5:5x5", "*;", "5,5:5x5*5;5,5:5x5", "*;"};
        for (int i = 0; i < next.length; i += 2) {
            String before = next[i];
            String good = next[i + 1];
            due("no error in " + before, before.length(), () -> typed(before).firstError());
            for (char sign = 33; sign <= 126; sign++) {
                String text = before + sign;
                int want = good.indexOf(sign) >= 0 ? text.length() : before.length();
                due("first error of " + text, want, () -> typed(text).firstError());
            }
        }
    }

    private static void anyLength() {
        CHECK.says("Input text", "no points as a text, of any length, begin with");
        String longText = "10,10:10x1*10;".repeat(5);
        for (int length = 55; length <= 60; length++) {
            String text = longText.substring(0, length);
            due("a text that goes on behind the buffer, of " + length, length, () -> typed(text).firstError());
        }
        due("a point that cannot end within the buffer", 60, () -> typed("0,0:1x1;".repeat(7) + "59,3").firstError());
        due("the eighth begins", 57, () -> typed("0,0:1x1;".repeat(7) + "5").firstError());
        due("an error at the last character of a full buffer", 59,
                () -> typed("0,0:1x1;".repeat(7) + "59,x").firstError());
        due("an error at the end of the seventh", 55, () -> typed("0,0:1x1;".repeat(6) + "0,0:1x1,").firstError());
        String more = "0,0:1x1;1,0:1x1;2,0:1x1;3,0:1x1;4,0:1x1;5,0:1x1;6,0:1x1;";
        refused(CHECK, "read of a text that would go on", ARGUMENT, () -> typed(more + "7,0:"), x -> x.read());
        refused(CHECK, "read of a text of which \";\" is the last", ARGUMENT, () -> typed(more), x -> x.read());
    }

    // ---- Undo

    private static void savedByEach() {
        CHECK.says("Undo", "Each method that is marked \"undoable\" and does not throw an exception"
                + " saves the state from before it");
        saved(CHECK, "add", 3, Cases::crowded, x -> x.add(9, 9, 3, 3, 3));
        saved(CHECK, "add that drops a label", 3, () -> placed(crowded(), 0, 0), x -> x.add(3, 3, 3, 3, 3));
        saved(CHECK, "remove of the first", 0, () -> placed(crowded(), 0, 0), x -> x.remove(0));
        saved(CHECK, "remove of the last", 0, () -> placed(crowded(), 2, 0), x -> x.remove(2));
        saved(CHECK, "weigh", 7, Cases::crowded, x -> x.weigh(1, 8));
        saved(CHECK, "resize", 1, () -> placed(crowded(), 0, 0), x -> x.resize(0, 5, 4));
        saved(CHECK, "place", NONE, Cases::crowded, x -> x.place(1, 3));
        saved(CHECK, "drop", 3, () -> placed(crowded(), 1, 3), x -> x.drop(1));
        saved(CHECK, "solve", 12, () -> placed(crowded(), 2, 0), x -> x.solve());
        saved(CHECK, "push that moves none", 0, () -> placed(crowded(), 0, 0), x -> x.push(1));
        saved(CHECK, "push that moves one", 1, () -> placed(map(p(0, 0, 6, 3, 5), p(7, 0, 3, 3, 5)), 1, 1),
                x -> x.push(0));
        saved(CHECK, "mirror", 1, () -> placed(crowded(), 1, 1), x -> x.mirror());
        CornerLabels read = placed(crowded(), 0, 0);
        type(read, "3,3:1x1;9,9:1x1");
        due("read", 2, read::read);
        due("read saves one state", 5, () -> read.count(8));
        due("read undone, states left", 4, read::undo);
        due("read undone", story(placed(crowded(), 0, 0)), () -> story(read));
    }

    private static void savedWithoutChange() {
        CHECK.says("Undo", "(also if it changes nothing)");
        saved(CHECK, "weigh with the same", 7, Cases::crowded, x -> x.weigh(1, 7));
        saved(CHECK, "resize of a dropped one to the same", 4, Cases::crowded, x -> x.resize(1, 2, 2));
        saved(CHECK, "place at the same", 2, () -> placed(crowded(), 1, 2), x -> x.place(1, 2));
        saved(CHECK, "drop of a dropped one", NONE, Cases::crowded, x -> x.drop(1));
        saved(CHECK, "solve without points", 0, CornerLabels::new, x -> x.solve());
        saved(CHECK, "solve without open corners", 0, Cases::closed, x -> x.solve());
        saved(CHECK, "mirror without points", 0, CornerLabels::new, x -> x.mirror());
        CornerLabels solved = crowded();
        solved.solve();
        due("solve again", 12, solved::solve);
        due("solve again saves a state", 5, () -> solved.count(8));
        CornerLabels read = type(crowded(), "30,20:9x9");
        due("read that adds none", 0, read::read);
        due("read that adds none saves a state", 4, () -> read.count(8));
        due("read that adds none, undone", 3, read::undo);
        due("read that adds none, undone", story(crowded()), () -> story(read));
    }

    private static void notSavedByThrows() {
        CHECK.says("Undo", "(each method that) does not throw an exception");
        CornerLabels labels = type(placed(crowded(), 0, 0), "x");
        due("add", ARGUMENT, () -> labels.add(60, 0, 1, 1, 1));
        due("add", STATE, () -> labels.add(30, 20, 1, 1, 1));
        due("remove", INDEX, () -> labels.remove(3));
        due("weigh", ARGUMENT, () -> labels.weigh(0, 0));
        due("resize", ARGUMENT, () -> labels.resize(0, 0, 0));
        due("place", STATE, () -> labels.place(2, 0));
        due("drop", INDEX, () -> labels.drop(3));
        due("push", STATE, () -> labels.push(2));
        due("read", ARGUMENT, labels::read);
        due("saved states", 4, () -> labels.count(8));
    }

    private static void notSavedByOthers() {
        CHECK.says("Undo", "Each method that is marked \"undoable\" (and no other one)");
        CornerLabels labels = placed(crowded(), 0, 0);
        for (int what = 0; what <= 8; what++) {
            labels.point(0, what);
            labels.count(what);
        }
        labels.append('1');
        labels.firstError();
        labels.clearBuffer();
        labels.clash(0, 0, 1, 0);
        labels.at(0, 0);
        labels.best(0);
        labels.bestWeight(NONE);
        labels.ifPushed(1);
        labels.fullPlans();
        labels.dearest();
        labels.standingShare();
        labels.digest();
        due("saved states", 4, () -> labels.count(8));
        due("undo is not undone", 3, labels::undo);
        due("undo is not undone", 2, labels::undo);
        due("points", 2, () -> labels.count(0));
    }

    private static void allButBufferAndStates() {
        CHECK.says("Undo", "all but the buffer and the saved states");
        CornerLabels labels = typed("1,1:2x3*4");
        labels.add(20, 20, 3, 3, 5);
        type(labels, "9,9");
        due("undo", 0, labels::undo);
        due("the buffer is as it was last", 3, labels::clearBuffer);
        due("the point is gone", 0, () -> labels.count(0));
        CornerLabels cleared = map(p(20, 20, 3, 3, 5));
        type(cleared, "1,1:2x3*4");
        cleared.read();
        due("undo of read", 1, cleared::undo);
        due("the buffer stays cleared", 0, cleared::clearBuffer);
        CornerLabels all = placed(map(p(20, 20, 3, 2, 5), p(40, 30, 7, 6, 8)), 1, 2);
        all.remove(0);
        all.weigh(0, 9);
        all.resize(0, 1, 1);
        all.mirror();
        for (int left = 5; left >= 2; left--) {
            due("undo", left, all::undo);
        }
        int[] want = {20, 20, 3, 2, 5, NONE, 40, 30, 7, 6, 8, 2};
        for (int i = 0; i < 12; i++) {
            int k = i;
            due("property " + i % 6 + " of " + i / 6, want[i], () -> all.point(k / 6, k % 6));
        }
    }

    private static void atMostSix() {
        CHECK.says("Undo", "At most 6 states are saved");
        CornerLabels labels = map(p(20, 20, 3, 3, 1));
        for (int call = 2; call <= 20; call++) {
            int c = call;
            labels.weigh(0, call);
            due("after " + call + " undoable calls", Math.min(6, c), () -> labels.count(8));
        }
        for (int left = 5; left >= 0; left--) {
            due("undo", left, labels::undo);
        }
        due("a seventh undo", STATE, labels::undo);
        due("saved states", 0, () -> labels.count(8));
    }

    private static void oldestFirst() {
        CHECK.says("Undo", "the oldest one is dropped first");
        for (int calls = 6; calls <= 9; calls++) {
            CornerLabels labels = map(p(20, 20, 3, 3, 1));
            for (int call = 2; call <= calls; call++) {
                labels.weigh(0, call);
            }
            for (int weight = calls - 1; weight >= Math.max(1, calls - 6); weight--) {
                int w = weight;
                labels.undo();
                due("the weight after " + calls + " calls, undone", w, () -> labels.point(0, 4));
            }
            // of six calls the first one, add, is still saved
            if (calls == 6) {
                labels.undo();
                due("points after 6 calls, all undone", 0, () -> labels.count(0));
            }
            due("no more", STATE, labels::undo);
        }
        CornerLabels again = map(p(20, 20, 3, 3, 1));
        for (int call = 2; call <= 9; call++) {
            again.weigh(0, call);
        }
        again.undo();
        again.undo();
        again.weigh(0, 50);
        again.weigh(0, 60);
        again.weigh(0, 70);
        int[] want = {60, 50, 7, 6, 5, 4};
        for (int i = 0; i < 6; i++) {
            int k = i;
            again.undo();
            due("after undo and three calls, undone " + (k + 1), want[k], () -> again.point(0, 4));
        }
        due("no more", STATE, again::undo);
    }

    // ---- Exceptions

    private static void throwsChangeNothing() {
        CHECK.says("Exceptions", "A call that throws an exception changes nothing.");
        refused(CHECK, "add out of range", ARGUMENT, () -> placed(crowded(), 0, 0), x -> x.add(3, 3, 1, 1, 100));
        refused(CHECK, "add on a point", STATE, () -> placed(crowded(), 0, 0), x -> x.add(1, 0, 1, 1, 1));
        refused(CHECK, "add of a ninth under a label", STATE, () -> placed(eight(), 0, 0), x -> x.add(6, 6, 1, 1, 1));
        refused(CHECK, "remove", INDEX, Cases::eight, x -> x.remove(8));
        refused(CHECK, "weigh", INDEX, Cases::tight, x -> x.weigh(5, 1));
        refused(CHECK, "weigh out of range", ARGUMENT, Cases::tight, x -> x.weigh(0, 100));
        refused(CHECK, "resize", INDEX, Cases::tight, x -> x.resize(5, 1, 1));
        refused(CHECK, "resize out of range", ARGUMENT, Cases::tight, x -> x.resize(0, 1, 10));
        refused(CHECK, "place", INDEX, Cases::tight, x -> x.place(5, 0));
        refused(CHECK, "place out of range", ARGUMENT, Cases::tight, x -> x.place(0, 4));
        refused(CHECK, "place in the way", STATE, Cases::tight, x -> x.place(1, 1));
        refused(CHECK, "drop", INDEX, Cases::tight, x -> x.drop(5));
        refused(CHECK, "push", INDEX, Cases::tight, x -> x.push(5));
        refused(CHECK, "push of one that stands", STATE, Cases::tight, x -> x.push(0));
        refused(CHECK, "push without a plan", STATE, () -> placed(crowded(), 2, 0), x -> x.push(0));
        refused(CHECK, "append out of range", ARGUMENT, () -> typed("1,1"), x -> x.append(127));
        refused(CHECK, "append to a full buffer", STATE, () -> typed(FULL), x -> x.append(';'));
        refused(CHECK, "read of no points", ARGUMENT, () -> type(tight(), "1,1:1x1;"), x -> x.read());
        refused(CHECK, "undo of nothing", STATE, () -> typed("1,1"), x -> x.undo());
        refused(CHECK, "point", INDEX, Cases::tight, x -> x.point(5, 0));
        refused(CHECK, "point out of range", ARGUMENT, Cases::tight, x -> x.point(0, 9));
        refused(CHECK, "clash", INDEX, Cases::tight, x -> x.clash(0, 0, 5, 0));
        refused(CHECK, "clash of the same", ARGUMENT, Cases::tight, x -> x.clash(0, 0, 0, 1));
        refused(CHECK, "at", ARGUMENT, Cases::tight, x -> x.at(60, 0));
        refused(CHECK, "count", ARGUMENT, Cases::tight, x -> x.count(9));
        refused(CHECK, "best", INDEX, Cases::tight, x -> x.best(5));
        refused(CHECK, "bestWeight", INDEX, Cases::tight, x -> x.bestWeight(5));
        refused(CHECK, "ifPushed", INDEX, Cases::tight, x -> x.ifPushed(5));
    }

    private static void firstNamedIsThrown() {
        CHECK.says("Exceptions", "If several exceptions apply, the one that is named first in the throws clause"
                + " is thrown.");
        due("add out of range to 8 points", ARGUMENT, () -> eight().add(0, 0, 0, 1, 1));
        due("add out of range on a point", ARGUMENT, () -> crowded().add(0, 0, 1, 1, 0));
        due("weigh of no point, out of range", INDEX, () -> crowded().weigh(3, 0));
        due("resize of no point, out of range", INDEX, () -> crowded().resize(-1, 21, 10));
        due("place of no point, out of range", INDEX, () -> crowded().place(3, 4));
        due("place out of range, which is not open", ARGUMENT, () -> closed().place(0, -1));
        due("push of no point, with none that has room", INDEX, () -> closed().push(8));
        due("append of a code out of range to a full buffer", ARGUMENT, () -> typed(FULL).append(32));
        due("append of a code out of range to a full buffer", ARGUMENT, () -> typed(FULL).append(127));
        due("point of no point, out of range", INDEX, () -> crowded().point(3, 9));
        due("clash of no point, corner out of range", INDEX, () -> crowded().clash(0, 4, 3, 0));
        due("clash of no point, corner out of range", INDEX, () -> crowded().clash(-1, 0, 0, -1));
        due("clash of no point and the same", INDEX, () -> crowded().clash(3, 0, 3, 0));
    }

    // ---- Promise 11: append

    private static void appendCodes() {
        CHECK.says("Promise 11", "Throws IllegalArgumentException if code is not 33 to 126");
        for (int code = 33; code <= 126; code++) {
            int c = code;
            due("append " + code, 1, () -> new CornerLabels().append(c));
        }
        // the last ones are good if only their lower bits are looked at
        for (int code : new int[] {32, 127, 0, -1, -33, 31, 128, 255, MOST, LEAST, 65536 + 48, 256 + 48, LEAST + 48}) {
            refused(CHECK, "append " + code, ARGUMENT, () -> typed("1,1"), x -> x.append(code));
        }
    }

    private static void appendToFull() {
        CHECK.says("Promise 11", "Throws IllegalStateException if the buffer has 60 characters");
        for (int code = 33; code <= 126; code++) {
            int c = code;
            due("append " + code + " to 60", STATE, () -> typed(FULL).append(c));
        }
        refused(CHECK, "append to 60", STATE, () -> type(tight(), FULL), x -> x.append('1'));
        due("append to 59", 60, () -> typed(FULL.substring(1)).append('1'));
    }

    private static void appendLength() {
        CHECK.says("Promise 11", "Returns the new length of the buffer.");
        due("to none", 1, () -> new CornerLabels().append('1'));
        due("to one", 2, () -> typed("1").append('1'));
        due("to 59", 60, () -> typed(digits(59)).append('1'));
    }

    // ---- Promise 12: clearBuffer

    private static void clearedLength() {
        CHECK.says("Promise 12", "Returns the length that it had.");
        due("empty", 0, () -> new CornerLabels().clearBuffer());
        due("one", 1, () -> typed("1").clearBuffer());
        due("full", 60, () -> typed(FULL).clearBuffer());
        CornerLabels labels = typed(FULL);
        labels.clearBuffer();
        due("again", 0, labels::clearBuffer);
        due("it is empty", ARGUMENT, labels::read);
        due("it is empty", 0, labels::firstError);
        due("the same as before", new CornerLabels().digest(), labels::digest);
    }

    // ---- Promise 13: firstError

    private static void noError() {
        CHECK.says("Promise 13", "the length of the buffer if there is none");
        due("empty", 0, () -> new CornerLabels().firstError());
        for (int length = 1; length <= 60; length++) {
            String text = FULL.substring(0, length);
            due(text, length, () -> typed(text).firstError());
        }
        idle(CHECK, "firstError of a full buffer", 60, () -> type(tight(), FULL), x -> x.firstError());
        idle(CHECK, "firstError of an error", 3, () -> type(tight(), "1,1x"), x -> x.firstError());
    }

    private static void firstOfErrors() {
        CHECK.says("Promise 13", "Returns the index of the first character that is a syntax error");
        for (int index = 0; index < 60; index++) {
            int i = index;
            String text = FULL.substring(0, index) + "!" + FULL.substring(index + 1);
            due(text, i, () -> typed(text).firstError());
            String two = FULL.substring(0, index) + "!".repeat(60 - index);
            due(two, i, () -> typed(two).firstError());
        }
    }

    // ---- Promise 14: read

    private static void readUpToThrow() {
        CHECK.says("Promise 14", "Adds the points in the buffer as add() does, one after the other,"
                + " up to the first one for which it would throw an exception");
        due("the first is on a point", 0, () -> type(crowded(), "0,0:1x1;9,9:1x1").read());
        due("the second is on a point", 1, () -> type(crowded(), "9,9:1x1;0,0:1x1;8,8:1x1").read());
        due("the last is on a point", 2, () -> type(crowded(), "9,9:1x1;8,8:1x1;0,0:1x1").read());
        due("the second is on the first", 1, () -> typed("9,9:1x1;9,9:1x1;8,8:1x1").read());
        CornerLabels six = new CornerLabels();
        for (int i = 0; i < 6; i++) {
            six.add(i, 0, 1, 1, 1);
        }
        due("two have room, of three", 2, () -> type(six, "9,9:1x1;8,8:2x2;7,7:3x3").read());
        due("the last that came", 2, () -> six.point(7, 2));
        due("none has room", 0, () -> type(six, "7,7:3x3").read());
        CornerLabels skipped = type(crowded(), "9,9:1x1;0,0:1x1;8,8:1x1");
        skipped.read();
        due("what is behind the refused one does not come", NONE, () -> skipped.at(8, 8));
        due("points", 4, () -> skipped.count(0));
    }

    private static void readClears() {
        CHECK.says("Promise 14", "and clears the buffer");
        for (String text : new String[] {"9,9:1x1", FULL, "0,0:1x1", "9,9:1x1;0,0:1x1"}) {
            CornerLabels labels = type(crowded(), text);
            labels.read();
            due("the length after " + text, 0, labels::clearBuffer);
            CornerLabels again = type(crowded(), text);
            again.read();
            due("read again after " + text, ARGUMENT, again::read);
        }
    }

    private static void readNone() {
        CHECK.says("Promise 14", "Undoable, as one call, also if none is added.");
        CornerLabels none = type(crowded(), "0,0:1x1");
        due("none is added", 0, none::read);
        due("saved states", 4, () -> none.count(8));
        due("undo", 3, none::undo);
        due("undone", story(crowded()), () -> story(none));
        CornerLabels seven = typed(FULL);
        due("seven are added", 7, seven::read);
        due("saved states", 1, () -> seven.count(8));
        due("undo", 0, seven::undo);
        due("points", 0, () -> seven.count(0));
        CornerLabels full = type(eight(), FULL);
        due("none is added to eight", 0, full::read);
        due("at most six states", 6, () -> full.count(8));
        due("undo", 5, full::undo);
        due("points", 8, () -> full.count(0));
        due("undo", 4, full::undo);
        due("points", 7, () -> full.count(0));
    }

    private static void readThrows() {
        CHECK.says("Promise 14", "Throws IllegalArgumentException if the buffer does not tell points as a text");
        String text = "10,11:12x3*45;6,7:8x9";
        for (int length = 0; length <= text.length(); length++) {
            String start = text.substring(0, length);
            boolean good = start.equals("10,11:12x3") || start.equals("10,11:12x3*4") || start.equals("10,11:12x3*45")
                    || start.equals(text);
            if (good) {
                due("read of " + start, start.equals(text) ? 2 : 1, () -> typed(start).read());
            } else {
                refused(CHECK, "read of " + start, ARGUMENT, () -> type(tight(), start), x -> x.read());
            }
        }
        for (int index = 0; index < 60; index++) {
            String wrong = FULL.substring(0, index) + "!" + FULL.substring(index + 1);
            due("read of " + wrong, ARGUMENT, () -> typed(wrong).read());
        }
        due("a full map does not matter", ARGUMENT, () -> type(eight(), "1,1:1x1;").read());
    }

    private static void readDrops() {
        CHECK.says("Promise 14", "Adds the points in the buffer as add() does (labels on their squares are dropped)");
        CornerLabels labels = placed(placed(map(p(10, 10, 5, 3, 3), p(30, 20, 5, 3, 3)), 0, 0), 1, 2);
        due("two are added", 2, () -> type(labels, "15,13:1x1;1,1:20x9*99").read());
        due("the label is dropped", NONE, () -> labels.point(0, 5));
        due("the other stands", 2, () -> labels.point(1, 5));
        int[] want = {1, 1, 20, 9, 99, NONE};
        for (int what = 0; what < 6; what++) {
            int w = what;
            due("property " + what, want[what], () -> labels.point(3, w));
        }
        labels.undo();
        due("undone, it stands", 0, () -> labels.point(0, 5));
    }

    // ---- Promise 15: undo

    private static void undoLatest() {
        CHECK.says("Promise 15", "Restores the latest saved state, and drops it.");
        CornerLabels labels = map(p(10, 10, 1, 1, 1), p(20, 20, 2, 2, 2));
        due("the latter is undone", 1, labels::undo);
        due("points", 1, () -> labels.count(0));
        due("the former is undone", 0, labels::undo);
        due("points", 0, () -> labels.count(0));
        due("as new", new CornerLabels().digest(), labels::digest);
        labels.add(30, 30, 3, 3, 3);
        due("what came since is undone", 0, labels::undo);
        due("as new", new CornerLabels().digest(), labels::digest);
    }

    private static void undoLeft() {
        CHECK.says("Promise 15", "Returns how many saved states are left.");
        CornerLabels labels = eight();
        for (int left = 5; left >= 0; left--) {
            int l = left;
            due("undo", left, labels::undo);
            due("saved states", l, () -> labels.count(8));
        }
        due("points, the first two adds are saved no more", 2, () -> labels.count(0));
    }

    private static void undoNone() {
        CHECK.says("Promise 15", "Throws IllegalStateException if there is none");
        refused(CHECK, "undo of a new one", STATE, CornerLabels::new, x -> x.undo());
        refused(CHECK, "undo with a text alone", STATE, () -> typed(FULL), x -> x.undo());
        CornerLabels labels = map(p(10, 10, 1, 1, 1));
        labels.undo();
        due("undo after the last one", STATE, labels::undo);
        CornerLabels eight = eight();
        for (int i = 0; i < 6; i++) {
            eight.undo();
        }
        due("undo after six", STATE, eight::undo);
        due("points", 2, () -> eight.count(0));
        due("undo after six", STATE, eight::undo);
    }
}
