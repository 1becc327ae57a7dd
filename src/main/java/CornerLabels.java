/** Points on a map of 60 columns and 40 rows, each with a label at one of four corners, or dropped. */
public final class CornerLabels {
    public static final int NONE = -1;

    private static final int COLUMNS = 60;
    private static final int ROWS = 40;
    private static final int CORNERS = 4;
    private static final int MOST_POINTS = 8;
    private static final int MOST_WIDTH = 20;
    private static final int MOST_HEIGHT = 9;
    private static final int MOST_WEIGHT = 99;
    private static final int MOST_SAVED = 6;
    private static final int MOST_CHARACTERS = 60;
    private static final int LEAST_CODE = 33;
    private static final int MOST_CODE = 126;
    private static final int LABEL_ON_SQUARE = 100;
    private static final int LAST_PROPERTY = 8;
    private static final int LAST_COUNT = 8;
    private static final long FIRST_HASH = 2833L;

    private final Board board = new Board();
    private final History history = new History();
    private final Typed typed = new Typed();
    private final Plans plans = new Plans();

    public CornerLabels() {
    }

    // ---- points

    public int add(int x, int y, int width, int height, int weight)
            throws IllegalArgumentException, IllegalStateException {
        if (!isSquare(x, y) || !isSize(width, height) || !isWeight(weight)) {
            throw new IllegalArgumentException("an argument is out of range");
        }
        if (!board.takesPointOn(x, y)) {
            throw new IllegalStateException("there are 8 points, or one stands there");
        }
        history.save(board);
        return board.insert(x, y, width, height, weight);
    }

    public int remove(int point) throws IndexOutOfBoundsException {
        if (!board.has(point)) {
            throw new IndexOutOfBoundsException("no such point");
        }
        history.save(board);
        int openBefore = board.openCornersBeside(point);
        board.takeOut(point);
        return board.openCornersBeside(NONE) - openBefore;
    }

    public int weigh(int point, int weight) throws IndexOutOfBoundsException, IllegalArgumentException {
        if (!board.has(point)) {
            throw new IndexOutOfBoundsException("no such point");
        }
        if (!isWeight(weight)) {
            throw new IllegalArgumentException("weight is out of range");
        }
        history.save(board);
        int previous = board.cells[Board.WEIGHT + point];
        board.cells[Board.WEIGHT + point] = weight;
        return previous;
    }

    public int resize(int point, int width, int height)
            throws IndexOutOfBoundsException, IllegalArgumentException {
        if (!board.has(point)) {
            throw new IndexOutOfBoundsException("no such point");
        }
        if (!isSize(width, height)) {
            throw new IllegalArgumentException("width or height is out of range");
        }
        history.save(board);
        board.cells[Board.WIDTH + point] = width;
        board.cells[Board.HEIGHT + point] = height;
        board.cells[Board.CORNER + point] = NONE;
        return Integer.bitCount(board.openMask(point));
    }

    // ---- labels

    public int place(int point, int corner)
            throws IndexOutOfBoundsException, IllegalArgumentException, IllegalStateException {
        if (!board.has(point)) {
            throw new IndexOutOfBoundsException("no such point");
        }
        if (!isCorner(corner)) {
            throw new IllegalArgumentException("corner is out of range");
        }
        if (!hasBit(board.freeMask(point), corner)) {
            throw new IllegalStateException("the corner is not open, or the label would clash");
        }
        history.save(board);
        return putLabel(point, corner);
    }

    public int drop(int point) throws IndexOutOfBoundsException {
        if (!board.has(point)) {
            throw new IndexOutOfBoundsException("no such point");
        }
        history.save(board);
        return putLabel(point, NONE);
    }

    public int solve() {
        history.save(board);
        plans.look(board);
        int weight = plans.findHeaviest(NONE);
        putLabelsAsFound();
        return weight;
    }

    public int push(int point) throws IndexOutOfBoundsException, IllegalStateException {
        if (!board.has(point)) {
            throw new IndexOutOfBoundsException("no such point");
        }
        plans.look(board);
        int moved = plans.findRoom(point);
        if (moved == NONE) {
            throw new IllegalStateException("the label stands, or there is no room");
        }
        history.save(board);
        putLabelsAsFound();
        return moved;
    }

    public int mirror() {
        history.save(board);
        board.flip();
        return board.standingLabels();
    }

    // ---- texts

    public int append(int code) throws IllegalArgumentException, IllegalStateException {
        if (code < LEAST_CODE || code > MOST_CODE) {
            throw new IllegalArgumentException("code is not 33 to 126");
        }
        if (typed.length >= MOST_CHARACTERS) {
            throw new IllegalStateException("the buffer has 60 characters");
        }
        typed.write(code);
        return typed.length;
    }

    public int clearBuffer() {
        int length = typed.length;
        typed.length = 0;
        return length;
    }

    public int firstError() {
        return typed.scan();
    }

    public int read() throws IllegalArgumentException {
        if (typed.scan() < typed.length || !typed.endsWithPoint()) {
            throw new IllegalArgumentException("the buffer does not tell points");
        }
        history.save(board);
        int added = insertTold();
        typed.length = 0;
        return added;
    }

    public int undo() throws IllegalStateException {
        if (history.states == 0) {
            throw new IllegalStateException("there is no saved state");
        }
        history.restore(board);
        return history.states;
    }

    // ---- looks; nothing is changed

    public int point(int point, int what) throws IndexOutOfBoundsException, IllegalArgumentException {
        if (!board.has(point)) {
            throw new IndexOutOfBoundsException("no such point");
        }
        if (what < 0 || what > LAST_PROPERTY) {
            throw new IllegalArgumentException("what is not 0 to 8");
        }
        return property(point, what);
    }

    public int clash(int one, int corner, int other, int otherCorner)
            throws IndexOutOfBoundsException, IllegalArgumentException {
        if (!board.has(one) || !board.has(other)) {
            throw new IndexOutOfBoundsException("no such point");
        }
        if (one == other || !isCorner(corner) || !isCorner(otherCorner)) {
            throw new IllegalArgumentException("the points are the same, or a corner is out of range");
        }
        return board.sharedSquares(one, corner, other, otherCorner);
    }

    public int at(int x, int y) throws IllegalArgumentException {
        if (!isSquare(x, y)) {
            throw new IllegalArgumentException("x or y is out of range");
        }
        int point = board.pointOn(x, y);
        if (point != NONE) {
            return point;
        }
        int labelled = board.labelOn(x, y);
        return labelled == NONE ? NONE : labelled + LABEL_ON_SQUARE;
    }

    public int count(int what) throws IllegalArgumentException {
        if (what < 0 || what > LAST_COUNT) {
            throw new IllegalArgumentException("what is not 0 to 8");
        }
        return number(what);
    }

    // ---- what would be; nothing is changed

    public int best(int point) throws IndexOutOfBoundsException {
        if (!board.has(point)) {
            throw new IndexOutOfBoundsException("no such point");
        }
        plans.look(board);
        plans.findBest();
        return plans.bestCorners[point];
    }

    public int bestWeight(int without) throws IndexOutOfBoundsException {
        if (without != NONE && !board.has(without)) {
            throw new IndexOutOfBoundsException("no such point");
        }
        plans.look(board);
        return plans.findHeaviest(without);
    }

    public int ifPushed(int point) throws IndexOutOfBoundsException {
        if (!board.has(point)) {
            throw new IndexOutOfBoundsException("no such point");
        }
        plans.look(board);
        return plans.findRoom(point);
    }

    public int fullPlans() {
        plans.look(board);
        return plans.fullOnes();
    }

    public int dearest() {
        plans.look(board);
        plans.findWithoutEach();
        return findDearest();
    }

    public double standingShare() {
        int all = board.allWeight();
        return all == 0 ? 1.0 : (double) board.standingWeight() / all;
    }

    public long digest() {
        long hash = FIRST_HASH;
        for (int what = 0; what <= LAST_COUNT; what++) {
            hash = mix(hash, number(what));
        }
        plans.look(board);
        plans.findBest();
        plans.findWithoutEach();
        hash = mixPoints(hash);
        hash = mixPairs(hash);
        hash = mix(hash, plans.topWeight);
        hash = mix(hash, plans.fullOnes());
        hash = mix(hash, findDearest());
        hash = mix(hash, bitsOf(standingShare()));
        return mixBuffer(hash);
    }

    // ---- helpers

    private static boolean isSquare(int x, int y) {
        return x >= 0 && x < COLUMNS && y >= 0 && y < ROWS;
    }

    private static boolean isSize(int width, int height) {
        return width >= 1 && width <= MOST_WIDTH && height >= 1 && height <= MOST_HEIGHT;
    }

    private static boolean isWeight(int weight) {
        return weight >= 1 && weight <= MOST_WEIGHT;
    }

    private static boolean isCorner(int corner) {
        return corner >= 0 && corner < CORNERS;
    }

    private static boolean hasBit(int mask, int bit) {
        return ((mask >>> bit) & 1) != 0;
    }

    private int putLabel(int point, int corner) {
        int previous = board.cells[Board.CORNER + point];
        board.cells[Board.CORNER + point] = corner;
        return previous;
    }

    private void putLabelsAsFound() {
        for (int point = 0; point < board.points; point++) {
            board.cells[Board.CORNER + point] = plans.found[point];
        }
    }

    private int insertTold() {
        int added = 0;
        for (int told = 0; told < typed.pointsTold(); told++) {
            int x = typed.part(told, Typed.X);
            int y = typed.part(told, Typed.Y);
            if (!board.takesPointOn(x, y)) {
                break;
            }
            board.insert(x, y, typed.part(told, Typed.WIDTH), typed.part(told, Typed.HEIGHT),
                    typed.part(told, Typed.WEIGHT));
            added++;
        }
        return added;
    }

    private int property(int point, int what) {
        switch (what) {
            case 6:
                return board.openMask(point);
            case 7:
                return board.freeMask(point);
            case 8:
                return board.leaderCrossings(point);
            default:
                return board.cells[what * MOST_POINTS + point];
        }
    }

    private int number(int what) {
        switch (what) {
            case 0:
                return board.points;
            case 1:
                return board.standingLabels();
            case 2:
                return board.standingWeight();
            case 3:
                return board.allWeight() - board.standingWeight();
            case 4:
                return board.standingSquares();
            case 5:
                return board.pointsWithoutOpenCorner();
            case 6:
                plans.look(board);
                return plans.clashingPairs();
            case 7:
                return board.crossingsOfDropped();
            default:
                return history.states;
        }
    }

    /** Wants plans that have found the weights without each point. */
    private int findDearest() {
        int found = NONE;
        int greatest = 0;
        for (int point = 0; point < board.points; point++) {
            int sum = board.cells[Board.WEIGHT + point] + plans.weightsWithout[point];
            if (found == NONE || sum > greatest) {
                found = point;
                greatest = sum;
            }
        }
        return found;
    }

    private static long mix(long hash, long value) {
        return 31L * hash + value;
    }

    private long mixPoints(long start) {
        long hash = start;
        for (int point = 0; point < board.points; point++) {
            for (int what = 0; what <= LAST_PROPERTY; what++) {
                hash = mix(hash, property(point, what));
            }
            hash = mix(hash, plans.bestCorners[point]);
            hash = mix(hash, plans.weightsWithout[point]);
            hash = mix(hash, plans.findRoom(point));
        }
        return hash;
    }

    private long mixPairs(long start) {
        long hash = start;
        for (int former = 0; former < board.points; former++) {
            for (int latter = former + 1; latter < board.points; latter++) {
                hash = mix(hash, board.sharedSquares(former, 0, latter, 0));
                hash = mix(hash, board.sharedSquares(former, 0, latter, 1));
            }
        }
        return hash;
    }

    private long mixBuffer(long start) {
        long hash = mix(start, typed.length);
        for (int index = 0; index < typed.length; index++) {
            hash = mix(hash, typed.code(index));
        }
        return hash;
    }

    /** The bits of a share, 0.0 to 1.0: put together here, as the library's own function is ruled out. */
    private static long bitsOf(double share) {
        if (share <= 0.0) {
            return 0L;
        }
        double scaled = share;
        long exponent = 1023L;
        for (int step = 0; step < 1000 && scaled < 1.0; step++) {
            scaled = scaled * 2.0;
            exponent--;
        }
        return (exponent << 52) + (long) ((scaled - 1.0) * 4503599627370496.0);
    }

    /**
     * The points with their labels, in one row of cells, so that it can be saved at a stroke: first the x of
     * all points, then the y of all, and so on, in the order of the properties 0 to 5.
     */
    private static final class Board {
        static final int X = 0;
        static final int Y = MOST_POINTS;
        static final int WIDTH = 2 * MOST_POINTS;
        static final int HEIGHT = 3 * MOST_POINTS;
        static final int WEIGHT = 4 * MOST_POINTS;
        static final int CORNER = 5 * MOST_POINTS;
        static final int CELLS = 6 * MOST_POINTS;

        final int[] cells = new int[CELLS];
        int points = 0;

        boolean has(int point) {
            return point >= 0 && point < points;
        }

        boolean stands(int point) {
            return cells[CORNER + point] != NONE;
        }

        boolean takesPointOn(int x, int y) {
            return points < MOST_POINTS && pointOn(x, y) == NONE;
        }

        int insert(int x, int y, int width, int height, int weight) {
            int covering = labelOn(x, y);
            if (covering != NONE) {
                cells[CORNER + covering] = NONE;
            }
            int point = points;
            points++;
            cells[X + point] = x;
            cells[Y + point] = y;
            cells[WIDTH + point] = width;
            cells[HEIGHT + point] = height;
            cells[WEIGHT + point] = weight;
            cells[CORNER + point] = NONE;
            return point;
        }

        void takeOut(int point) {
            points--;
            for (int part = 0; part < CELLS; part += MOST_POINTS) {
                for (int kept = point; kept < points; kept++) {
                    cells[part + kept] = cells[part + kept + 1];
                }
            }
        }

        void flip() {
            for (int point = 0; point < points; point++) {
                cells[X + point] = COLUMNS - 1 - cells[X + point];
                if (stands(point)) {
                    // the corners 0 and 1, and 2 and 3, are unlike in their lowest bit alone
                    cells[CORNER + point] = cells[CORNER + point] ^ 1;
                }
            }
        }

        int left(int point, int corner) {
            boolean isRight = corner == 0 || corner == 3;
            return isRight ? cells[X + point] + 1 : cells[X + point] - cells[WIDTH + point];
        }

        int top(int point, int corner) {
            boolean isBelow = corner == 0 || corner == 1;
            return isBelow ? cells[Y + point] + 1 : cells[Y + point] - cells[HEIGHT + point];
        }

        boolean covers(int point, int corner, int x, int y) {
            int left = left(point, corner);
            int top = top(point, corner);
            return x >= left && x < left + cells[WIDTH + point] && y >= top && y < top + cells[HEIGHT + point];
        }

        int pointOn(int x, int y) {
            for (int point = 0; point < points; point++) {
                if (cells[X + point] == x && cells[Y + point] == y) {
                    return point;
                }
            }
            return NONE;
        }

        int labelOn(int x, int y) {
            for (int point = 0; point < points; point++) {
                if (stands(point) && covers(point, cells[CORNER + point], x, y)) {
                    return point;
                }
            }
            return NONE;
        }

        boolean isOpen(int point, int corner) {
            int left = left(point, corner);
            int right = left + cells[WIDTH + point] - 1;
            int top = top(point, corner);
            int bottom = top + cells[HEIGHT + point] - 1;
            if (left < 0 || right >= COLUMNS || top < 0 || bottom >= ROWS) {
                return false;
            }
            for (int other = 0; other < points; other++) {
                int x = cells[X + other];
                int y = cells[Y + other];
                if (x >= left && x <= right && y >= top && y <= bottom) {
                    return false;
                }
            }
            return true;
        }

        int openMask(int point) {
            int mask = 0;
            for (int corner = 0; corner < CORNERS; corner++) {
                if (isOpen(point, corner)) {
                    mask |= 1 << corner;
                }
            }
            return mask;
        }

        /** The open corners of all points but one, which may be NONE. */
        int openCornersBeside(int point) {
            int open = 0;
            for (int other = 0; other < points; other++) {
                if (other != point) {
                    open += Integer.bitCount(openMask(other));
                }
            }
            return open;
        }

        int sharedSquares(int one, int corner, int other, int otherCorner) {
            int columns = sharedLength(left(one, corner), cells[WIDTH + one],
                    left(other, otherCorner), cells[WIDTH + other]);
            int rows = sharedLength(top(one, corner), cells[HEIGHT + one],
                    top(other, otherCorner), cells[HEIGHT + other]);
            return columns * rows;
        }

        static int sharedLength(int start, int length, int otherStart, int otherLength) {
            int from = Math.max(start, otherStart);
            int to = Math.min(start + length, otherStart + otherLength);
            return Math.max(0, to - from);
        }

        boolean clashesWithStanding(int point, int corner) {
            for (int other = 0; other < points; other++) {
                if (other != point && stands(other)
                        && sharedSquares(point, corner, other, cells[CORNER + other]) > 0) {
                    return true;
                }
            }
            return false;
        }

        int freeMask(int point) {
            int mask = openMask(point);
            for (int corner = 0; corner < CORNERS; corner++) {
                if (hasBit(mask, corner) && clashesWithStanding(point, corner)) {
                    mask &= ~(1 << corner);
                }
            }
            return mask;
        }

        int leaderCrossings(int point) {
            int crossed = 0;
            for (int other = 0; other < points; other++) {
                if (isPointOnLeader(point, other)) {
                    crossed++;
                }
                if (isLabelOnLeader(point, other)) {
                    crossed++;
                }
            }
            return crossed;
        }

        boolean isPointOnLeader(int point, int other) {
            return cells[Y + other] == cells[Y + point] && cells[X + other] > cells[X + point];
        }

        boolean isLabelOnLeader(int point, int other) {
            if (!stands(other)) {
                return false;
            }
            int corner = cells[CORNER + other];
            int end = left(other, corner) + cells[WIDTH + other];
            int top = top(other, corner);
            int row = cells[Y + point];
            return end > cells[X + point] + 1 && row >= top && row < top + cells[HEIGHT + other];
        }

        int standingLabels() {
            int standing = 0;
            for (int point = 0; point < points; point++) {
                if (stands(point)) {
                    standing++;
                }
            }
            return standing;
        }

        int standingWeight() {
            int sum = 0;
            for (int point = 0; point < points; point++) {
                if (stands(point)) {
                    sum += cells[WEIGHT + point];
                }
            }
            return sum;
        }

        int allWeight() {
            int sum = 0;
            for (int point = 0; point < points; point++) {
                sum += cells[WEIGHT + point];
            }
            return sum;
        }

        int standingSquares() {
            int squares = 0;
            for (int point = 0; point < points; point++) {
                if (stands(point)) {
                    squares += cells[WIDTH + point] * cells[HEIGHT + point];
                }
            }
            return squares;
        }

        int pointsWithoutOpenCorner() {
            int without = 0;
            for (int point = 0; point < points; point++) {
                if (openMask(point) == 0) {
                    without++;
                }
            }
            return without;
        }

        int crossingsOfDropped() {
            int crossed = 0;
            for (int point = 0; point < points; point++) {
                if (!stands(point)) {
                    crossed += leaderCrossings(point);
                }
            }
            return crossed;
        }
    }

    /** The saved boards, the oldest one first, in rows that are made once. */
    private static final class History {
        final int[] cells = new int[MOST_SAVED * Board.CELLS];
        final int[] points = new int[MOST_SAVED];
        int states = 0;

        void save(Board board) {
            if (states >= MOST_SAVED) {
                forgetOldest();
            }
            System.arraycopy(board.cells, 0, cells, states * Board.CELLS, Board.CELLS);
            points[states] = board.points;
            states++;
        }

        void forgetOldest() {
            System.arraycopy(cells, Board.CELLS, cells, 0, (MOST_SAVED - 1) * Board.CELLS);
            System.arraycopy(points, 1, points, 0, MOST_SAVED - 1);
            states = MOST_SAVED - 1;
        }

        /** Wants at least one state. */
        void restore(Board board) {
            states--;
            System.arraycopy(cells, states * Board.CELLS, board.cells, 0, Board.CELLS);
            board.points = points[states];
        }
    }

    /** The buffer, and the points that it tells. */
    private static final class Typed {
        static final int X = 0;
        static final int Y = 1;
        static final int WIDTH = 2;
        static final int HEIGHT = 3;
        static final int WEIGHT = 4;
        static final int PARTS = 5;
        // the shortest point and its ";" have 8 characters; one more may have begun behind them
        static final int MOST_TOLD = MOST_CHARACTERS / 8 + 1;
        private static final int[] LEAST = {0, 0, 1, 1, 1};
        private static final int[] MOST = {59, 39, 20, 9, 99};

        final int[] codes = new int[MOST_CHARACTERS];
        int length = 0;
        final int[] told = new int[MOST_TOLD * PARTS];
        int reading = 0;
        int part = X;
        int value = NONE;

        /** Wants a buffer that is not full. */
        void write(int code) {
            codes[length] = code;
            length++;
        }

        int code(int index) {
            return codes[index];
        }

        /** Wants a scan without error. */
        boolean endsWithPoint() {
            return value != NONE && (part == HEIGHT || part == WEIGHT);
        }

        int pointsTold() {
            return reading + 1;
        }

        int part(int point, int wanted) {
            return told[point * PARTS + wanted];
        }

        /** Reads the buffer, and returns the index of the first error, or the length. */
        int scan() {
            reading = NONE;
            beginPoint();
            for (int index = 0; index < length; index++) {
                if (!take(codes[index])) {
                    return index;
                }
            }
            return length;
        }

        boolean take(int code) {
            if (code >= '0' && code <= '9') {
                return takeDigit(code - '0');
            }
            int next = value == NONE ? NONE : partAfter(part, code);
            if (next == NONE) {
                return false;
            }
            if (next == X) {
                return beginPoint();
            }
            part = next;
            value = NONE;
            return true;
        }

        boolean takeDigit(int digit) {
            if (value == 0) {
                return false;
            }
            int longer = value == NONE ? digit : value * 10 + digit;
            if (longer < LEAST[part] || longer > MOST[part]) {
                return false;
            }
            value = longer;
            told[reading * PARTS + part] = value;
            return true;
        }

        boolean beginPoint() {
            if (reading + 1 >= MOST_TOLD) {
                return false;
            }
            reading++;
            told[reading * PARTS + WEIGHT] = 1;
            part = X;
            value = NONE;
            return true;
        }

        static int partAfter(int part, int code) {
            switch (part) {
                case X:
                    return code == ',' ? Y : NONE;
                case Y:
                    return code == ':' ? WIDTH : NONE;
                case WIDTH:
                    return code == 'x' ? HEIGHT : NONE;
                case HEIGHT:
                    return code == '*' ? WEIGHT : code == ';' ? X : NONE;
                default:
                    return code == ';' ? X : NONE;
            }
        }
    }

    /**
     * The plans of a board. A spot is a corner of a point, numbered point * 4 + corner, so that a set of
     * spots is one int. Plans are gone through in the order in which they are compared, so that of several
     * equally good ones the first found is the one that is asked for.
     */
    private static final class Plans {
        static final int SPOTS = MOST_POINTS * CORNERS;
        static final int ALL_CORNERS = 15;

        // the board as it was looked at
        int points = 0;
        final int[] open = new int[MOST_POINTS];
        final int[] weight = new int[MOST_POINTS];
        final int[] now = new int[MOST_POINTS];
        // for each open spot the open spots of later points that it clashes with
        final int[] clashing = new int[SPOTS];

        // what is looked for; hope is the most that the points from one on can gain
        final int[] allowed = new int[MOST_POINTS];
        int allowedSpots = 0;
        final boolean[] mayDrop = new boolean[MOST_POINTS];
        final int[] gain = new int[SPOTS];
        final int[] mostGain = new int[MOST_POINTS];
        final int[] hope = new int[MOST_POINTS + 1];
        final int[] trial = new int[MOST_POINTS];

        // what was found
        final int[] found = new int[MOST_POINTS];
        int foundScore = NONE;
        final int[] bestCorners = new int[MOST_POINTS];
        int topWeight = 0;
        final int[] weightsWithout = new int[MOST_POINTS];

        void look(Board board) {
            points = board.points;
            for (int point = 0; point < points; point++) {
                open[point] = board.openMask(point);
                weight[point] = board.cells[Board.WEIGHT + point];
                now[point] = board.cells[Board.CORNER + point];
            }
            for (int point = 0; point < points; point++) {
                for (int corner = 0; corner < CORNERS; corner++) {
                    clashing[point * CORNERS + corner] = laterClashes(board, point, corner);
                }
            }
        }

        int laterClashes(Board board, int point, int corner) {
            int mask = 0;
            if (!hasBit(open[point], corner)) {
                return mask;
            }
            for (int later = point + 1; later < points; later++) {
                for (int laterCorner = 0; laterCorner < CORNERS; laterCorner++) {
                    if (hasBit(open[later], laterCorner)
                            && board.sharedSquares(point, corner, later, laterCorner) > 0) {
                        mask |= 1 << (later * CORNERS + laterCorner);
                    }
                }
            }
            return mask;
        }

        int clashingPairs() {
            int pairs = 0;
            for (int point = 0; point < points; point++) {
                int mask = 0;
                for (int corner = 0; corner < CORNERS; corner++) {
                    mask |= clashing[point * CORNERS + corner];
                }
                for (int later = point + 1; later < points; later++) {
                    if (((mask >>> (later * CORNERS)) & ALL_CORNERS) != 0) {
                        pairs++;
                    }
                }
            }
            return pairs;
        }

        /** Finds the best plan in which one point, or NONE, stays dropped, and returns its weight. */
        int findHeaviest(int without) {
            for (int point = 0; point < points; point++) {
                allowed[point] = point == without ? 0 : open[point];
                mayDrop[point] = true;
                for (int corner = 0; corner < CORNERS; corner++) {
                    gain[point * CORNERS + corner] = weight[point];
                }
            }
            return findTop();
        }

        /** Finds the best plan, and keeps it while others are looked for. */
        void findBest() {
            topWeight = findHeaviest(NONE);
            System.arraycopy(found, 0, bestCorners, 0, MOST_POINTS);
        }

        void findWithoutEach() {
            for (int point = 0; point < points; point++) {
                weightsWithout[point] = findHeaviest(point);
            }
        }

        /** Finds the plan that makes room for a point, and returns how many labels it moves; NONE without one. */
        int findRoom(int wanted) {
            if (now[wanted] != NONE) {
                return NONE;
            }
            int standing = 0;
            for (int point = 0; point < points; point++) {
                boolean mustStand = point == wanted || now[point] != NONE;
                allowed[point] = mustStand ? open[point] : 0;
                mayDrop[point] = !mustStand;
                for (int corner = 0; corner < CORNERS; corner++) {
                    gain[point * CORNERS + corner] = now[point] == corner ? 1 : 0;
                }
                standing += now[point] == NONE ? 0 : 1;
            }
            int unmoved = findTop();
            return unmoved == NONE ? NONE : standing - unmoved;
        }

        /** Finds the first plan with the most gain, and returns that; NONE if there is no plan. */
        int findTop() {
            hope[points] = 0;
            allowedSpots = 0;
            for (int point = points - 1; point >= 0; point--) {
                mostGain[point] = findMostGain(point);
                hope[point] = hope[point + 1] + mostGain[point];
                allowedSpots |= allowed[point] << (point * CORNERS);
            }
            foundScore = NONE;
            seek(this, 0, 0, 0);
            return foundScore;
        }

        int findMostGain(int point) {
            int most = 0;
            for (int corner = 0; corner < CORNERS; corner++) {
                if (hasBit(allowed[point], corner)) {
                    most = Math.max(most, gain[point * CORNERS + corner]);
                }
            }
            return most;
        }

        private static void seek(Plans plans, int point, int blocked, int score) {
            if (point >= plans.points) {
                plans.keepTrial(score);
                return;
            }
            if (score + plans.hope[point] <= plans.foundScore) {
                return;
            }
            int free = plans.allowed[point] & ~(blocked >>> (point * CORNERS));
            for (int corner = 0; corner < CORNERS; corner++) {
                if (hasBit(free, corner)) {
                    int spot = point * CORNERS + corner;
                    int then = blocked | (plans.clashing[spot] & plans.allowedSpots);
                    plans.trial[point] = corner;
                    seek(plans, point + 1, then, score + plans.gain[spot]);
                    if (then == blocked && plans.gain[spot] == plans.mostGain[point]) {
                        // what blocks nothing and gains the most can't be bettered by what comes behind it
                        return;
                    }
                }
            }
            if (plans.mayDrop[point]) {
                plans.trial[point] = NONE;
                seek(plans, point + 1, blocked, score);
            }
        }

        void keepTrial(int score) {
            if (score > foundScore) {
                foundScore = score;
                System.arraycopy(trial, 0, found, 0, MOST_POINTS);
            }
        }

        int fullOnes() {
            return tally(this, 0, 0);
        }

        private static int tally(Plans plans, int point, int blocked) {
            if (point >= plans.points) {
                return 1;
            }
            if (plans.open[point] == 0) {
                return tally(plans, point + 1, blocked);
            }
            int sum = 0;
            int blockingNothing = 0;
            int free = plans.open[point] & ~(blocked >>> (point * CORNERS));
            for (int corner = 0; corner < CORNERS; corner++) {
                if (hasBit(free, corner)) {
                    int then = blocked | plans.clashing[point * CORNERS + corner];
                    if (then == blocked) {
                        blockingNothing++;
                    } else {
                        sum += tally(plans, point + 1, then);
                    }
                }
            }
            if (blockingNothing > 0) {
                sum += blockingNothing * tally(plans, point + 1, blocked);
            }
            return sum;
        }
    }
}
