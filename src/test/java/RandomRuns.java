import java.util.Random;

/** Random runs of calls, each call's answer beside that of the model; the seeds are fixed. */
public final class RandomRuns {
    private static final int RUNS = 480;
    /** The document promises nothing behind that many calls of one object. */
    private static final int MOST_CALLS = 512;

    private final Check check = new Check("RandomRuns");
    private Random random;
    private CornerLabels labels;
    private Model model;
    private int spread;
    private int mostWidth;
    private int mostHeight;
    private int left;
    private int top;
    private int calls;

    public static void main(String[] args) {
        RandomRuns runs = new RandomRuns();
        for (int seed = 0; seed < RUNS; seed++) {
            runs.run(seed);
        }
        runs.check.end();
    }

    private void run(int seed) {
        random = new Random(seed);
        labels = new CornerLabels();
        model = new Model();
        spread = new int[] {3, 5, 8, 14, 24, 40}[seed % 6];
        mostWidth = 1 + random.nextInt(20);
        mostHeight = 1 + random.nextInt(9);
        left = random.nextInt(60 - Math.min(60, spread) + 1);
        top = random.nextInt(40 - Math.min(40, spread) + 1);
        // some runs are over maps that stay small, as the model goes through all plans
        boolean full = seed % 3 == 0;
        calls = 0;
        for (int step = 0; calls < MOST_CALLS; step++) {
            change(full);
            look();
            if (step % 6 == 0) {
                both("digest", labels::digest, model::digest);
            }
        }
    }

    private void both(String call, Check.Call mine, Check.Call due) {
        if (calls < MOST_CALLS) {
            calls++;
            check.due(call, Check.answerOf(due), mine);
        }
    }

    private int point() {
        int points = model.count(0);
        return random.nextInt(12) == 0 || points == 0 ? random.nextInt(11) - 1 : random.nextInt(points);
    }

    /** Mostly in the range, at times a little or far beside it. */
    private int number(int least, int most) {
        switch (random.nextInt(60)) {
            case 0:
                return least - 1;
            case 1:
                return most + 1;
            case 2:
                return random.nextBoolean() ? Integer.MAX_VALUE : Integer.MIN_VALUE;
            default:
                return least + random.nextInt(most - least + 1);
        }
    }

    private int x() {
        return random.nextInt(40) == 0 ? number(0, 59) : left + random.nextInt(spread);
    }

    private int y() {
        return random.nextInt(40) == 0 ? number(0, 39) : top + random.nextInt(Math.min(40, spread));
    }

    private void change(boolean full) {
        int point = point();
        switch (random.nextInt(16)) {
            case 0, 1, 2, 3:
                if (full || model.count(0) < 5) {
                    add();
                }
                break;
            case 4:
                if (random.nextInt(3) == 0) {
                    both("remove(" + point + ")", () -> labels.remove(point), () -> model.remove(point));
                }
                break;
            case 5:
                int weight = number(1, 99);
                both("weigh(" + point + ", " + weight + ")",
                        () -> labels.weigh(point, weight), () -> model.weigh(point, weight));
                break;
            case 6:
                int width = number(1, mostWidth);
                int height = number(1, mostHeight);
                both("resize(" + point + ", " + width + ", " + height + ")",
                        () -> labels.resize(point, width, height), () -> model.resize(point, width, height));
                break;
            case 7, 8, 9:
                int corner = number(0, 3);
                both("place(" + point + ", " + corner + ")",
                        () -> labels.place(point, corner), () -> model.place(point, corner));
                break;
            case 10:
                both("drop(" + point + ")", () -> labels.drop(point), () -> model.drop(point));
                break;
            case 11:
                if (random.nextInt(3) == 0) {
                    both("solve()", labels::solve, model::solve);
                }
                break;
            case 12:
                both("push(" + point + ")", () -> labels.push(point), () -> model.push(point));
                break;
            case 13:
                both("mirror()", labels::mirror, model::mirror);
                break;
            case 14:
                text(full);
                break;
            default:
                both("undo()", labels::undo, model::undo);
        }
    }

    private void add() {
        int x = x();
        int y = y();
        int width = number(1, mostWidth);
        int height = number(1, mostHeight);
        int weight = number(1, 1 + random.nextInt(99));
        both("add(" + x + ", " + y + ", " + width + ", " + height + ", " + weight + ")",
                () -> labels.add(x, y, width, height, weight), () -> model.add(x, y, width, height, weight));
    }

    private void text(boolean full) {
        StringBuilder text = new StringBuilder();
        int points = 1 + random.nextInt(4);
        for (int p = 0; p < points; p++) {
            text.append(p == 0 ? "" : ";").append(x()).append(',').append(y()).append(':')
                    .append(number(1, mostWidth)).append('x').append(number(1, mostHeight));
            if (random.nextBoolean()) {
                text.append('*').append(number(1, 99));
            }
        }
        if (random.nextInt(4) == 0) {
            text.setCharAt(random.nextInt(text.length()), "0123456789,:x*;X-a".charAt(random.nextInt(18)));
        }
        if (random.nextInt(4) == 0) {
            text.setLength(random.nextInt(text.length()));
        }
        for (char sign : text.toString().toCharArray()) {
            both("append(" + (int) sign + ")", () -> labels.append(sign), () -> model.append(sign));
        }
        int code = number(33, 126);
        if (random.nextInt(10) == 0) {
            both("append(" + code + ")", () -> labels.append(code), () -> model.append(code));
        }
        both("firstError() of " + text, labels::firstError, model::firstError);
        if (full || model.count(0) < 4) {
            both("read() of " + text, labels::read, model::read);
        }
        if (random.nextInt(4) != 0) {
            both("clearBuffer()", labels::clearBuffer, model::clearBuffer);
        }
    }

    private void look() {
        int point = point();
        int other = point();
        int what = number(0, 8);
        both("point(" + point + ", " + what + ")", () -> labels.point(point, what), () -> model.point(point, what));
        both("count(" + what + ")", () -> labels.count(what), () -> model.count(what));
        int one = number(0, 3);
        int two = number(0, 3);
        both("clash(" + point + ", " + one + ", " + other + ", " + two + ")",
                () -> labels.clash(point, one, other, two), () -> model.clash(point, one, other, two));
        int x = x();
        int y = y();
        both("at(" + x + ", " + y + ")", () -> labels.at(x, y), () -> model.at(x, y));
        both("standingShare()", labels::standingShare, model::standingShare);
        if (random.nextInt(12) == 0) {
            plans(point);
        }
    }

    private void plans(int point) {
        both("best(" + point + ")", () -> labels.best(point), () -> model.best(point));
        both("bestWeight(" + point + ")", () -> labels.bestWeight(point), () -> model.bestWeight(point));
        both("ifPushed(" + point + ")", () -> labels.ifPushed(point), () -> model.ifPushed(point));
        both("fullPlans()", labels::fullPlans, model::fullPlans);
        both("dearest()", labels::dearest, model::dearest);
    }
}
