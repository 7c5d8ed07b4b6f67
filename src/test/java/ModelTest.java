import java.util.List;
import java.util.Random;

/** All promises: runs of at most 512 calls, each answer compared with the model's. */
public final class ModelTest {
    private static final int CALLS = 512;
    private static final int RUNS = 6000;
    private static final int[] ODD = {Integer.MIN_VALUE, -101, -5, -4, -3, -2, -1, 36, 37, 70, 99, 127, 128, Integer.MAX_VALUE};

    private static int wrong;
    private static final int[] reasons = new int[14];
    private static final int[] endings = new int[4];
    private static int lastTurns;
    private static int thirdTimes;
    private static int longReads;

    private final BargeChess x = new BargeChess();
    private final Model model = new Model();
    private final StringBuilder calls = new StringBuilder();
    private final Random random;
    private final int style;
    private int made;
    private boolean failed;

    private ModelTest(int seed) {
        random = new Random(seed);
        style = seed % 6;
    }

    public static void main(String[] args) {
        for (int seed = 0; seed < RUNS && wrong < 5; seed++) {
            new ModelTest(seed).run();
        }
        for (int reason = 1; reason < 14; reason++) {
            reached("the reason " + reason, reasons[reason]);
        }
        for (int ending = 1; ending < 4; ending++) {
            reached("the ending " + ending, endings[ending]);
        }
        reached("the turn 120", lastTurns);
        reached("a third time", thirdTimes);
        reached("a text of ten moves", longReads);
        System.out.println("ModelTest: " + RUNS + " runs, " + wrong + " wrong");
        if (wrong > 0) {
            System.exit(1);
        }
    }

    private static void reached(String what, int times) {
        if (times == 0) {
            wrong++;
            System.out.println("ModelTest: no run reached " + what);
        }
    }

    private void due(String call, int got, int want) {
        made++;
        calls.append(call).append(" = ").append(got).append('\n');
        if (got != want && !failed) {
            failed = true;
            wrong++;
            System.out.println("ModelTest: " + calls + "due is " + want + "\n");
        }
    }

    private void run() {
        setUp();
        while (made < CALLS - 40 && !failed) {
            int before = model.w.ended;
            step();
            if (before == 0 && model.w.ended != 0) {
                endings[model.w.ended]++;
                lastTurns += model.w.turn == 120 ? 1 : 0;
                thirdTimes += model.repeats() == 3 ? 1 : 0;
            }
        }
        while (made < CALLS && !failed) {
            ask();
        }
        for (int reason = 1; reason < 14; reason++) {
            reasons[reason] += model.reasons[reason];
        }
    }

    private int below(int bound) {
        return random.nextInt(bound);
    }

    /** A number from 0 on, now and then an odd one. */
    private int number(int bound) {
        return below(40) == 0 ? ODD[below(ODD.length)] : below(bound + (below(12) == 0 ? 1 : 0));
    }

    private void setUp() {
        int pieces = style == 0 ? 1 : style == 1 ? 2 : 1 + below(8);
        for (int i = 0; i < pieces; i++) {
            put(0);
            put(1);
        }
        int locks = below(5);
        for (int i = 0; i < locks; i++) {
            lock();
        }
        if (below(10) > 0) {
            begin();
        }
    }

    private void put(int side) {
        int kind = number(2);
        int row = style == 3 ? (side == 0 ? 3 + below(3) : below(3)) : below(6);
        int square = below(30) == 0 ? number(36) : 6 * row + below(6);
        due("put(" + side + ", " + kind + ", " + square + ")", x.put(side, kind, square), model.put(side, kind, square));
    }

    private void lock() {
        int square = number(36);
        int period = below(20) == 0 ? number(7) : 2 + below(4);
        due("lock(" + square + ", " + period + ")", x.lock(square, period), model.lock(square, period));
    }

    private void begin() {
        due("begin()", x.begin(), model.begin());
    }

    private void step() {
        int kind = below(100);
        if (kind < 45) {
            goodMove();
        } else if (kind < 50) {
            anyMove();
        } else if (kind < 53) {
            text();
        } else if (kind < 55) {
            undo();
        } else if (kind < 56 && below(3) == 0) {
            due("save()", x.save(), model.save());
        } else if (kind < 57 && below(6) == 0) {
            due("restore()", x.restore(), model.restore());
        } else if (kind < 58) {
            before();
        } else {
            ask();
        }
    }

    private void before() {
        switch (below(4)) {
            case 0:
                put(number(2));
                break;
            case 1:
                lock();
                break;
            default:
                begin();
        }
    }

    private void undo() {
        int times = 1 + (below(8) == 0 ? below(9) : 0);
        for (int i = 0; i < times; i++) {
            due("undo()", x.undo(), model.undo());
        }
    }

    /** Prefers, by the run's style, moves back and forth, or moves that push. */
    private int choose(List<Integer> moves) {
        int code = moves.get(below(moves.size()));
        for (int i = 0; i < 6 && style >= 3; i++) {
            if (model.wouldPush(code / 4, code % 4) == 0) {
                code = moves.get(below(moves.size()));
            }
        }
        return code;
    }

    private void goodMove() {
        List<Integer> moves = model.w.moves();
        if (moves.isEmpty()) {
            anyMove();
            return;
        }
        int code = choose(moves);
        move(code / 4, code % 4);
    }

    private void anyMove() {
        int square = number(36);
        for (int i = 0; i < 20 && model.squareOf(square, 0) < 0; i++) {
            square = number(36);
        }
        move(square, number(4));
    }

    private void move(int square, int direction) {
        due("move(" + square + ", " + direction + ")", x.move(square, direction), model.move(square, direction));
    }

    private void text() {
        StringBuilder text = new StringBuilder();
        Model.World ahead = model.w.copy();
        int many = below(4) == 0 ? 20 : 1 + below(5);
        for (int i = 0; i < many && text.length() < 64; i++) {
            List<Integer> moves = ahead.moves();
            int code = moves.isEmpty() || below(40) == 0 ? below(240) : choose(moves);
            boolean known = moves.contains(code);
            text.append(i == 0 ? "" : ";").append(below(3) == 0 && code < 40 ? "0" : "");
            text.append(code / 4).append("urdl".charAt(code % 4));
            if (known) {
                ahead.make(code / 4, code % 4);
            }
        }
        if (below(4) == 0) {
            text.setCharAt(below(text.length()), "0123456789urdl;; x".charAt(below(18)));
        }
        if (below(6) == 0) {
            text.setLength(below(text.length() + 1));
        }
        for (int i = 0; i < text.length() && made < CALLS - 3; i++) {
            append(text.charAt(i));
        }
        int answer = x.read();
        due("read()", answer, model.read());
        longReads += answer >= 10 ? 1 : 0;
    }

    private void append(int code) {
        due("append(" + code + ")", x.append(code), model.append(code));
    }

    private void ask() {
        int a = number(36);
        int b = number(6);
        int little = number(5);
        switch (below(24)) {
            case 0:
                due("squareOf(" + a + ", " + little + ")", x.squareOf(a, little), model.squareOf(a, little));
                break;
            case 1:
                due("lockOf(" + little + ", " + b + ")", x.lockOf(little, b), model.lockOf(little, b));
                break;
            case 2:
                due("sideOf(" + little + ", " + b + ")", x.sideOf(little, b), model.sideOf(little, b));
                due("sideOf(0, " + b + ")", x.sideOf(0, b), model.sideOf(0, b));
                due("sideOf(1, " + b + ")", x.sideOf(1, b), model.sideOf(1, b));
                break;
            case 3:
                due("moves()", x.moves(), model.moves());
                break;
            case 4:
                due("movesAgain()", x.movesAgain(), model.moves());
                break;
            case 5:
                due("moveAt(" + a + ")", x.moveAt(a), model.moveAt(a));
                due("moveAt(" + b + ")", x.moveAt(b), model.moveAt(b));
                break;
            case 6:
                due("repeats()", x.repeats(), model.repeats());
                break;
            case 7:
                due("mostRepeats()", x.mostRepeats(), model.mostRepeats());
                break;
            case 8:
                due("wouldPush(" + a + ", " + little + ")", x.wouldPush(a, little), model.wouldPush(a, little));
                break;
            case 9:
                due("firstTake()", x.firstTake(), model.firstTake());
                break;
            case 10:
                due("ways(" + little + ")", x.ways(little), model.ways(little));
                break;
            case 11:
                due("ways(2)", x.ways(2), model.ways(2));
                break;
            case 12:
                due("turnsIn(" + little + ")", x.turnsIn(little), model.turnsIn(little));
                break;
            case 13:
                due("tideIn(" + little + ")", x.tideIn(little), model.tideIn(little));
                break;
            case 14:
                due("describe(" + b + ")", x.describe(b), model.describe(b));
                break;
            case 15:
                due("sign(" + b + ")", x.sign(b), model.sign(b));
                break;
            case 16:
                append(below(3) == 0 ? number(130) : ";0123urdl".charAt(below(9)));
                break;
            case 17:
                due("mean()", x.mean(), model.mean());
                break;
            case 18:
                for (int what = 0; what < 5; what++) {
                    due("refusal(" + what + ")", x.refusal(what), model.refusal(what));
                }
                break;
            case 19:
                due("refusal(" + b + ")", x.refusal(b), model.refusal(b));
                break;
            default:
                int what = number(18);
                due("account(" + what + ")", x.account(what), model.account(what));
        }
    }
}
