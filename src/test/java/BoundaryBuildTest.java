import java.util.function.Supplier;

/** The boundary cases of the promises 1 to 4, a method for each sentence of the document. */
public final class BoundaryBuildTest {
    private static final Check check = new Check();
    private static final int NONE = BargeChess.NONE;
    private static final int BAD = BargeChess.BAD;
    private static final int NOTHING = BargeChess.NOTHING;
    private static final int[] NO_SQUARES = {-1, -2, -36, 36, 37, 71, Integer.MIN_VALUE, Integer.MAX_VALUE};
    private static final int[] NO_SIDES = {-1, -2, 2, 3, Integer.MIN_VALUE, Integer.MAX_VALUE};
    private static final int[] NO_PERIODS = {1, 6, 0, -1, -2, 7, Integer.MIN_VALUE, Integer.MAX_VALUE};

    private static final Supplier<BargeChess> FULL = () -> Check.set("bbbbbb bt.... 2345.. ...... ....TB BBBBBB");
    private static final Supplier<BargeChess> FULL_BEGUN = () -> Check.begun("bbbbbb bt.... 2345.. ...... ....TB BBBBBB");
    private static final Supplier<BargeChess> SMALL = () -> Check.set("t..... ...... ...... ...... ...... .....T");
    private static final Supplier<BargeChess> SMALL_BEGUN = () -> Check.begun("t..... ...... ...... ...... ...... .....T");

    public static void main(String[] args) throws ReflectiveOperationException {
        check.promises(BoundaryBuildTest.class);
        check.end("BoundaryBuildTest");
    }

    /** A game that the side 0 has won, as the other side's last piece is gone, in the turn 1. */
    private static BargeChess won() {
        BargeChess x = Check.begun("Bt.... ...... ...... ...... ...... ......");
        x.move(1, 3);
        return x;
    }

    // "Creates an empty board."

    static void promise1EmptyBoard() {
        BargeChess x = new BargeChess();
        for (int square = 0; square < 36; square++) {
            check.due("squareOf(" + square + ", 0)", x.squareOf(square, 0), NOTHING);
            check.due("squareOf(" + square + ", 1)", x.squareOf(square, 1), NOTHING);
            check.due("squareOf(" + square + ", 2)", x.squareOf(square, 2), 0);
        }
        for (int row = 0; row < 6; row++) {
            check.due("the row " + row, Check.row(x, row), "......");
        }
    }

    static void promise1NothingHasHappened() {
        BargeChess x = new BargeChess();
        for (int what = 0; what < 17; what++) {
            check.due("account(" + what + ")", x.account(what), 0);
        }
        check.due("undo()", x.undo(), NOTHING);
        check.due("restore()", x.restore(), NOTHING);
        check.due("sign(0)", x.sign(0), NONE);
        check.due("refusal(0)", x.refusal(0), NOTHING);
        check.due("lockOf(0, 0)", x.lockOf(0, 0), NONE);
    }

    static void promise1ObjectsShareNothing() {
        BargeChess x = Check.begun("bt.... ...... 2..... ...... ...... ....TB");
        x.move(0, 2);
        x.append('0');
        x.describe(0);
        x.save();
        BargeChess y = new BargeChess();
        check.due("all of another object", Check.all(y), Check.all(new BargeChess()));
        check.due("its line", y.sign(0), NONE);
        check.due("its reasons", y.refusal(0), NOTHING);
        check.due("its snapshot", y.restore(), NOTHING);
        y.put(0, 0, 30);
        check.due("the first object's square", x.squareOf(30, 0), NOTHING);
    }

    // "An object is used for at most 512 calls after it has been made."

    static void promise1FiveHundredAndTwelveCalls() {
        BargeChess x = Check.begun("t....T ...... ...... ...... ...... ......");
        for (int call = 3; call < 392; call++) {
            x.account(0);
        }
        check.due("119 moves up to the call 511", Check.rounds(x, 0, 119), 1);
        check.due("the call 512", x.account(0), 119);
    }

    // put: "NONE if there is no such square"

    static void promise2NoSuchSquare() {
        for (int square : NO_SQUARES) {
            check.error("put(0, 0, " + square + ")", SMALL, x -> x.put(0, 0, square), NONE);
        }
    }

    static void promise2FirstAndLastSquare() {
        BargeChess x = new BargeChess();
        check.due("put(0, 0, 0)", x.put(0, 0, 0), 1);
        check.due("put(1, 1, 35)", x.put(1, 1, 35), 1);
        check.due("squareOf(0, 0)", x.squareOf(0, 0), 0);
        check.due("squareOf(35, 0)", x.squareOf(35, 0), 3);
    }

    static void promise2EverySquareSideAndKind() {
        for (int square = 0; square < 36; square++) {
            for (int piece = 0; piece < 4; piece++) {
                BargeChess x = new BargeChess();
                check.due("put", x.put(piece / 2, piece % 2, square), 1);
                for (int other = 0; other < 36; other++) {
                    check.due("squareOf(" + other + ", 0)", x.squareOf(other, 0), other == square ? piece : NOTHING);
                }
            }
        }
    }

    // put: "BAD if there is no such side or kind"

    static void promise2NoSuchSide() {
        for (int side : NO_SIDES) {
            check.error("put(" + side + ", 0, 1)", SMALL, x -> x.put(side, 0, 1), BAD);
        }
    }

    static void promise2NoSuchKind() {
        for (int kind : NO_SIDES) {
            check.error("put(0, " + kind + ", 1)", SMALL, x -> x.put(0, kind, 1), BAD);
            check.error("put(1, " + kind + ", 1)", SMALL, x -> x.put(1, kind, 1), BAD);
        }
    }

    // "If several errors apply, the one that is listed first is returned."

    static void promise2NoSquareAheadOfBad() {
        check.error("put(2, 0, 36)", SMALL, x -> x.put(2, 0, 36), NONE);
        check.error("put(0, 2, -1)", SMALL, x -> x.put(0, 2, -1), NONE);
        check.error("put(-1, -1, 36)", SMALL, x -> x.put(-1, -1, 36), NONE);
    }

    static void promise2NoSquareAheadOfRefused() {
        check.error("put(0, 0, 36) in the game", FULL_BEGUN, x -> x.put(0, 0, 36), NONE);
        check.error("put(0, 0, -1) of a ninth piece", FULL, x -> x.put(0, 0, -1), NONE);
    }

    static void promise2BadAheadOfRefused() {
        check.error("put(2, 0, 0) in the game", FULL_BEGUN, x -> x.put(2, 0, 0), BAD);
        check.error("put(0, 2, 20) in the game", FULL_BEGUN, x -> x.put(0, 2, 20), BAD);
        check.error("put(-1, 0, 0) on a piece", FULL, x -> x.put(-1, 0, 0), BAD);
        check.error("put(0, -1, 12) on a lock", FULL, x -> x.put(0, -1, 12), BAD);
        check.error("put(0, 2, 20) of a ninth piece", FULL, x -> x.put(0, 2, 20), BAD);
    }

    // "2, the game has begun: the number of the turn"

    static void promise2GameHasBegun() {
        check.refuses("put in the turn 0", SMALL_BEGUN, x -> x.put(0, 0, 1), 2, 0);
        Supplier<BargeChess> later = () -> {
            BargeChess x = SMALL_BEGUN.get();
            Check.play(x, "0u;35d;6u");
            return x;
        };
        check.refuses("put in the turn 3", later, x -> x.put(1, 1, 1), 2, 3);
        check.refuses("put behind the end", BoundaryBuildTest::won, x -> x.put(1, 0, 30), 2, 1);
    }

    static void promise2GameHasBegunAheadOfAll() {
        check.refuses("put on a piece in the game", FULL_BEGUN, x -> x.put(0, 0, 0), 2, 0);
        check.refuses("put on a lock in the game", FULL_BEGUN, x -> x.put(0, 0, 13), 2, 0);
        check.refuses("put of a ninth piece in the game", FULL_BEGUN, x -> x.put(0, 0, 20), 2, 0);
    }

    // "5, a piece stands on the square: the square"

    static void promise2PieceOnTheSquare() {
        Supplier<BargeChess> four = () -> Check.set("b....T ...... ...... ...... ...... t....B");
        for (int square : new int[] {0, 5, 30, 35}) {
            check.refuses("put(0, 0, " + square + ")", four, x -> x.put(0, 0, square), 5, square);
            check.refuses("put(1, 1, " + square + ")", four, x -> x.put(1, 1, square), 5, square);
        }
    }

    static void promise2PieceAheadOfEight() {
        check.refuses("put(0, 0, 7)", FULL, x -> x.put(0, 0, 7), 5, 7);
        check.refuses("put(0, 0, 35)", FULL, x -> x.put(0, 0, 35), 5, 35);
        check.refuses("put(1, 0, 0)", FULL, x -> x.put(1, 0, 0), 5, 0);
    }

    // "6, a lock is on the square: the lock"

    static void promise2LockOnTheSquare() {
        Supplier<BargeChess> locks = () -> Check.set("2....3 ...... ...... ...... ...... 4....5");
        int[] squares = {0, 5, 30, 35};
        for (int lock = 0; lock < 4; lock++) {
            int square = squares[lock];
            check.refuses("put(0, 0, " + square + ")", locks, x -> x.put(0, 0, square), 6, lock);
            check.refuses("put(1, 1, " + square + ")", locks, x -> x.put(1, 1, square), 6, lock);
        }
    }

    static void promise2LockAheadOfEight() {
        for (int lock = 0; lock < 4; lock++) {
            int square = 12 + lock;
            check.refuses("put(0, 0, " + square + ")", FULL, x -> x.put(0, 0, square), 6, lock);
            check.refuses("put(1, 0, " + square + ")", FULL, x -> x.put(1, 0, square), 6, lock);
        }
    }

    // "1, there are 8 pieces of the side, or 4 locks: this number"; "At most 8 pieces of a side"

    static void promise2NinthPiece() {
        check.refuses("put(0, 0, 8)", FULL, x -> x.put(0, 0, 8), 1, 8);
        check.refuses("put(0, 1, 27)", FULL, x -> x.put(0, 1, 27), 1, 8);
        check.refuses("put(1, 0, 8)", FULL, x -> x.put(1, 0, 8), 1, 8);
        check.refuses("put(1, 1, 27)", FULL, x -> x.put(1, 1, 27), 1, 8);
    }

    static void promise2EightOfEachSide() {
        for (int first = 0; first < 2; first++) {
            BargeChess x = new BargeChess();
            for (int many = 1; many <= 8; many++) {
                check.due("the piece " + many + " of the side " + first, x.put(first, many % 2, 3 * many), many);
            }
            check.due("a ninth one", x.put(first, 0, 34), BargeChess.REFUSED);
            for (int many = 1; many <= 8; many++) {
                check.due("the piece " + many + " of the other side", x.put(1 - first, many % 2, 3 * many + 1), many);
            }
            check.due("account(6)", x.account(6), 16);
        }
    }

    static void promise2RoomAgainBehindUndo() {
        BargeChess x = FULL.get();
        check.due("undo()", x.undo(), 7);
        check.due("the eighth piece of the side 1 again", x.put(1, 1, 20), 8);
        check.due("a ninth one", x.put(1, 1, 21), BargeChess.REFUSED);
        check.refused("a ninth one", x, 1, 8);
    }

    // "one that is put there stays a barge"

    static void promise2BargeInItsLastRowStaysOne() {
        BargeChess x = new BargeChess();
        x.put(0, 0, 30);
        x.put(1, 0, 5);
        check.due("squareOf(30, 0)", x.squareOf(30, 0), 0);
        check.due("squareOf(5, 0)", x.squareOf(5, 0), 2);
        check.due("account(11)", x.account(11), 0);
        x.begin();
        check.due("squareOf(30, 0) in the game", x.squareOf(30, 0), 0);
        check.due("squareOf(5, 0) in the game", x.squareOf(5, 0), 2);
    }

    // lock: "NONE if there is no such square"

    static void promise3NoSuchSquare() {
        for (int square : NO_SQUARES) {
            check.error("lock(" + square + ", 2)", SMALL, x -> x.lock(square, 2), NONE);
        }
    }

    static void promise3EverySquare() {
        for (int square = 0; square < 36; square++) {
            BargeChess x = new BargeChess();
            check.due("lock(" + square + ", 2)", x.lock(square, 2), 0);
            for (int other = 0; other < 36; other++) {
                check.due("squareOf(" + other + ", 1)", x.squareOf(other, 1), other == square ? 0 : NOTHING);
            }
            check.due("lockOf(0, 0)", x.lockOf(0, 0), square);
        }
    }

    // lock: "BAD if the period is out of range"; "with a period from 2 to 5"

    static void promise3PeriodOutOfRange() {
        for (int period : NO_PERIODS) {
            check.error("lock(1, " + period + ")", SMALL, x -> x.lock(1, period), BAD);
        }
    }

    static void promise3EveryPeriod() {
        BargeChess x = new BargeChess();
        for (int period = 2; period <= 5; period++) {
            check.due("lock(" + period + ", " + period + ")", x.lock(period, period), period - 2);
            check.due("lockOf(" + (period - 2) + ", 1)", x.lockOf(period - 2, 1), period);
        }
    }

    static void promise3NoSquareAheadOfBad() {
        check.error("lock(36, 1)", SMALL, x -> x.lock(36, 1), NONE);
        check.error("lock(-1, 6)", SMALL, x -> x.lock(-1, 6), NONE);
    }

    static void promise3NoSquareAheadOfRefused() {
        check.error("lock(36, 2) in the game", FULL_BEGUN, x -> x.lock(36, 2), NONE);
        check.error("lock(-1, 2) of a fifth lock", FULL, x -> x.lock(-1, 2), NONE);
    }

    static void promise3BadAheadOfRefused() {
        check.error("lock(20, 1) in the game", FULL_BEGUN, x -> x.lock(20, 1), BAD);
        check.error("lock(0, 6) on a piece", FULL, x -> x.lock(0, 6), BAD);
        check.error("lock(12, 1) on a lock", FULL, x -> x.lock(12, 1), BAD);
        check.error("lock(20, 6) of a fifth lock", FULL, x -> x.lock(20, 6), BAD);
    }

    static void promise3GameHasBegun() {
        check.refuses("lock in the turn 0", SMALL_BEGUN, x -> x.lock(1, 2), 2, 0);
        check.refuses("lock behind the end", BoundaryBuildTest::won, x -> x.lock(30, 5), 2, 1);
        check.refuses("lock on a piece in the game", FULL_BEGUN, x -> x.lock(0, 2), 2, 0);
        check.refuses("lock on a lock in the game", FULL_BEGUN, x -> x.lock(12, 2), 2, 0);
        check.refuses("a fifth lock in the game", FULL_BEGUN, x -> x.lock(20, 2), 2, 0);
    }

    static void promise3PieceOnTheSquare() {
        Supplier<BargeChess> four = () -> Check.set("b....T ...... ...... ...... ...... t....B");
        for (int square : new int[] {0, 5, 30, 35}) {
            check.refuses("lock(" + square + ", 2)", four, x -> x.lock(square, 2), 5, square);
        }
        check.refuses("lock(7, 2) ahead of the fifth lock", FULL, x -> x.lock(7, 2), 5, 7);
    }

    // "each on a square, one at most on one"

    static void promise3LockOnTheSquare() {
        Supplier<BargeChess> three = () -> Check.set("2....3 ...... ...... ...... ...... 4.....");
        int[] squares = {0, 5, 30};
        for (int lock = 0; lock < 3; lock++) {
            int square = squares[lock];
            check.refuses("lock(" + square + ", 5)", three, x -> x.lock(square, 5), 6, lock);
        }
        for (int lock = 0; lock < 4; lock++) {
            int square = 12 + lock;
            check.refuses("lock(" + square + ", 2) ahead of the fifth", FULL, x -> x.lock(square, 2), 6, lock);
        }
    }

    // "At most 4 locks are built, numbered from 0"

    static void promise3FifthLock() {
        for (int square : new int[] {8, 16, 20, 27}) {
            check.refuses("lock(" + square + ", 2)", FULL, x -> x.lock(square, 2), 1, 4);
        }
    }

    static void promise3NumbersFromZero() {
        BargeChess x = new BargeChess();
        int[] squares = {35, 0, 17, 18};
        for (int lock = 0; lock < 4; lock++) {
            check.due("lock", x.lock(squares[lock], 5 - lock), lock);
            check.due("account(7)", x.account(7), lock + 1);
        }
        for (int lock = 0; lock < 4; lock++) {
            check.due("squareOf(" + squares[lock] + ", 1)", x.squareOf(squares[lock], 1), lock);
        }
        x.undo();
        check.due("the number 3 again", x.lock(20, 2), 3);
        check.due("the square 18 is free again", x.squareOf(18, 1), NOTHING);
    }

    // "open at first"

    static void promise3OpenAtFirst() {
        BargeChess x = Check.begun("t2345. ...... ...... ...... ...... .....T");
        for (int lock = 0; lock < 4; lock++) {
            check.due("lockOf(" + lock + ", 2)", x.lockOf(lock, 2), 0);
            check.due("lockOf(" + lock + ", 3)", x.lockOf(lock, 3), 0);
        }
        check.due("account(8)", x.account(8), 0);
        check.due("the first move onto a lock", x.move(0, 1), 1);
    }

    static void promise3OpenAtFirstBehindUndo() {
        BargeChess x = Check.set("t..... ...... ...... ...... ...... .....T");
        x.lock(20, 2);
        x.begin();
        check.due("to the turn 2", Check.play(x, "0u;35d"), 1);
        check.due("it is closed", x.lockOf(0, 2), 1);
        for (int i = 0; i < 4; i++) {
            x.undo();
        }
        check.due("another lock", x.lock(21, 3), 0);
        check.due("is open", x.lockOf(0, 2), 0);
        check.due("did not turn", x.lockOf(0, 3), 0);
        check.due("the square 20", x.squareOf(20, 2), 0);
    }

    // begin: "7, a side has no pieces: the side"

    static void promise4SideWithoutPieces() {
        check.refuses("begin() of nothing", BargeChess::new, BargeChess::begin, 7, 0);
        check.refuses("begin() of locks", () -> Check.set("2345.. ...... ...... ...... ...... ......"),
            BargeChess::begin, 7, 0);
        check.refuses("begin() without the side 0", () -> Check.set("T..... ...... ...... ...... ...... ......"),
            BargeChess::begin, 7, 0);
        check.refuses("begin() without the side 1", () -> Check.set("bbbbbb bb.... ...... ...... ...... ......"),
            BargeChess::begin, 7, 1);
    }

    static void promise4RefusedBeginHasNotBegun() {
        BargeChess x = Check.set("t..... ...... ...... ...... ...... ......");
        x.begin();
        check.due("account(4)", x.account(4), 0);
        check.due("put", x.put(1, 1, 35), 1);
        check.due("begin()", x.begin(), 2);
        check.due("account(4)", x.account(4), 1);
    }

    // begin: "2, the game has begun: the number of the turn"

    static void promise4GameHasBegun() {
        check.refuses("begin() in the turn 0", SMALL_BEGUN, BargeChess::begin, 2, 0);
        Supplier<BargeChess> later = () -> {
            BargeChess x = SMALL_BEGUN.get();
            Check.play(x, "0u;35d;6u;29d;12u");
            return x;
        };
        check.refuses("begin() in the turn 5", later, BargeChess::begin, 2, 5);
    }

    static void promise4GameHasBegunAheadOfNoPieces() {
        check.refuses("begin() behind the end", BoundaryBuildTest::won, BargeChess::begin, 2, 1);
    }

    // "Returns how many moves the side 0 has"

    static void promise4MovesOfTheSideZero() {
        check.due("two of a barge in a corner", Check.set("b..... ...... ...... ...... ...... TTTTTT").begin(), 2);
        check.due("one of a barge in the other corner", Check.set("T..... ...... ...... ...... ...... .....b").begin(), 1);
        // Up all; right 4 and 10, which push one off; left 1, which does so, too, 10 and 11.
        check.due("eight", Check.set("bbbbbb ....bb ...... ...... ...... .....T").begin(), 8 + 2 + 3);
    }

    // "The position in which a game begins is looked at, too."

    static void promise4BeginsWithoutMoves() {
        BargeChess x = Check.set("...... ...... ...... ...... ...... bBB...");
        check.due("begin()", x.begin(), 0);
        check.due("account(5)", x.account(5), 2);
        check.due("account(4)", x.account(4), 1);
        check.due("repeats()", x.repeats(), 1);
    }

    static void promise4TheSideOneMayBeShutIn() {
        BargeChess x = Check.set("Bbb... ...... ...... ...... ...... ......");
        check.due("begin()", x.begin(), 2 + 2 + 1);
        check.due("account(5)", x.account(5), 0);
        x = Check.set("Bbb... ...... ...... ...... ...... ......");
        x.begin();
        check.due("a move away", x.move(2, 1), 1);
        check.due("account(5)", x.account(5), 0);
        x.undo();
        check.due("one that leaves it shut in", x.move(1, 0), 1);
    }

    // "The one in which the game begins has come once."

    static void promise4FirstPositionHasComeOnce() {
        BargeChess x = SMALL_BEGUN.get();
        check.due("repeats()", x.repeats(), 1);
        check.due("mostRepeats()", x.mostRepeats(), 1);
        check.due("account(14)", x.account(14), 1);
        check.due("the second time", Check.play(x, "0u;35d;6d;29u"), 2);
        check.due("the third time", Check.play(x, "0u;35d;6d;29u"), 3);
        check.due("account(5)", x.account(5), 3);
    }

    static void promise4BeginAgainBehindUndo() {
        BargeChess x = SMALL_BEGUN.get();
        check.due("undo()", x.undo(), 2);
        check.due("repeats()", x.repeats(), 0);
        check.due("put", x.put(0, 0, 30), 2);
        check.due("begin()", x.begin(), 2 + 1);
        check.due("repeats()", x.repeats(), 1);
        check.due("account(14)", x.account(14), 1);
    }
}
