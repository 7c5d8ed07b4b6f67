import java.util.ArrayList;
import java.util.List;
import java.util.function.Supplier;

/** The boundary cases of the promises 6 to 13, a method for each sentence of the document. */
public final class BoundaryLookTest {
    private static final Check check = new Check();
    private static final int NONE = BargeChess.NONE;
    private static final int BAD = BargeChess.BAD;
    private static final int NOTHING = BargeChess.NOTHING;
    private static final int[] NO_SQUARES = {-1, -2, -36, 36, 37, 71, Integer.MIN_VALUE, Integer.MAX_VALUE};
    private static final int[] FAR = {-1, -2, Integer.MIN_VALUE, Integer.MAX_VALUE};
    private static final String SMALL = "t..... ...... ...... ...... ...... .....T";
    private static final String TAKEN = "Bt.... ...... ...... ...... ...... ......";

    public static void main(String[] args) throws ReflectiveOperationException {
        check.promises(BoundaryLookTest.class);
        check.end("BoundaryLookTest");
    }

    private static Supplier<BargeChess> played(String rows, String moves) {
        return () -> {
            BargeChess x = Check.begun(rows);
            Check.play(x, moves);
            return x;
        };
    }

    /** Games in all states: not begun, begun, over in each way. */
    private static List<Supplier<BargeChess>> states() {
        List<Supplier<BargeChess>> states = new ArrayList<>();
        states.add(BargeChess::new);
        states.add(() -> Check.set(SMALL));
        states.add(() -> Check.begun(SMALL));
        states.addAll(ends());
        return states;
    }

    private static List<Supplier<BargeChess>> ends() {
        List<Supplier<BargeChess>> ends = new ArrayList<>();
        ends.add(played(TAKEN, "1l"));
        ends.add(played("...... ...... ...... b..... .T.... ......", "18u;25l"));
        ends.add(played(SMALL, "0u;35d;6d;29u;0u;35d;6d;29u"));
        ends.add(played("Bb.b.. ...... ...... ...... ...... ......", "3l"));
        ends.add(() -> Check.begun("...... ...... ...... ...... ...... bBB..."));
        ends.add(() -> {
            BargeChess x = Check.begun("t....T ...... ...... ...... ...... ......");
            Check.rounds(x, 0, 120);
            return x;
        });
        return ends;
    }

    // squareOf: "NONE if there is no such square; BAD if there is no such what"

    static void promise6NoSuchSquare() {
        for (int square : NO_SQUARES) {
            for (int what = 0; what < 3; what++) {
                int asked = what;
                check.asks("squareOf(" + square + ", " + what + ")", () -> Check.begun(SMALL),
                    x -> x.squareOf(square, asked), NONE);
            }
        }
    }

    static void promise6NoSuchWhat() {
        BargeChess x = Check.begun(SMALL);
        for (int square : new int[] {0, 20, 35}) {
            for (int what : FAR) {
                check.due("squareOf(" + square + ", " + what + ")", x.squareOf(square, what), BAD);
            }
            check.due("squareOf(" + square + ", 3)", x.squareOf(square, 3), BAD);
            check.due("squareOf(" + square + ", 4)", x.squareOf(square, 4), BAD);
        }
    }

    static void promise6NoSquareAheadOfBad() {
        BargeChess x = Check.begun(SMALL);
        check.due("squareOf(36, 3)", x.squareOf(36, 3), NONE);
        check.due("squareOf(-1, -1)", x.squareOf(-1, -1), NONE);
    }

    // "0 and 1 for a barge and a tug of the side 0, 2 and 3 for those of the side 1, NOTHING without"

    static void promise6Pieces() {
        BargeChess x = Check.set("b....t ...... ...... ...... ...... B....T");
        check.due("squareOf(0, 0)", x.squareOf(0, 0), 0);
        check.due("squareOf(5, 0)", x.squareOf(5, 0), 1);
        check.due("squareOf(30, 0)", x.squareOf(30, 0), 2);
        check.due("squareOf(35, 0)", x.squareOf(35, 0), 3);
        check.due("squareOf(1, 0)", x.squareOf(1, 0), NOTHING);
        check.due("squareOf(34, 0)", x.squareOf(34, 0), NOTHING);
    }

    static void promise6PieceLeavesItsSquare() {
        BargeChess x = played("bB.... ...... ...... ...... ...... .....T", "0r").get();
        check.due("squareOf(0, 0)", x.squareOf(0, 0), NOTHING);
        check.due("squareOf(1, 0)", x.squareOf(1, 0), 0);
        check.due("squareOf(2, 0)", x.squareOf(2, 0), 2);
        x.undo();
        check.due("squareOf(0, 0) undone", x.squareOf(0, 0), 0);
        check.due("squareOf(2, 0) undone", x.squareOf(2, 0), NOTHING);
    }

    // "1 the lock, NOTHING without; 2: 1 if there is a closed lock, otherwise 0"

    static void promise6Locks() {
        BargeChess x = Check.set("2....3 ...... ..b... ...... ...... 4....5");
        int[] squares = {0, 5, 30, 35};
        for (int lock = 0; lock < 4; lock++) {
            check.due("squareOf(" + squares[lock] + ", 1)", x.squareOf(squares[lock], 1), lock);
            check.due("squareOf(" + squares[lock] + ", 0)", x.squareOf(squares[lock], 0), NOTHING);
            check.due("squareOf(" + squares[lock] + ", 2)", x.squareOf(squares[lock], 2), 0);
        }
        check.due("a piece is no lock", x.squareOf(14, 1), NOTHING);
        check.due("nor closed", x.squareOf(14, 2), 0);
    }

    static void promise6ClosedLock() {
        BargeChess x = played("t.2.3. ...... ...... ...... ...... .....T", "0u;35d").get();
        check.due("squareOf(2, 2)", x.squareOf(2, 2), 1);
        check.due("squareOf(2, 1)", x.squareOf(2, 1), 0);
        check.due("squareOf(2, 0)", x.squareOf(2, 0), NOTHING);
        check.due("squareOf(4, 2)", x.squareOf(4, 2), 0);
        x.move(6, 0);
        check.due("squareOf(4, 2) in the turn 3", x.squareOf(4, 2), 1);
        check.due("squareOf(2, 2) in the turn 3", x.squareOf(2, 2), 1);
        x.move(29, 2);
        check.due("squareOf(2, 2) in the turn 4", x.squareOf(2, 2), 0);
    }

    static void promise6LockUnderAPiece() {
        BargeChess x = played("t2.... ...... ...... ...... ...... .....T", "0r;35d").get();
        check.due("squareOf(1, 0)", x.squareOf(1, 0), 1);
        check.due("squareOf(1, 1)", x.squareOf(1, 1), 0);
        check.due("squareOf(1, 2)", x.squareOf(1, 2), 0);
    }

    // lockOf: "NONE if there is no such lock; BAD if there is no such what"

    static void promise7NoSuchLock() {
        for (int locks = 0; locks <= 4; locks++) {
            BargeChess x = Check.set("2345".substring(0, locks) + "......".substring(locks));
            for (int what = 0; what < 4; what++) {
                check.due("lockOf(" + locks + ", " + what + ")", x.lockOf(locks, what), NONE);
                for (int lock : FAR) {
                    check.due("lockOf(" + lock + ", " + what + ")", x.lockOf(lock, what), NONE);
                }
                for (int lock = 0; lock < locks; lock++) {
                    int[] want = {lock, lock + 2, 0, 0};
                    check.due("lockOf(" + lock + ", " + what + ")", x.lockOf(lock, what), want[what]);
                }
            }
        }
    }

    static void promise7NoSuchWhat() {
        BargeChess x = Check.set("2345.. ...... ...... ...... ...... ......");
        for (int lock = 0; lock < 4; lock++) {
            for (int what : FAR) {
                check.due("lockOf(" + lock + ", " + what + ")", x.lockOf(lock, what), BAD);
            }
            check.due("lockOf(" + lock + ", 4)", x.lockOf(lock, 4), BAD);
        }
    }

    static void promise7NoLockAheadOfBad() {
        BargeChess x = Check.set("2..... ...... ...... ...... ...... ......");
        check.due("lockOf(1, 4)", x.lockOf(1, 4), NONE);
        check.due("lockOf(-1, -1)", x.lockOf(-1, -1), NONE);
        check.due("lockOf(4, 4)", x.lockOf(4, 4), NONE);
    }

    static void promise7UndoneLockIsNone() {
        BargeChess x = Check.set("23.... ...... ...... ...... ...... ......");
        x.undo();
        check.due("lockOf(1, 0)", x.lockOf(1, 0), NONE);
        check.due("lockOf(0, 0)", x.lockOf(0, 0), 0);
    }

    static void promise7Numbers() {
        BargeChess x = Check.begun("t....T ...... ...... ...... ..2345 ......");
        Check.rounds(x, 0, 3);
        int[][] want = {{26, 2, 1, 1}, {27, 3, 1, 1}, {28, 4, 0, 0}, {29, 5, 0, 0}};
        for (int lock = 0; lock < 4; lock++) {
            for (int what = 0; what < 4; what++) {
                check.due("lockOf(" + lock + ", " + what + ")", x.lockOf(lock, what), want[lock][what]);
            }
        }
    }

    // sideOf: "NONE if there is no such side; BAD if there is no such what"

    static void promise8NoSuchSide() {
        BargeChess x = Check.begun(SMALL);
        for (int what = 0; what < 6; what++) {
            for (int side : FAR) {
                check.due("sideOf(" + side + ", " + what + ")", x.sideOf(side, what), NONE);
            }
            check.due("sideOf(2, " + what + ")", x.sideOf(2, what), NONE);
        }
    }

    static void promise8NoSuchWhat() {
        BargeChess x = Check.begun(SMALL);
        for (int side = 0; side < 2; side++) {
            for (int what : FAR) {
                check.due("sideOf(" + side + ", " + what + ")", x.sideOf(side, what), BAD);
            }
            check.due("sideOf(" + side + ", 6)", x.sideOf(side, 6), BAD);
        }
    }

    static void promise8NoSideAheadOfBad() {
        BargeChess x = Check.begun(SMALL);
        check.due("sideOf(2, 6)", x.sideOf(2, 6), NONE);
        check.due("sideOf(-1, -1)", x.sideOf(-1, -1), NONE);
    }

    private static void sides(String when, BargeChess x, int[] first, int[] second) {
        for (int what = 0; what < 6; what++) {
            check.due("sideOf(0, " + what + ") " + when, x.sideOf(0, what), first[what]);
            check.due("sideOf(1, " + what + ") " + when, x.sideOf(1, what), second[what]);
        }
    }

    static void promise8NothingAndAll() {
        sides("of nothing", new BargeChess(), new int[6], new int[6]);
        sides("of eight each", Check.set("bbbbbb bb.... ...... ...... ....TT TTTTTT"),
            new int[] {8, 8, 0, 0, 0, 0}, new int[] {8, 0, 8, 0, 0, 0});
    }

    static void promise8WithoutPieces() {
        sides("without the side 1", played(TAKEN, "1l").get(),
            new int[] {1, 0, 1, 0, 1, 0}, new int[] {0, 0, 0, 1, 0, 0});
    }

    // "the pieces of it that are gone": told of whose they are, whoever pushed them

    static void promise8GoneByItsOwnSide() {
        sides("behind a push", played("bt.... ...... ...... ...... ...... .....T", "1l").get(),
            new int[] {1, 0, 1, 1, 1, 0}, new int[] {1, 0, 1, 0, 0, 0});
    }

    static void promise8GoneByTheOtherSide() {
        sides("behind a push", played("Bt.... ...... ...... ...... ...... .....T", "1l").get(),
            new int[] {1, 0, 1, 0, 1, 0}, new int[] {1, 0, 1, 1, 0, 0});
    }

    // "the pieces that moves of it pushed so far, one for each piece and move"

    static void promise8PushedOnceForEachPieceAndMove() {
        BargeChess x = Check.begun("tBb... ...... ...... ...... ...... .....T");
        x.move(0, 1);
        sides("behind two", x, new int[] {2, 1, 1, 0, 2, 0}, new int[] {2, 1, 1, 0, 0, 0});
        x.move(35, 2);
        x.move(1, 1);
        sides("behind the same two again", x, new int[] {2, 1, 1, 0, 4, 0}, new int[] {2, 1, 1, 0, 0, 0});
    }

    static void promise8PushedByTheSideOne() {
        BargeChess x = played("t..... ...... ...... ...... ...... b.bBbT", "0u;33l").get();
        sides("behind one", x, new int[] {4, 3, 1, 0, 0, 0}, new int[] {2, 1, 1, 0, 1, 0});
    }

    static void promise8RefusedMovesPushNothing() {
        BargeChess x = Check.begun("bBB... ...... ...... ...... ...... .....T");
        x.move(0, 1);
        check.due("sideOf(0, 4)", x.sideOf(0, 4), 0);
        x.wouldPush(0, 1);
        x.ways(2);
        check.due("sideOf(0, 4)", x.sideOf(0, 4), 0);
    }

    // "the barges of it that became tugs"

    static void promise8BecameTugs() {
        sides("of each side", played("...... B..... ...... ...... .b.... .....T", "25u;6d").get(),
            new int[] {1, 0, 1, 0, 0, 1}, new int[] {2, 0, 2, 0, 0, 1});
        sides("of tugs that were put", Check.begun("t..... t..... ...... ...... ...... .....T"),
            new int[] {2, 0, 2, 0, 0, 0}, new int[] {1, 0, 1, 0, 0, 0});
    }

    static void promise8BecameTugAndIsGone() {
        BargeChess x = Check.begun("b..... ...... ...... ...... b..... .T...T");
        check.due("it becomes a tug, and goes off", Check.play(x, "24u;31l"), 1);
        sides("of a tug that is gone", x, new int[] {1, 1, 0, 1, 0, 1}, new int[] {2, 0, 2, 0, 1, 0});
    }

    // moves, movesAgain: "0 if the game has not begun or is over"

    static void promise9NoneAheadOfTheGame() {
        check.asks("moves() of nothing", BargeChess::new, BargeChess::moves, 0);
        check.asks("moves() ahead of the game", () -> Check.set(SMALL), BargeChess::moves, 0);
    }

    static void promise9NoneBehindEachEnd() {
        for (Supplier<BargeChess> end : ends()) {
            check.asks("moves() behind the end", end, BargeChess::moves, 0);
        }
    }

    static void promise9OfTheSideWhoseTurnItIs() {
        BargeChess x = Check.begun("t..... ...... ...... ..T... ...... ......");
        check.due("moves() of the side 0", x.moves(), 2);
        x.move(0, 0);
        check.due("moves() of the side 1", x.moves(), 4);
    }

    static void promise9OneMove() {
        BargeChess x = Check.begun("...... ...... ...... ...... ...... b....T");
        check.due("moves()", x.moves(), 1);
        check.due("movesAgain()", x.movesAgain(), 1);
        check.due("moveAt(0)", x.moveAt(0), 121);
        check.due("moveAt(1)", x.moveAt(1), NONE);
    }

    static void promise9EightTugs() {
        BargeChess x = Check.begun(".t.t.t ...... t.t.t. ...... .t...T .t....");
        // Each of them 4 but for 1, 3: no down; 5: no right, none down; 12: no left; 25: pushes 31 off; 31: pushes 25.
        check.due("moves()", x.moves(), 3 + 3 + 2 + 3 + 4 + 4 + 4 + 3);
        check.due("movesAgain()", x.movesAgain(), 26);
    }

    static void promise10NoneAheadOfTheGame() {
        check.asks("movesAgain() of nothing", BargeChess::new, BargeChess::movesAgain, 0);
        check.asks("movesAgain() ahead of the game", () -> Check.set(SMALL), BargeChess::movesAgain, 0);
    }

    static void promise10NoneBehindEachEnd() {
        for (Supplier<BargeChess> end : ends()) {
            check.asks("movesAgain() behind the end", end, BargeChess::movesAgain, 0);
        }
    }

    // "Returns the same by a second way"

    static void promise10TheSameAsMoves() {
        String[] rows = {"bBtTbB ...... ...... ...... ...... ......", "tBB.tB b..... B..... B..... T..... t.....",
            "b....B .b..B. ..bB.. ..tT.. .t..T. t....T", "2b3B4t 5..... bB.... tTb... BBt... .....T"};
        for (String row : rows) {
            BargeChess x = Check.begun(row);
            for (int turn = 0; turn < 12 && x.account(5) == 0; turn++) {
                int many = x.moves();
                check.due("movesAgain()", x.movesAgain(), many);
                check.due("ways(1)", x.ways(1), many);
                check.due("the last place", x.moveAt(many - 1) >= 0 ? 1 : 0, 1);
                check.due("the place behind it", x.moveAt(many), NONE);
                int code = x.moveAt(7 * turn % many);
                x.move(code / 4, code % 4);
            }
        }
    }

    static void promise10WithClosedLocks() {
        BargeChess x = played("b2.... ...... tB2... ...... .2b2.. T....b", "35l;30d").get();
        // 0: up; 12: up, down (right ends before a lock); 26: up; 34, a tug by now: right, down, left.
        check.due("movesAgain()", x.movesAgain(), 7);
        check.due("moves()", x.moves(), 7);
    }

    // moveAt: "NONE if there is no such place"; "by squares, then by directions"

    static void promise11NoSuchPlace() {
        for (int place : FAR) {
            check.asks("moveAt(" + place + ")", () -> Check.begun(SMALL), x -> x.moveAt(place), NONE);
        }
        check.asks("moveAt(2)", () -> Check.begun(SMALL), x -> x.moveAt(2), NONE);
    }

    static void promise11FirstAndLastPlace() {
        BargeChess x = Check.begun(SMALL);
        check.due("moveAt(0)", x.moveAt(0), 0);
        check.due("moveAt(1)", x.moveAt(1), 1);
        x.move(0, 0);
        check.due("moveAt(0) of the side 1", x.moveAt(0), 4 * 35 + 2);
        check.due("moveAt(1) of the side 1", x.moveAt(1), 4 * 35 + 3);
        check.due("moveAt(2) of the side 1", x.moveAt(2), NONE);
    }

    static void promise11BySquaresThenByDirections() {
        BargeChess x = Check.begun("...... .t..t. ...... ...... ...... T.....");
        int[] want = {28, 29, 30, 31, 40, 41, 42, 43};
        for (int place = 0; place < 8; place++) {
            check.due("moveAt(" + place + ")", x.moveAt(place), want[place]);
        }
        check.due("moveAt(8)", x.moveAt(8), NONE);
    }

    static void promise11NoneWithoutAGame() {
        check.asks("moveAt(0) of nothing", BargeChess::new, x -> x.moveAt(0), NONE);
        check.asks("moveAt(0) ahead of the game", () -> Check.set(SMALL), x -> x.moveAt(0), NONE);
        for (Supplier<BargeChess> end : ends()) {
            check.asks("moveAt(0) behind the end", end, x -> x.moveAt(0), NONE);
        }
    }

    // repeats, mostRepeats: "0 if the game has not begun"

    static void promise12NoneAheadOfTheGame() {
        check.asks("repeats() of nothing", BargeChess::new, BargeChess::repeats, 0);
        check.asks("repeats() ahead of the game", () -> Check.set(SMALL), BargeChess::repeats, 0);
    }

    // "Behind the end of a game its positions are told as they came."

    static void promise12BehindEachEnd() {
        int[] want = {1, 1, 3, 1, 1, 2};
        for (int end = 0; end < want.length; end++) {
            check.asks("repeats() behind the end " + end, ends().get(end), BargeChess::repeats, want[end]);
        }
    }

    static void promise12GoesBackByUndo() {
        BargeChess x = played(SMALL, "0u;35d;6d;29u").get();
        check.due("repeats()", x.repeats(), 2);
        x.undo();
        check.due("repeats() undone", x.repeats(), 1);
        check.due("the same again", x.move(29, 0), 2);
        x.undo();
        check.due("another one", x.move(29, 3), 1);
    }

    static void promise13NoneAheadOfTheGame() {
        check.asks("mostRepeats() of nothing", BargeChess::new, BargeChess::mostRepeats, 0);
        check.asks("mostRepeats() ahead of the game", () -> Check.set(SMALL), BargeChess::mostRepeats, 0);
    }

    static void promise13BehindEachEnd() {
        int[] want = {1, 1, 3, 1, 1, 2};
        for (int end = 0; end < want.length; end++) {
            check.asks("mostRepeats() behind the end " + end, ends().get(end), BargeChess::mostRepeats, want[end]);
        }
    }

    static void promise13OfAnEarlierPosition() {
        BargeChess x = played(SMALL, "0u;35d;6d;29u;0r").get();
        check.due("repeats()", x.repeats(), 1);
        check.due("mostRepeats()", x.mostRepeats(), 2);
        x.undo();
        x.undo();
        check.due("mostRepeats() undone", x.mostRepeats(), 1);
    }

    // "A call that returns an error code leaves the state unchanged": and so do all that only ask

    static void promise6To13AskingChangesNothing() {
        for (Supplier<BargeChess> state : states()) {
            BargeChess x = state.get();
            String before = Check.all(x);
            x.squareOf(0, 0);
            x.lockOf(0, 0);
            x.sideOf(0, 0);
            x.moves();
            x.movesAgain();
            x.moveAt(0);
            x.repeats();
            x.mostRepeats();
            x.wouldPush(0, 0);
            x.firstTake();
            x.ways(1);
            x.ways(2);
            x.turnsIn(0);
            x.tideIn(0);
            x.describe(0);
            x.sign(0);
            x.refusal(0);
            x.account(0);
            x.mean();
            check.due("all", Check.all(x), before);
            check.due("refusal(0)", x.refusal(0), NOTHING);
        }
    }
}
