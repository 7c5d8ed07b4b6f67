import java.util.function.Supplier;

/** The boundary cases of promise 5 up to the end of a move: what is refused, pushed, and becomes a tug. */
public final class BoundaryMoveTest {
    private static final Check check = new Check();
    private static final int NONE = BargeChess.NONE;
    private static final int BAD = BargeChess.BAD;
    private static final int NOTHING = BargeChess.NOTHING;
    private static final int[] NO_SQUARES = {-1, -2, -36, 36, 37, 71, Integer.MIN_VALUE, Integer.MAX_VALUE};
    private static final int[] NO_DIRECTIONS = {-1, -2, 4, 5, Integer.MIN_VALUE, Integer.MAX_VALUE};

    public static void main(String[] args) throws ReflectiveOperationException {
        check.promises(BoundaryMoveTest.class);
        check.end("BoundaryMoveTest");
    }

    private static Supplier<BargeChess> begun(String rows) {
        return () -> Check.begun(rows);
    }

    private static Supplier<BargeChess> played(String rows, String moves) {
        return () -> {
            BargeChess x = Check.begun(rows);
            Check.play(x, moves);
            return x;
        };
    }

    private static void refuses(Supplier<BargeChess> made, int square, int direction, int... want) {
        check.refuses("move(" + square + ", " + direction + ")", made, x -> x.move(square, direction), want);
    }

    /** Looks at the board behind a move, and at how many the mover's side has pushed by it. */
    private static void pushes(String rows, int square, int direction, String want, int many) {
        BargeChess x = Check.begun(rows);
        int piece = x.squareOf(square, 0);
        String call = rows + " move(" + square + ", " + direction + ")";
        check.due(call, x.move(square, direction) >= 0 ? 1 : 0, 1);
        check.due("board behind " + call, Check.board(x), want);
        check.due("pushed behind " + call, x.sideOf(piece / 2, 4), many);
        check.due("gone behind " + call, x.account(9), signs(rows) - signs(want));
    }

    private static int signs(String rows) {
        return rows.replaceAll("[^btBT]", "").length();
    }

    // "NONE if there is no such square; BAD if there is no such direction"

    static void promise5NoSuchSquare() {
        for (int square : NO_SQUARES) {
            check.error("move(" + square + ", 0)", begun("t..... ...... ...... ...... ...... .....T"),
                x -> x.move(square, 0), NONE);
        }
    }

    static void promise5NoSuchDirection() {
        for (int direction : NO_DIRECTIONS) {
            check.error("move(0, " + direction + ")", begun("t..... ...... ...... ...... ...... .....T"),
                x -> x.move(0, direction), BAD);
        }
    }

    static void promise5NoSquareAheadOfAll() {
        check.error("move(36, 4)", begun("t..... ...... ...... ...... ...... .....T"), x -> x.move(36, 4), NONE);
        check.error("move(-1, -1) ahead of the game", BargeChess::new, x -> x.move(-1, -1), NONE);
        check.error("move(36, 0) behind the end", played("Bt.... ...... ...... ...... ...... ......", "1l"),
            x -> x.move(36, 0), NONE);
    }

    static void promise5BadAheadOfRefused() {
        check.error("move(0, 4) ahead of the game", BargeChess::new, x -> x.move(0, 4), BAD);
        check.error("move(0, -1) behind the end", played("Bt.... ...... ...... ...... ...... ......", "1l"),
            x -> x.move(0, -1), BAD);
        check.error("move(35, 4) of the other side", begun("t..... ...... ...... ...... ...... .....T"),
            x -> x.move(35, 4), BAD);
    }

    // "3, the game has not begun: 0"

    static void promise5GameHasNotBegun() {
        Supplier<BargeChess> set = () -> Check.set("b..... ...... ...... ...... ...... .....T");
        refuses(set, 0, 0, 3, 0);
        refuses(set, 0, 2, 3, 0);
        refuses(set, 35, 3, 3, 0);
        refuses(set, 20, 1, 3, 0);
        refuses(BargeChess::new, 0, 0, 3, 0);
    }

    // "4, the game is over: how it ended, 1, 2 or 3"

    static void promise5GameIsOver() {
        Supplier<BargeChess> one = played("Bt.... ...... ...... ...... ...... ......", "1l");
        Supplier<BargeChess> two = played("...... ...... ...... b..... .T.... ......", "18u;25l");
        Supplier<BargeChess> three = played("t..... ...... ...... ...... ...... .....T", "0u;35d;6d;29u;0u;35d;6d;29u");
        Supplier<BargeChess> atOnce = begun("...... ...... ...... ...... ...... bBB...");
        refuses(one, 0, 0, 4, 1);
        refuses(two, 24, 0, 4, 2);
        refuses(three, 0, 0, 4, 3);
        refuses(atOnce, 31, 1, 4, 2);
    }

    static void promise5GameIsOverAheadOfTheOthers() {
        Supplier<BargeChess> one = played("Bt.... ...... ...... ...... ...... ......", "1l");
        refuses(one, 20, 0, 4, 1);
        refuses(one, 0, 2, 4, 1);
        Supplier<BargeChess> three = played("t..... ...... ...... ...... ...... .....T", "0u;35d;6d;29u;0u;35d;6d;29u");
        refuses(three, 35, 0, 4, 3);
        refuses(three, 0, 3, 4, 3);
    }

    static void promise5GameIsOverByTurns() {
        Supplier<BargeChess> last = () -> {
            BargeChess x = Check.begun("t....T ...... ...... ...... ...... ......");
            check.due("the turn 119", Check.rounds(x, 0, 119), 1);
            check.due("it goes on", x.account(5), 0);
            check.due("the turn 120", x.move(4, 0), 0);
            return x;
        };
        refuses(last, 0, 0, 4, 3);
        refuses(last, 20, 0, 4, 3);
    }

    // "8, no piece of the side whose turn it is stands on the square: this side"

    static void promise5NoPieceOfTheSide() {
        Supplier<BargeChess> first = begun("b..... ...... ...... ...... ...... .....T");
        refuses(first, 20, 0, 8, 0);
        refuses(first, 35, 3, 8, 0);
        Supplier<BargeChess> second = played("b..... ...... ...... ...... ...... .....T", "0u");
        refuses(second, 20, 0, 8, 1);
        refuses(second, 6, 0, 8, 1);
    }

    static void promise5NoPieceOfTheSideAheadOfTheCauses() {
        Supplier<BargeChess> first = begun("b..... ...... ...... ...... ...... .....B");
        refuses(first, 35, 0, 8, 0);
        refuses(first, 35, 1, 8, 0);
        refuses(first, 5, 1, 8, 0);
        Supplier<BargeChess> second = played("b..... ...... ...... ...... ...... .....B", "0u");
        refuses(second, 6, 2, 8, 1);
        refuses(second, 6, 3, 8, 1);
    }

    // "Barges of the side 0 go up, right and left, those of the side 1 down, right and left"

    static void promise5BargesDirections() {
        pushes("...... ...... ..b... ...... ...... .....T", 14, 0, "...... ...... ...... ..b... ...... .....T", 0);
        pushes("...... ...... ..b... ...... ...... .....T", 14, 1, "...... ...... ...b.. ...... ...... .....T", 0);
        pushes("...... ...... ..b... ...... ...... .....T", 14, 3, "...... ...... .b.... ...... ...... .....T", 0);
        refuses(begun("...... ...... ..b... ...... ...... .....T"), 14, 2, 9, 2, NOTHING, 10, 0);
        Supplier<BargeChess> second = played("t..... ...... ..B... ...... ...... ......", "0u");
        refuses(second, 14, 0, 9, 0, NOTHING, 10, 0);
        int[] squares = {NOTHING, 15, 8, 13};
        for (int direction = 1; direction < 4; direction++) {
            BargeChess x = second.get();
            check.due("move(14, " + direction + ")", x.move(14, direction), 1);
            check.due("where it came", x.squareOf(squares[direction], 0), 2);
        }
    }

    // "tugs go in all directions"

    static void promise5TugsDirections() {
        int[] squares = {20, 15, 8, 13};
        for (int direction = 0; direction < 4; direction++) {
            BargeChess x = Check.begun("...... ...... ..t... ...... ...... .....T");
            check.due("move(14, " + direction + ")", x.move(14, direction), 1);
            check.due("where it came", x.squareOf(squares[direction], 0), 1);
            x = Check.begun("t..... ...... ..T... ...... ...... ......");
            x.move(0, 0);
            check.due("move(14, " + direction + ")", x.move(14, direction), 1);
            check.due("where it came", x.squareOf(squares[direction], 0), 3);
        }
    }

    // "no piece goes off it by itself"; "11, the square is off the board: the square of the piece"

    private static String with(int square, char sign, int other, char otherSign) {
        StringBuilder squares = new StringBuilder("....................................");
        squares.setCharAt(square, sign);
        squares.setCharAt(other, otherSign);
        return squares.toString();
    }

    private static boolean off(int square, int direction) {
        return direction == 0 && square >= 30 || direction == 1 && square % 6 == 5
            || direction == 2 && square < 6 || direction == 3 && square % 6 == 0;
    }

    /** Where a second piece stands out of the way. */
    private static int away(int square) {
        return (square + 14) % 36;
    }

    static void promise5EverySquareAndDirection() {
        int[] steps = {6, 1, -6, -1};
        for (int square = 0; square < 36; square++) {
            for (int direction = 0; direction < 4; direction++) {
                String rows = with(square, 't', away(square), 'T');
                if (off(square, direction)) {
                    refuses(begun(rows), square, direction, 9, direction, NOTHING, 11, square);
                } else {
                    BargeChess x = Check.begun(rows);
                    check.due("move(" + square + ", " + direction + ")", x.move(square, direction), 1);
                    check.due("where it came", x.squareOf(square + steps[direction], 0), 1);
                    check.due("where it was", x.squareOf(square, 0), NOTHING);
                    check.due("account(6)", x.account(6), 2);
                }
            }
        }
    }

    static void promise5BargesAtTheBoardsEnds() {
        for (int square = 0; square < 36; square++) {
            for (int direction = 0; direction < 4; direction++) {
                if (off(square, direction)) {
                    String rows = with(square, 'b', away(square), 'T');
                    if (direction == 2) {
                        refuses(begun(rows), square, 2, 9, 2, NOTHING, 10, 0);
                    } else {
                        refuses(begun(rows), square, direction, 9, direction, NOTHING, 11, square);
                    }
                }
            }
        }
    }

    // "the first that applies of: 10, the piece does not go in the direction: its kind"

    static void promise5WrongWayAheadOfTheBoardsEnd() {
        refuses(begun("b..... ...... ...... ...... ...... .....T"), 0, 2, 9, 2, NOTHING, 10, 0);
        refuses(played("t..... ...... ...... ...... ...... .....B", "0u"), 35, 0, 9, 0, NOTHING, 10, 0);
    }

    static void promise5WrongWayAheadOfAClosedLock() {
        refuses(played("t2.... .b.... ...... ...... ...... .....T", "0u;35d"), 7, 2, 9, 2, NOTHING, 10, 0);
    }

    static void promise5WrongWayAheadOfTooMany() {
        refuses(begun("..B... ..B... ..b... ...... ...... .....T"), 14, 2, 9, 2, NOTHING, 10, 0);
    }

    // "12, a lock is closed: the square of it"; "that beside the piece, or the one onto which the last one would be pushed"

    static void promise5ClosedLockBesideThePiece() {
        String rows = "...... ..2... .2t2.. ..2... ...... T....b";
        Supplier<BargeChess> closed = played(rows, "35l;30d");
        int[] squares = {20, 15, 8, 13};
        for (int direction = 0; direction < 4; direction++) {
            refuses(closed, 14, direction, 9, direction, NOTHING, 12, squares[direction]);
        }
    }

    static void promise5ClosedLockBehindOne() {
        refuses(played("bB2... ...... ...... ...... ...... T....b", "35l;30d"), 0, 1, 9, 1, NOTHING, 12, 2);
        refuses(played("...2Bb ...... ...... ...... ...... T....b", "35l;30d"), 5, 3, 9, 3, NOTHING, 12, 3);
        refuses(played("tB2... ...... ...... ...... ...... T....b", "35l;30d"), 0, 1, 9, 1, NOTHING, 12, 2);
    }

    static void promise5ClosedLockBehindTwo() {
        refuses(played("tBb2.. ...... ...... ...... ...... T....b", "35l;30d"), 0, 1, 9, 1, NOTHING, 12, 3);
        refuses(played("2..... b..... B..... t..... ...... T....b", "35l;30d"), 18, 2, 9, 2, NOTHING, 12, 0);
    }

    static void promise5ClosedLockAheadOfTooMany() {
        refuses(played("bBB2.. ...... ...... ...... ...... T....b", "35l;30d"), 0, 1, 9, 1, NOTHING, 12, 3);
        refuses(played("tBBB2. ...... ...... ...... ...... T....b", "35l;30d"), 0, 1, 9, 1, NOTHING, 12, 4);
        refuses(played("bBBBB2 ...... ...... ...... ...... T....b", "35l;30d"), 0, 1, 9, 1, NOTHING, 12, 5);
    }

    static void promise5ClosedLockBehindAGap() {
        BargeChess x = played("bB.2.. ...... ...... ...... ...... T....b", "35l;30d").get();
        check.due("the lock is closed", x.lockOf(0, 2), 1);
        check.due("up to the lock", x.move(0, 1), 1);
        check.due("the row", Check.row(x, 0), ".bB#..");
    }

    static void promise5ClosedLockInTheNextRow() {
        BargeChess x = played("....tB 2..... ...... ...... ...... T....b", "35l;30d").get();
        check.due("the lock is closed", x.lockOf(0, 2), 1);
        check.due("off the board beside it", x.move(4, 1), 1);
        check.due("account(9)", x.account(9), 1);
    }

    // "A closed lock stays under no piece, so that one on which a piece stands is open."

    static void promise5LockUnderAPieceIsOpen() {
        BargeChess x = Check.begun("tb2... ...... ...... ...... ...... .....T");
        check.due("a piece comes onto the lock", Check.play(x, "0r;35d"), 1);
        check.due("the row", Check.row(x, 0), ".tb...");
        check.due("lockOf(0, 2)", x.lockOf(0, 2), 0);
        check.due("squareOf(2, 2)", x.squareOf(2, 2), 0);
        check.due("it is pushed off, and another comes", x.move(1, 1), 1);
        check.due("the row", Check.row(x, 0), "..tb..");
    }

    static void promise5OpenLockHindersNobody() {
        pushes("t2.... ...... ...... ...... ...... .....T", 0, 1, ".t.... ...... ...... ...... ...... .....T", 0);
        pushes("tB2... ...... ...... ...... ...... .....T", 0, 1, ".tB... ...... ...... ...... ...... .....T", 1);
        pushes("tBB2.. ...... ...... ...... ...... .....T", 0, 1, ".tBB.. ...... ...... ...... ...... .....T", 2);
    }

    // "a barge pushes 1 piece at most, a tug 2"; "13, too many pieces would be pushed: how many"
    // "Too many are all that stand in the line without a gap."

    static void promise5TooManyForABarge() {
        refuses(begun("bBB... ...... ...... ...... ...... .....T"), 0, 1, 9, 1, NOTHING, 13, 2);
        refuses(begun("bBBB.. ...... ...... ...... ...... .....T"), 0, 1, 9, 1, NOTHING, 13, 3);
        refuses(begun("bBbBb. ...... ...... ...... ...... .....T"), 0, 1, 9, 1, NOTHING, 13, 4);
        refuses(begun("bBBBBB ...... ...... ...... ...... .....T"), 0, 1, 9, 1, NOTHING, 13, 5);
        refuses(begun("bBB.BB ...... ...... ...... ...... .....T"), 0, 1, 9, 1, NOTHING, 13, 2);
        refuses(begun("...... ...... b..... B..... B..... B....T"), 12, 0, 9, 0, NOTHING, 13, 3);
        refuses(begun("...... ...... ...BBb ...... ...... .....T"), 17, 3, 9, 3, NOTHING, 13, 2);
    }

    static void promise5TooManyForATug() {
        refuses(begun("tBBB.. ...... ...... ...... ...... .....T"), 0, 1, 9, 1, NOTHING, 13, 3);
        refuses(begun("tbBbB. ...... ...... ...... ...... .....T"), 0, 1, 9, 1, NOTHING, 13, 4);
        refuses(begun("tbbbbb ...... ...... ...... ...... .....T"), 0, 1, 9, 1, NOTHING, 13, 5);
        refuses(begun("tBBB.B ...... ...... ...... ...... .....T"), 0, 1, 9, 1, NOTHING, 13, 3);
        refuses(begun("B..... B..... B..... t..... ...... .....T"), 18, 2, 9, 2, NOTHING, 13, 3);
        refuses(begun("...... ...... BBBt.. ...... ...... .....T"), 15, 3, 9, 3, NOTHING, 13, 3);
    }

    static void promise5TooManyAtTheBoardsEnd() {
        refuses(begun("...bBB ...... ...... ...... ...... .....T"), 3, 1, 9, 1, NOTHING, 13, 2);
        refuses(begun("..tBBB ...... ...... ...... ...... .....T"), 2, 1, 9, 1, NOTHING, 13, 3);
    }

    static void promise5TooManyForTheSideOne() {
        refuses(played("t..Bbb ...... ...... ...... ...... ......", "0u"), 3, 1, 9, 1, NOTHING, 13, 2);
        refuses(played("t.Tbbb ...... ...... ...... ...... ......", "0u"), 2, 1, 9, 1, NOTHING, 13, 3);
    }

    static void promise5ABargePushesOneOfWhicheverSide() {
        pushes("bB.... ...... ...... ...... ...... .....T", 0, 1, ".bB... ...... ...... ...... ...... .....T", 1);
        pushes("bb.... ...... ...... ...... ...... .....T", 0, 1, ".bb... ...... ...... ...... ...... .....T", 1);
        pushes("bT.... ...... ...... ...... ...... .....T", 0, 1, ".bT... ...... ...... ...... ...... .....T", 1);
        pushes("bt.... ...... ...... ...... ...... .....T", 0, 1, ".bt... ...... ...... ...... ...... .....T", 1);
    }

    static void promise5ATugPushesTwoOfWhicheverSides() {
        for (String two : new String[] {"bb", "bB", "Bb", "BB", "tT", "Tt"}) {
            pushes("t" + two + "... ...... ...... ...... ...... .....T", 0, 1,
                ".t" + two + ".. ...... ...... ...... ...... .....T", 2);
        }
    }

    // "without a gap"

    static void promise5AGapEndsTheLine() {
        pushes("bB.BB. ...... ...... ...... ...... .....T", 0, 1, ".bBBB. ...... ...... ...... ...... .....T", 1);
        pushes("b.BB.. ...... ...... ...... ...... .....T", 0, 1, ".bBB.. ...... ...... ...... ...... .....T", 0);
        pushes("tBB.B. ...... ...... ...... ...... .....T", 0, 1, ".tBBB. ...... ...... ...... ...... .....T", 2);
    }

    // "in this line": it ends where the board does, and what stands behind the mover stays

    static void promise5TheLineEndsWithTheRow() {
        pushes("....tB BBB... ...... ...... ...... .....T", 4, 1, ".....t BBB... ...... ...... ...... .....T", 1);
        pushes("...... ...BBB Bt.... ...... ...... .....T", 13, 3, "...... ...BBB t..... ...... ...... .....T", 1);
        pushes("...... ...... ...... ...... t..... Bb...T", 24, 0, "...... ...... ...... ...... ...... tb...T", 1);
        pushes("B..... t..... ...... ...... ...... .....T", 6, 2, "t..... ...... ...... ...... ...... .....T", 1);
    }

    static void promise5WhatStandsBehindTheMoverStays() {
        pushes("BtB... ...... ...... ...... ...... .....T", 1, 1, "B.tB.. ...... ...... ...... ...... .....T", 1);
        pushes("b..... t..... B..... ...... ...... .....T", 6, 0, "b..... ...... t..... B..... ...... .....T", 1);
    }

    // "What is pushed off the board is gone"

    static void promise5OneIsPushedOffInEachDirection() {
        pushes("...... ...... ...... ...... .t.... .B...T", 25, 0, "...... ...... ...... ...... ...... .t...T", 1);
        pushes("...... ...... ....bB ...... ...... .....T", 16, 1, "...... ...... .....b ...... ...... .....T", 1);
        pushes(".B.... .t.... ...... ...... ...... .....T", 7, 2, ".t.... ...... ...... ...... ...... .....T", 1);
        pushes("...... ...... Bb.... ...... ...... .....T", 13, 3, "...... ...... b..... ...... ...... .....T", 1);
    }

    static void promise5OfTwoTheLastIsPushedOff() {
        pushes("...tBb ...... ...... ...... ...... .....T", 3, 1, "....tB ...... ...... ...... ...... .....T", 2);
        pushes("...tbB ...... ...... ...... ...... .....T", 3, 1, "....tb ...... ...... ...... ...... .....T", 2);
    }

    static void promise5ABargeThatIsPushedToTheEdgeStays() {
        pushes("...bB. ...... ...... ...... ...... .....T", 3, 1, "....bB ...... ...... ...... ...... .....T", 1);
        pushes("..tBB. ...... ...... ...... ...... .....T", 2, 1, "...tBB ...... ...... ...... ...... .....T", 2);
    }

    // "A barge that comes to the last row of its side by its own move becomes a tug"

    static void promise5BecomesTugInTheRowFive() {
        pushes("...... ...... ...... ...... b..... .....T", 24, 0, "...... ...... ...... ...... ...... t....T", 0);
        pushes("...... ...... ...... b..... ...... .....T", 18, 0, "...... ...... ...... ...... b..... .....T", 0);
    }

    static void promise5BecomesTugInTheRowZero() {
        BargeChess x = played("t..... ...... B..... ...... ...... .....B", "0r").get();
        check.due("to the row 1", x.move(12, 2), 1);
        check.due("a barge", x.squareOf(6, 0), 2);
        check.due("on", Check.play(x, "1r;6d"), 1);
        check.due("a tug", x.squareOf(0, 0), 3);
        check.due("sideOf(1, 5)", x.sideOf(1, 5), 1);
        check.due("sideOf(0, 5)", x.sideOf(0, 5), 0);
    }

    static void promise5BecomesNoTugInTheOthersLastRow() {
        pushes("b..... ...... ...... ...... ...... .....T", 0, 1, ".b.... ...... ...... ...... ...... .....T", 0);
        BargeChess x = played("t..... ...... ...... ...... ...... .....B", "0u").get();
        check.due("along the row 5", x.move(35, 3), 1);
        check.due("a barge", x.squareOf(34, 0), 2);
        check.due("account(11)", x.account(11), 0);
    }

    // "A barge that was in its last row already becomes a tug by its own move within it, too"

    static void promise5BecomesTugWithinItsLastRow() {
        pushes("...... ...... ...... ...... ...... b....T", 30, 1, "...... ...... ...... ...... ...... .t...T", 0);
        pushes("...... ...... ...... ...... ...... T....b", 35, 3, "...... ...... ...... ...... ...... T...t.", 0);
        BargeChess x = played("B..... ...... ...... ...... ...... .....t", "35d").get();
        check.due("along the row 0", x.move(0, 1), 1);
        check.due("a tug", x.squareOf(1, 0), 3);
    }

    // "Pieces that are pushed become no tugs."

    static void promise5PushedPiecesBecomeNoTugs() {
        pushes("...... ...... ...... t..... b..... .....T", 18, 0, "...... ...... ...... ...... t..... b....T", 1);
        pushes("...... ...... ...... ...... ...... tb...T", 30, 1, "...... ...... ...... ...... ...... .tb..T", 1);
        BargeChess x = played("t..... B..... T..... ...... ...... ......", "0r").get();
        check.due("pushed to the row 0", x.move(12, 2), 1);
        check.due("a barge", x.squareOf(0, 0), 2);
        check.due("account(11)", x.account(11), 0);
    }

    static void promise5PushedThereItBecomesOneByItsOwnMove() {
        BargeChess x = played("...... ...... ...... t..... b..... .....T", "18u;35d").get();
        check.due("the row 5", Check.row(x, 5), "b.....");
        check.due("along it", x.move(30, 1), 1);
        check.due("the row 5", Check.row(x, 5), ".t....");
        check.due("account(11)", x.account(11), 1);
    }

    // "The last row of a barge is told by its side alone, wherever a lock is."

    static void promise5BecomesTugOnALock() {
        pushes("...... ...... ...... ...... b..... 3....T", 24, 0, "...... ...... ...... ...... ...... t....T", 0);
        pushes("...... ...... ...... ...... b..... 2345.T", 24, 0, "...... ...... ...... ...... ...... t===.T", 0);
    }

    static void promise5ATugBecomesNothingElse() {
        BargeChess x = Check.begun("...... ...... ...... ...... t..... .....T");
        check.due("to the row 5", x.move(24, 0), 1);
        check.due("a tug", x.squareOf(30, 0), 1);
        check.due("account(11)", x.account(11), 0);
    }

    // Its strength in that move is a barge's, and a tug's in the next one.

    static void promise5PushesAsABargeToItsLastRow() {
        refuses(begun("b..... ...... ...... ...... ...... bBB..T"), 30, 1, 9, 1, NOTHING, 13, 2);
        pushes("...... ...... ...... ...... ...... bB...T", 30, 1, "...... ...... ...... ...... ...... .tB..T", 1);
    }

    static void promise5PushesAndGoesAsATugAfterwards() {
        BargeChess x = played("...... ...... ...... ...... b..... .BB..T", "24u;35d").get();
        check.due("two", x.move(30, 1), 1);
        check.due("the row 5", Check.row(x, 5), ".tBB..");
        x = played("...... ...... ...... ...... b..... .BB..T", "24u;35d").get();
        check.due("down", x.move(30, 2), 1);
        check.due("squareOf(24, 0)", x.squareOf(24, 0), 1);
    }

    // "Returns how often the position then has come"

    static void promise5AnswersHowOftenThePositionHasCome() {
        BargeChess x = Check.begun("t..... ...... ...... ...... ...... .....T");
        String[] moves = {"0u", "35d", "6d", "29u", "0u", "35d", "6d", "29u"};
        int[] want = {1, 1, 1, 2, 2, 2, 2, 3};
        for (int turn = 0; turn < moves.length; turn++) {
            check.due("the move " + turn, Check.play(x, moves[turn]), want[turn]);
            check.due("repeats()", x.repeats(), want[turn]);
        }
    }

    // "0 if the game ended otherwise than by that"

    static void promise5AnswersZeroAtAnotherEnd() {
        BargeChess x = Check.begun("Bt.... ...... ...... ...... ...... ......");
        check.due("the last piece", x.move(1, 3), 0);
        check.due("repeats()", x.repeats(), 1);
        x = Check.begun("Bb.b.. ...... ...... ...... ...... ......");
        check.due("no move", x.move(3, 3), 0);
        check.due("repeats()", x.repeats(), 1);
        x = Check.begun("t....T ...... ...... ...... ...... ......");
        check.due("the turn 120", Check.rounds(x, 0, 120), 0);
        check.due("repeats()", x.repeats(), 2);
    }

    // "A call that returns an error code leaves the state unchanged": the game goes on as if it had not been

    static void promise5RefusedMovesAreNoTurns() {
        BargeChess x = Check.begun("t..... ...... 2..... ...... ...... .....T");
        BargeChess y = Check.begun("t..... ...... 2..... ...... ...... .....T");
        String[] moves = {"0u", "35d", "6r", "29u"};
        for (String move : moves) {
            x.move(20, 0);
            x.move(36, 0);
            x.move(0, 4);
            x.move(35, 0);
            x.move(0, 3);
            check.due(move, Check.play(x, move), Check.play(y, move));
        }
        check.due("all", Check.all(x), Check.all(y));
    }
}
