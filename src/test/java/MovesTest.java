/** Promise 5, move: what it refuses, what it pushes, locks, tides, positions, ends. */
public final class MovesTest {
    private static final Check check = new Check();
    private static final int NO = BargeChess.NOTHING;

    public static void main(String[] args) {
        promise5Errors();
        promise5Causes();
        promise5ClosedLocks();
        promise5ClosedLockAheadOfTooMany();
        promise5Directions();
        promise5BargePushes();
        promise5TugPushes();
        promise5PushesOff();
        promise5BecomesTug();
        promise5LocksTurn();
        promise5LockUnderPiece();
        promise5LocksTurnAheadOfTide();
        promise5TideUp();
        promise5TideDown();
        promise5TellsPositionsApart();
        promise5EndWithoutPieces();
        promise5EndByPositions();
        promise5EndWithoutMoves();
        promise5EndByTurns();
        check.end("MovesTest");
    }

    private static void refusedMove(BargeChess x, int square, int direction, int cause, int causeDetail) {
        String call = "move(" + square + ", " + direction + ")";
        int turn = x.account(0);
        int piece = x.squareOf(square, 0);
        check.due(call, x.move(square, direction), BargeChess.REFUSED);
        check.refused(call, x, 9, direction, NO, cause, causeDetail);
        check.due("account(0) behind " + call, x.account(0), turn);
        check.due("the piece behind " + call, x.squareOf(square, 0), piece);
    }

    private static void promise5Errors() {
        BargeChess x = Check.set("t..... ...... ...... ...... ...... .....T");
        check.due("move(36, 4)", x.move(36, 4), BargeChess.NONE);
        check.due("move(-1, 0)", x.move(-1, 0), BargeChess.NONE);
        check.due("move(0, 4)", x.move(0, 4), BargeChess.BAD);
        check.due("move(0, -1)", x.move(0, -1), BargeChess.BAD);
        check.due("refusal(0)", x.refusal(0), NO);
        check.due("move ahead of the game", x.move(0, 0), BargeChess.REFUSED);
        check.refused("move ahead of the game", x, 3, 0);
        x.begin();
        String before = Check.all(x);
        check.due("the other side's", x.move(35, 3), BargeChess.REFUSED);
        check.refused("the other side's", x, 8, 0);
        check.due("nobody's", x.move(1, 0), BargeChess.REFUSED);
        check.refused("nobody's", x, 8, 0);
        check.due("all", Check.all(x), before);
        check.due("move(0, 0)", x.move(0, 0), 1);
        check.due("the side 1's turn", x.move(6, 0), BargeChess.REFUSED);
        check.refused("the side 1's turn", x, 8, 1);
    }

    private static void promise5Causes() {
        BargeChess x = Check.begun("bBB..t ...bbb B..... ...... T..... T.....");
        refusedMove(x, 0, 2, 10, 0);
        refusedMove(x, 0, 3, 11, 0);
        refusedMove(x, 0, 1, 13, 2);
        refusedMove(x, 5, 2, 11, 5);
        refusedMove(x, 11, 1, 11, 11);
        refusedMove(x, 9, 1, 13, 2);
        check.due("one before a barge, at the board's end", x.move(10, 1), 1);
        refusedMove(x, 12, 0, 10, 0);
        refusedMove(x, 30, 0, 11, 30);
        x = Check.begun("tBBBb. ...... ...... ...... ...... ......");
        refusedMove(x, 0, 1, 13, 4);
        x = Check.begun("tBBBbb ...... ...... ...... ...... ......");
        refusedMove(x, 0, 1, 13, 5);
        x = Check.begun("tBB.bb ...... ...... ...... ...... ......");
        check.due("two before a tug, then a gap", x.move(0, 1), 1);
    }

    private static void promise5ClosedLocks() {
        BargeChess x = Check.begun("t..... 2..... ...... b..... bB2... BBBBB2");
        check.due("to turn 2", Check.play(x, "0r;34d"), 1);
        check.due("board", Check.board(x), ".t.... #..... ...... b..... bB#.B. BBBB.#");
        refusedMove(x, 24, 1, 12, 26);
        check.due("to turn 4", Check.play(x, "1l;28d"), 1);
        check.due("board", Check.board(x), "t..... =..... ...... b...B. bB=... BBBB.=");
        check.due("an open lock is no hindrance", x.move(24, 1), 1);
        check.due("board", Check.board(x), "t..... =..... ...... b...B. .bB... BBBB.=");
    }

    private static void promise5ClosedLockAheadOfTooMany() {
        BargeChess x = Check.begun("tbbb2T ...... ...... ...... ...... 2.....");
        check.due("to turn 2", Check.play(x, "1u;5u"), 1);
        check.due("board", Check.board(x), "t.bb#. .b...T ...... ...... ...... #.....");
        refusedMove(x, 2, 1, 12, 4);
        refusedMove(x, 3, 1, 12, 4);
        x = Check.begun("bbbb2T ...... ...... ...... ...... b.....");
        check.due("to turn 2", Check.play(x, "30r;5u"), 1);
        refusedMove(x, 0, 1, 12, 4);
        refusedMove(x, 0, 2, 10, 0);
        check.due("away from the lock", x.move(3, 3), BargeChess.REFUSED);
        check.refused("away from the lock", x, 9, 3, NO, 13, 3);
    }

    private static void promise5Directions() {
        BargeChess x = Check.begun("...... .t.... ...... ...... ....T. ......");
        check.due("up and right", Check.play(x, "7u;28r"), 1);
        check.due("board", Check.board(x), "...... ...... .t.... ...... .....T ......");
        check.due("left and down", Check.play(x, "13l;29d"), 1);
        check.due("board", Check.board(x), "...... ...... t..... .....T ...... ......");
        x = Check.begun("...... .b.... ...... ...... ....B. ......");
        check.due("left and right", Check.play(x, "7l;28r"), 1);
        check.due("right and left", Check.play(x, "6r;29l"), 2);
        check.due("up and down", Check.play(x, "7u;28d"), 1);
        check.due("board", Check.board(x), "...... ...... .b.... ....B. ...... ......");
    }

    private static void promise5BargePushes() {
        BargeChess x = Check.begun("b..... B..... ...... ...... ...... .....T");
        check.due("one of the other side", x.move(0, 0), 1);
        check.due("board", Check.board(x), "...... b..... B..... ...... ...... .....T");
        check.due("sideOf(0, 4)", x.sideOf(0, 4), 1);
        check.due("sideOf(1, 4)", x.sideOf(1, 4), 0);
        check.due("account(10)", x.account(10), 1);
        check.due("none", x.move(12, 1), 1);
        check.due("account(10)", x.account(10), 1);
        x = Check.begun("bb.... ...... ...... ...... ...... .....T");
        check.due("one of its own side", x.move(0, 1), 1);
        check.due("board", Check.board(x), ".bb... ...... ...... ...... ...... .....T");
        check.due("sideOf(0, 4)", x.sideOf(0, 4), 1);
    }

    private static void promise5TugPushes() {
        BargeChess x = Check.begun("...... t..... b..... T..... ...... .....B");
        check.due("two", x.move(6, 0), 1);
        check.due("board", Check.board(x), "...... ...... t..... b..... T..... .....B");
        check.due("sideOf(0, 4)", x.sideOf(0, 4), 2);
        check.due("two back: the first position again", x.move(24, 2), 2);
        check.due("board", Check.board(x), "...... t..... b..... T..... ...... .....B");
        check.due("sideOf(1, 4)", x.sideOf(1, 4), 2);
        check.due("account(10)", x.account(10), 4);
        check.due("account(9)", x.account(9), 0);
    }

    private static void promise5PushesOff() {
        BargeChess x = Check.begun("Bt.... ...... ...... ...... T....b .....B");
        check.due("off to the left", x.move(1, 3), 1);
        check.due("board", Check.board(x), "t..... ...... ...... ...... T....b .....B");
        check.due("sideOf(1, 3)", x.sideOf(1, 3), 1);
        check.due("sideOf(1, 0)", x.sideOf(1, 0), 2);
        check.due("off above", Check.play(x, "24r;29u"), 1);
        check.due("board", Check.board(x), "t..... ...... ...... ...... .T.... .....t");
        check.due("account(9)", x.account(9), 2);
        check.due("account(6)", x.account(6), 3);
        x = Check.begun("....tb ...... ...... ...... ...... T.....");
        check.due("its own piece off to the right", x.move(4, 1), 1);
        check.due("sideOf(0, 3)", x.sideOf(0, 3), 1);
        check.due("sideOf(1, 3)", x.sideOf(1, 3), 0);
        check.due("sideOf(0, 4)", x.sideOf(0, 4), 1);
        x = Check.begun("t..... ...... ...... ...tbB ...... T.....");
        check.due("the second one off", x.move(21, 1), 1);
        check.due("board", Check.board(x), "t..... ...... ...... ....tb ...... T.....");
        check.due("sideOf(0, 4)", x.sideOf(0, 4), 2);
        x = Check.begun("....b. ....T. ...... ...... ...... t.....");
        check.due("off below", Check.play(x, "30r;10d"), 1);
        check.due("board", Check.board(x), "....T. ...... ...... ...... ...... .t....");
        check.due("sideOf(0, 3)", x.sideOf(0, 3), 1);
    }

    private static void promise5BecomesTug() {
        BargeChess x = Check.begun("b..... B..... ...... ...... b....B bB....");
        check.due("within its last row", x.move(30, 1), 1);
        check.due("board", Check.board(x), "b..... B..... ...... ...... b....B .tB...");
        check.due("sideOf(0, 5)", x.sideOf(0, 5), 1);
        check.due("sideOf(0, 2)", x.sideOf(0, 2), 1);
        check.due("of the side 1, pushing", x.move(6, 2), 1);
        check.due("board", Check.board(x), "T..... ...... ...... ...... b....B .tB...");
        check.due("sideOf(1, 5)", x.sideOf(1, 5), 1);
        check.due("account(11)", x.account(11), 2);
        check.due("sideOf(1, 2)", x.sideOf(1, 2), 1);
        check.due("sideOf(1, 1)", x.sideOf(1, 1), 2);
        x = Check.begun("...... ...... ...... b..... b..... .....T");
        check.due("not what is pushed to its last row", x.move(18, 0), 1);
        check.due("board", Check.board(x), "...... ...... ...... ...... b..... b....T");
        check.due("account(11)", x.account(11), 0);
        x = Check.begun("...... ...... ...... ...... t..... .....T");
        check.due("a tug stays one", x.move(24, 0), 1);
        check.due("account(11)", x.account(11), 0);
        x = Check.begun("B....b ...... ...... ...... ...... ......");
        check.due("in the other side's last row", x.move(5, 3), 1);
        check.due("within its own last row", x.move(0, 1), 1);
        check.due("board", Check.board(x), ".T..b. ...... ...... ...... ...... ......");
        x = Check.begun("...... ...... ...... ...... b..... 5....T");
        check.due("onto a lock", x.move(24, 0), 1);
        check.due("board", Check.board(x), "...... ...... ...... ...... ...... t....T");
        x = Check.begun("...... ...... ...... ...... bb.... BB...T");
        check.due("a barge pushes one before it becomes a tug", x.move(24, 0), 1);
        check.due("board", Check.board(x), "...... ...... ...... ...... .b.... tB...T");
    }

    private static void promise5LocksTurn() {
        BargeChess x = Check.begun(".t2... ..3... ..4... ..5... .....T ......");
        int[] periods = {2, 3, 4, 5};
        String[] moves = {"1l", "29u", "0u", "35d", "6r", "29u", "7u", "35d", "13l", "29u", "12u", "35d"};
        for (int turn = 1; turn <= moves.length; turn++) {
            check.due(moves[turn - 1], Check.play(x, moves[turn - 1]), 1);
            int all = 0;
            int closed = 0;
            for (int lock = 0; lock < 4; lock++) {
                int turns = turn / periods[lock];
                check.due("lockOf(" + lock + ", 3)", x.lockOf(lock, 3), turns);
                check.due("lockOf(" + lock + ", 2)", x.lockOf(lock, 2), turns % 2);
                check.due("turnsIn(" + lock + ")", x.turnsIn(lock), periods[lock] * (turns + 1) - turn);
                all += turns;
                closed += turns % 2;
            }
            check.due("account(13)", x.account(13), all);
            check.due("account(8)", x.account(8), closed);
        }
    }

    private static void promise5LockUnderPiece() {
        BargeChess x = Check.begun("t2.... ...... ...... ...... ...... ....TT");
        check.due("onto the lock", Check.play(x, "0r;35d"), 1);
        check.due("it stays open", x.lockOf(0, 2), 0);
        check.due("it did not turn", x.lockOf(0, 3), 0);
        check.due("the piece's sign", Check.row(x, 0), ".t....");
        check.due("off the lock", Check.play(x, "1u;29d"), 1);
        check.due("it closed", x.lockOf(0, 2), 1);
        check.due("it turned once", x.account(13), 1);
        refusedMove(x, 7, 2, 12, 1);
    }

    private static void promise5LocksTurnAheadOfTide() {
        BargeChess x = Check.begun("t..... ...... ..b... ..4... ...... .....T");
        check.due("the lock has closed as the tide comes", Check.play(x, "0u;35l;6d;34r"), 1);
        check.due("board", Check.board(x), "t..... ...... ..b... ..#... ...... .....T");
        check.due("account(12)", x.account(12), 0);
        x = Check.begun("t..... ...... ..b... ..4... ...... .....T");
        check.due("the lock was held open as the tide comes", Check.play(x, "0u;35l;14u;34r"), 1);
        check.due("board", Check.board(x), "...... t..... ...... ..=... ..b... .....T");
        check.due("account(12)", x.account(12), 1);
        check.due("account(13)", x.account(13), 0);
        x = Check.begun("t..... ...... ..b... ..2... ...... .....T");
        check.due("the lock has opened as the tide comes", Check.play(x, "0u;35l;6d;34r"), 1);
        check.due("board", Check.board(x), "t..... ...... ...... ..b... ...... .....T");
        check.due("account(12)", x.account(12), 1);
        check.due("account(13)", x.account(13), 2);
    }

    private static void promise5TideUp() {
        BargeChess x = Check.begun("tbbb.b ..B... ..B... ...b.. ..B... ..BB.T");
        check.due("to turn 3", Check.play(x, "0u;35l;6d"), 1);
        check.due("account(2)", x.account(2), 0);
        check.due("account(12)", x.account(12), 0);
        check.due("turn 4", Check.play(x, "34r"), 1);
        check.due("board", Check.board(x), "tb...b ..bb.. ..B... ..B... ..Bb.. ..BB.T");
        check.due("account(12)", x.account(12), 5);
        check.due("account(2)", x.account(2), 1);
        check.due("account(3)", x.account(3), 1);
        x = Check.begun("t..... ...... ...... ...... ..b... .....T");
        check.due("nothing becomes a tug by it", Check.play(x, "0u;35l;6d;34r"), 1);
        check.due("board", Check.board(x), "t..... ...... ...... ...... ...... ..b..T");
        check.due("account(11)", x.account(11), 0);
        check.due("account(12)", x.account(12), 1);
        check.due("account(10)", x.account(10), 0);
    }

    private static void promise5TideDown() {
        BargeChess x = Check.begun("t..... ..b... ..B... ...B.. ...... .....T");
        String shuttle = "0u;35l;6d;34r";
        check.due("to turn 4", Check.play(x, shuttle), 1);
        check.due("board", Check.board(x), "t..... ...... ..b... ..B... ...B.. .....T");
        check.due("to turn 8", Check.play(x, shuttle), 2);
        check.due("the tide 2 carries nothing", Check.board(x), "t..... ...... ..b... ..B... ...B.. .....T");
        check.due("account(3)", x.account(3), 2);
        check.due("to turn 12, to the first position again", Check.play(x, shuttle), 2);
        check.due("board", Check.board(x), "t..... ..b... ..B... ...B.. ...... .....T");
        check.due("account(3)", x.account(3), 3);
        check.due("account(2)", x.account(2), 3);
        check.due("account(12)", x.account(12), 6);
        check.due("account(14)", x.account(14), 8);
        check.due("to turn 16", Check.play(x, "0r;35d;1u;29l"), 1);
        check.due("the tide 0 carries nothing", x.account(12), 6);
        check.due("account(3)", x.account(3), 0);
        check.due("account(2)", x.account(2), 4);
    }

    private static void promise5TellsPositionsApart() {
        BargeChess x = Check.begun("t..... t..... ...... ...... ...... .....T");
        check.due("by whose turn it is", Check.play(x, "0u;35l;6d;34r;12d"), 1);
        check.due("board", Check.board(x), "t..... t..... ...... ...... ...... .....T");
        check.due("account(14)", x.account(14), 6);
        x = Check.begun("t...4. ...... ...... ...... ...... .....T");
        check.due("by which locks are closed", Check.play(x, "0u;35l;6d;34r"), 1);
        check.due("closed", x.lockOf(0, 2), 1);
        check.due("the same lock open again", Check.play(x, "0u;35l;6d;34r"), 2);
        x = Check.begun("tt.... ...... ...... ...... ...... .....T");
        check.due("not by which of two like pieces", Check.play(x, "1u;35l;0r;34r;7l;35l;6d;34r"), 2);
        x = Check.begun("...... ...... ...... ...... b..... .....T");
        check.due("by kinds", Check.play(x, "24u;35l;30d;34r"), 1);
        check.due("board", Check.board(x), "...... ...... ...... ...... t..... .....T");
    }

    private static void promise5EndWithoutPieces() {
        BargeChess x = Check.begun("Bt.... ...... ...... ...... ...... ......");
        check.due("the side 1's last piece", x.move(1, 3), 0);
        check.due("account(5)", x.account(5), 1);
        check.due("account(0)", x.account(0), 1);
        check.due("repeats()", x.repeats(), 1);
        check.due("moves()", x.moves(), 0);
        check.due("move(0, 0)", x.move(0, 0), BargeChess.REFUSED);
        check.refused("move(0, 0)", x, 4, 1);
        check.due("move(0, 9)", x.move(0, 9), BargeChess.BAD);
        x = Check.begun("...... ...... ...... b..... .T.... ......");
        check.due("to its side", x.move(18, 0), 1);
        check.due("the side 0's last piece", x.move(25, 3), 0);
        check.due("account(5)", x.account(5), 2);
        check.due("move(24, 0)", x.move(24, 0), BargeChess.REFUSED);
        check.refused("move(24, 0)", x, 4, 2);
    }

    private static void promise5EndByPositions() {
        BargeChess x = Check.begun("t..... ...... ...... ...... ...... .....T");
        check.due("the second time", Check.play(x, "0r;35l;1l;34r"), 2);
        check.due("others for the second time", Check.play(x, "0r;35l;1l"), 2);
        check.due("account(5)", x.account(5), 0);
        check.due("the third time", Check.play(x, "34r"), 3);
        check.due("account(5)", x.account(5), 3);
        check.due("move(0, 0)", x.move(0, 0), BargeChess.REFUSED);
        check.refused("move(0, 0)", x, 4, 3);
        check.due("repeats()", x.repeats(), 3);
        check.due("account(14)", x.account(14), 4);
        check.due("ways(1)", x.ways(1), 0);
    }

    private static void promise5EndWithoutMoves() {
        BargeChess x = Check.begun("Bb.b.. ...... ...... ...... ...... ......");
        check.due("the side 1 is shut in", x.move(3, 3), 0);
        check.due("account(5)", x.account(5), 1);
        check.due("repeats()", x.repeats(), 1);
        x = Check.begun("...... ...... ...... ...... ....T. ...Bb.");
        check.due("to the corner, where it becomes a tug", x.move(34, 1), 1);
        check.due("a tug goes on", x.move(28, 0), 1);
        x = Check.begun("b..... .B.... B.T... B..... ...... ......");
        check.due("the side 0 is shut in", Check.play(x, "0u;14d"), 0);
        check.due("account(5)", x.account(5), 2);
        x = Check.begun("b..... .2.... B..... B..... ...... .....T");
        check.due("it is shut in by a lock", Check.play(x, "0u;35l"), 0);
        check.due("account(5)", x.account(5), 2);
        check.due("account(8)", x.account(8), 1);
    }

    /** Plays on two tugs that go round and round, with the side 1's last move told apart. */
    private static int rounds(BargeChess x, int[] first, int[] second, String lastMove) {
        int answer = 0;
        for (int turn = 0; turn < 119; turn++) {
            int[] way = turn % 2 == 0 ? first : second;
            int from = way[turn / 2 % way.length];
            int to = way[(turn / 2 + 1) % way.length];
            answer = x.move(from, to == from + 6 ? 0 : to == from + 1 ? 1 : to == from - 6 ? 2 : 3);
            check.due("account(5) behind turn " + turn, x.account(5), 0);
        }
        check.due("account(0)", x.account(0), 119);
        return Check.play(x, lastMove);
    }

    private static void promise5EndByTurns() {
        int[] left = {0, 6, 12, 18, 24, 30, 31, 25, 19, 13, 7, 1};
        int[] leftBelow = {0, 6, 12, 13, 7, 1};
        int[] leftEdge = {12, 18, 24, 30, 24, 18, 12, 6, 0, 6};
        int[] right = {5, 11, 17, 23, 29, 28, 22, 16, 10, 4};
        int[] rightAll = {5, 11, 17, 23, 29, 35, 34, 28, 22, 16, 10, 4};
        BargeChess x = Check.begun("t....T ...... ...... ...... ...... ......");
        check.due("the turn 120", rounds(x, left, right, "4r"), 0);
        check.due("account(5)", x.account(5), 3);
        check.due("account(0)", x.account(0), 120);
        check.due("account(2)", x.account(2), 30);
        check.due("account(3)", x.account(3), 2);
        check.due("repeats()", x.repeats(), 2);
        check.due("mostRepeats()", x.mostRepeats(), 2);
        check.due("account(14)", x.account(14), 120);
        check.due("ways(2)", x.ways(2), 0);
        check.due("move(0, 0)", x.move(0, 0), BargeChess.REFUSED);
        check.refused("move(0, 0)", x, 4, 3);
        x = Check.begun("t....T ...... ...... ...... ...... ......");
        check.due("the third time in turn 120", rounds(x, leftBelow, right, "4r"), 3);
        check.due("account(5)", x.account(5), 3);
        x = Check.begun(".....T ...... tB.... ...... ...... ......");
        check.due("the last piece in turn 120", rounds(x, leftEdge, rightAll, "13l"), 0);
        check.due("account(5)", x.account(5), 2);
        check.due("account(0)", x.account(0), 120);
    }
}
