/** Promises 14 to 18: wouldPush, firstTake, ways, turnsIn, tideIn. */
public final class AheadTest {
    private static final Check check = new Check();
    private static final int NO = BargeChess.NOTHING;

    public static void main(String[] args) {
        promise14WouldPush();
        promise14WhoeversTurn();
        promise15FirstTake();
        promise15NothingIsTaken();
        promise16OneMove();
        promise16TwoMoves();
        promise16TwoMovesWithEnds();
        promise16TwoMovesInTheLastTurns();
        promise17TurnsIn();
        promise18TideIn();
        check.end("AheadTest");
    }

    private static void promise14WouldPush() {
        BargeChess x = Check.begun("bB.... t...bB b..... B..... ...... ...BBt");
        check.due("wouldPush(36, 4)", x.wouldPush(36, 4), BargeChess.NONE);
        check.due("wouldPush(-1, 0)", x.wouldPush(-1, 0), BargeChess.NONE);
        check.due("wouldPush(0, 4)", x.wouldPush(0, 4), BargeChess.BAD);
        check.due("wouldPush(2, -1)", x.wouldPush(2, -1), BargeChess.BAD);
        check.due("nobody", x.wouldPush(2, 0), NO);
        check.due("one", x.wouldPush(0, 1), 1);
        check.due("none", x.wouldPush(12, 1), 0);
        check.due("two before a tug", x.wouldPush(6, 0), 2);
        check.due("three before a barge", x.wouldPush(0, 0), NO);
        check.due("down, a barge", x.wouldPush(12, 2), NO);
        check.due("off the board", x.wouldPush(12, 3), NO);
        check.due("one off the board", x.wouldPush(10, 1), 1);
        check.due("two to the left", x.wouldPush(35, 3), 2);
        check.due("a tug down, off the board", x.wouldPush(6, 2), 1);
    }

    private static void promise14WhoeversTurn() {
        BargeChess x = Check.set("b2.... ...... ...... ...... ...... ...BBT");
        check.due("ahead of the game", x.wouldPush(0, 1), 0);
        check.due("the side 1 ahead of the game", x.wouldPush(35, 3), 2);
        x.begin();
        check.due("the side 1 in the side 0's turn", x.wouldPush(35, 3), 2);
        check.due("a barge of it", x.wouldPush(34, 3), 1);
        check.due("a barge of it to the right, off the board", x.wouldPush(34, 1), 1);
        check.due("a barge of it up", x.wouldPush(34, 0), NO);
        check.due("to turn 2", Check.play(x, "0u;33d"), 1);
        check.due("a closed lock", x.wouldPush(6, 2), NO);
        x = Check.begun("Bt2... .B.... ...... ...... ...... ......");
        check.due("to turn 2", Check.play(x, "1r;7d"), 1);
        check.due("held open", x.lockOf(0, 2), 0);
        x = Check.begun("...... t.2... ...... ...... ...... .....T");
        check.due("to turn 2", Check.play(x, "6r;35l"), 1);
        check.due("beside a closed lock", x.wouldPush(7, 1), NO);
        check.due("away from it", x.wouldPush(7, 3), 0);
        x = Check.begun("Bt.... ...... ...... ...... ...... ......");
        x.move(1, 3);
        check.due("the game is over", x.account(5), 1);
        check.due("behind the game", x.wouldPush(0, 0), 0);
    }

    private static void promise15FirstTake() {
        BargeChess x = Check.begun("...... .t.... ...... ...... tB.... B...bB");
        // 24 up pushes 30 off; 34 right pushes 35 off.
        check.due("firstTake()", x.firstTake(), 96);
        check.due("a move", x.move(24, 0), 1);
        check.due("the side 1 takes none", x.firstTake(), NO);
        check.due("a move", x.move(25, 2), 1);
        check.due("the next one", x.firstTake(), 137);
        x = Check.begun("...... ...bB. ...... ...bbB ...... ......");
        check.due("a barge takes by one alone", x.firstTake(), 22 * 4 + 1);
        x = Check.begun("...... ...bB. ...... ...tbB ...... ......");
        check.due("a tug takes the second one", x.firstTake(), 21 * 4 + 1);
        x = Check.begun("bB.... ...... ...... ...tBb ...... ......");
        check.due("its own piece is none of the other side", x.firstTake(), NO);
        check.due("though it would go", x.wouldPush(21, 1), 2);
        x = Check.begun("...... ...... ...... ...... .....t ....Tb");
        check.due("its own piece above", x.firstTake(), NO);
        x.move(29, 3);
        check.due("the side 1's turn", x.firstTake(), 34 * 4 + 1);
        x = Check.begun("....bB ...... ...... ...... ..... ......");
        check.due("on the row 0", x.firstTake(), 4 * 4 + 1);
    }

    private static void promise15NothingIsTaken() {
        BargeChess x = Check.set("....bB ...... ...... ...... ...... ....BB");
        check.due("ahead of the game", x.firstTake(), NO);
        x.begin();
        check.due("in the game", x.firstTake(), 17);
        x = Check.begun("Bt...b ...... ...... ...... ...... ......");
        x.move(1, 3);
        check.due("behind the game", x.firstTake(), NO);
        x = Check.begun("...... ...... ...... ...... ...... bBB...");
        check.due("a game that ended as it began", x.firstTake(), NO);
    }

    private static void promise16OneMove() {
        BargeChess x = Check.set("t..... ...... ...... ...... ...... .....T");
        check.due("ways(1) ahead of the game", x.ways(1), 0);
        check.due("ways(2) ahead of the game", x.ways(2), 0);
        check.due("ways(0)", x.ways(0), BargeChess.BAD);
        check.due("ways(3)", x.ways(3), BargeChess.BAD);
        check.due("ways(-1)", x.ways(-1), BargeChess.BAD);
        x.begin();
        check.due("ways(1)", x.ways(1), 2);
        x.move(0, 0);
        check.due("ways(1)", x.ways(1), 2);
        x.move(35, 3);
        check.due("ways(1)", x.ways(1), 3);
    }

    private static void promise16TwoMoves() {
        BargeChess x = Check.begun("t..... ...... 2..... ...... ...... .....T");
        String before = Check.all(x);
        check.due("ways(2)", x.ways(2), 4);
        check.due("all", Check.all(x), before);
        x.move(0, 0);
        // The lock before the tug closes in turn 2: two moves, and two behind each.
        check.due("ways(2) with a lock", x.ways(2), 4);
        x.move(35, 3);
        check.due("ways(1) with a lock", x.ways(1), 2);
        x = Check.begun("..t... ...... ...... ...... ...... .....T");
        check.due("to turn 3", Check.play(x, "2l;35l;1r"), 1);
        check.due("ways(1)", x.ways(1), 3);
        // The tide carries the tug off its first row, to where it has four moves.
        check.due("ways(2) with a tide", x.ways(2), 12);
        check.due("the tug has stayed", x.squareOf(2, 0), 1);
        x = Check.begun(".b.... ...... ...... ...... ...... T.....");
        // 1: up, right, left; then the tug of the side 1 in its corner: 2 each.
        check.due("ways(2)", x.ways(2), 6);
    }

    private static void promise16TwoMovesWithEnds() {
        BargeChess x = Check.begun("Bt.... ...... ...... ...... ...... ......");
        check.due("ways(1)", x.ways(1), 3);
        check.due("ways(2) with an end", x.ways(2), 2);
        x.move(1, 3);
        check.due("ways(1) behind the game", x.ways(1), 0);
        check.due("ways(2) behind the game", x.ways(2), 0);
        check.due("ways(3) behind the game", x.ways(3), BargeChess.BAD);
        x = Check.begun("t..... ...... ...... ...... ...... .....T");
        check.due("to turn 7", Check.play(x, "0r;35l;1l;34r;0r;35l;1l"), 2);
        check.due("ways(1)", x.ways(1), 3);
        check.due("ways(2), one with the third time", x.ways(2), 4);
        x = Check.begun("Bb.b.. ...... ...... ...... ...... ......");
        // 1 up: 0 has right; 1 left ends the game; 1 right: 0 has right.
        // 3 up: 0 pushes 1; 3 right: likewise; 3 left shuts it in.
        check.due("ways(1)", x.ways(1), 6);
        check.due("ways(2), one that shuts in", x.ways(2), 4);
    }

    private static void promise16TwoMovesInTheLastTurns() {
        int[] left = {0, 6, 12, 18, 24, 30, 31, 25, 19, 13, 7, 1};
        int[] right = {5, 11, 17, 23, 29, 28, 22, 16, 10, 4};
        BargeChess x = Check.begun("t....T ...... ...... ...... ...... ......");
        for (int turn = 0; turn < 119; turn++) {
            if (turn == 118) {
                check.due("ways(1) in turn 118", x.ways(1), 3);
                check.due("ways(2) in turn 118", x.ways(2), 9);
            }
            int[] way = turn % 2 == 0 ? left : right;
            int from = way[turn / 2 % way.length];
            int to = way[(turn / 2 + 1) % way.length];
            x.move(from, to == from + 6 ? 0 : to == from + 1 ? 1 : to == from - 6 ? 2 : 3);
        }
        check.due("ways(1) in turn 119", x.ways(1), 3);
        check.due("ways(2) in turn 119", x.ways(2), 0);
    }

    private static void promise17TurnsIn() {
        BargeChess x = Check.set("t2345. ...... ...... ...... ...... .....T");
        for (int lock = 0; lock < 4; lock++) {
            check.due("turnsIn(" + lock + ")", x.turnsIn(lock), lock + 2);
        }
        check.due("turnsIn(4)", x.turnsIn(4), BargeChess.NONE);
        check.due("turnsIn(-1)", x.turnsIn(-1), BargeChess.NONE);
        x.begin();
        x.move(0, 1);
        check.due("under a piece", x.turnsIn(0), 1);
        check.due("turnsIn(3)", x.turnsIn(3), 4);
        x.move(35, 3);
        check.due("it did not turn, and is told the next time", x.turnsIn(0), 2);
        check.due("turnsIn(1)", x.turnsIn(1), 1);
        x = new BargeChess();
        x.lock(3, 5);
        check.due("turnsIn(0)", x.turnsIn(0), 5);
        check.due("turnsIn(1)", x.turnsIn(1), BargeChess.NONE);
    }

    private static void promise18TideIn() {
        BargeChess x = Check.begun("t..... ...... ...... ...... ...... .....T");
        int[][] want = {{16, 4, 8, 12}, {15, 3, 7, 11}, {14, 2, 6, 10}, {13, 1, 5, 9}, {12, 16, 4, 8}, {11, 15, 3, 7}};
        String[] moves = {"0r", "35l", "1u", "34l", "7l", "33l"};
        for (int turn = 0; turn < want.length; turn++) {
            for (int tide = 0; tide < 4; tide++) {
                check.due("tideIn(" + tide + ") in turn " + turn, x.tideIn(tide), want[turn][tide]);
            }
            Check.play(x, moves[turn]);
        }
        check.due("tideIn(4)", x.tideIn(4), BargeChess.NONE);
        check.due("tideIn(-1)", x.tideIn(-1), BargeChess.NONE);
    }
}
