import java.util.ArrayList;
import java.util.List;

/** The boundary cases of promise 5 behind a move: turns, locks, tides, positions, ends. */
public final class BoundaryTurnTest {
    private static final Check check = new Check();
    private static final int NOTHING = BargeChess.NOTHING;

    public static void main(String[] args) throws ReflectiveOperationException {
        check.promises(BoundaryTurnTest.class);
        check.end("BoundaryTurnTest");
    }

    /** Four turns that change nothing but the turn, for a tug t on 0 and a tug T on 5. */
    private static final String ROUND = "0u;5u;6d;11d";

    private static BargeChess played(String rows, String moves) {
        BargeChess x = Check.begun(rows);
        Check.play(x, moves);
        return x;
    }

    // "Turns are numbered from 0; the side 0 begins."; "the number of the turn becomes 1 more, and it is the other side's turn"

    static void promise5TurnsAndSides() {
        BargeChess x = Check.begun("t....T ...... ...... ...... ...... ......");
        for (int turn = 0; turn < 119; turn++) {
            check.due("account(0)", x.account(0), turn);
            check.due("account(1)", x.account(1), turn % 2);
            Check.rounds(x, turn, turn + 1);
        }
    }

    static void promise5HoursAndTides() {
        BargeChess x = Check.begun("t....T ...... ...... ...... ...... ......");
        for (int turn = 0; turn < 119; turn++) {
            check.due("account(2)", x.account(2), turn / 4);
            check.due("account(3)", x.account(3), turn / 4 % 4);
            Check.rounds(x, turn, turn + 1);
        }
    }

    // "each lock ... whose period divides the number of the turn, turns if no piece stands on it"

    static void promise5LocksTurnByTheirPeriods() {
        BargeChess x = Check.begun("t....T ...... ..23.. ..45.. ...... ......");
        for (int turn = 1; turn <= 50; turn++) {
            Check.rounds(x, turn - 1, turn);
            for (int lock = 0; lock < 4; lock++) {
                int turns = turn / (lock + 2);
                check.due("lockOf(" + lock + ", 3) in the turn " + turn, x.lockOf(lock, 3), turns);
                check.due("lockOf(" + lock + ", 2) in the turn " + turn, x.lockOf(lock, 2), turns % 2);
            }
        }
    }

    static void promise5NoLockTurnsAsTheGameBegins() {
        BargeChess x = Check.begun("t2345T ...... ...... ...... ...... ......");
        check.due("account(8)", x.account(8), 0);
        check.due("account(13)", x.account(13), 0);
    }

    static void promise5LockUnderAPieceDoesNotTurn() {
        BargeChess x = Check.begun("t2.... ...... ...... ...... ...... ....TT");
        check.due("onto it, to the turn 2", Check.play(x, "0r;35d"), 1);
        check.due("lockOf(0, 2)", x.lockOf(0, 2), 0);
        check.due("lockOf(0, 3)", x.lockOf(0, 3), 0);
        check.due("it turns in the turn 4", Check.play(x, "1u;29d"), 1);
        check.due("lockOf(0, 2)", x.lockOf(0, 2), 1);
        check.due("lockOf(0, 3)", x.lockOf(0, 3), 1);
    }

    static void promise5LockTurnsAsThePieceLeaves() {
        BargeChess x = Check.begun("t..... ...... ...... ...... ...... ....2T");
        check.due("onto it in the turn 2", Check.play(x, "0u;35l"), 1);
        check.due("it did not turn", x.lockOf(0, 3), 0);
        check.due("off it in the turn 4", Check.play(x, "6d;34d"), 1);
        check.due("it turned", x.lockOf(0, 3), 1);
        check.due("it is closed", x.lockOf(0, 2), 1);
    }

    static void promise5LockUnderAPushedPieceDoesNotTurn() {
        BargeChess x = Check.begun("...tb2 ...... ...... ...... ...... .....T");
        check.due("onto it, to the turn 2", Check.play(x, "3r;35d"), 1);
        check.due("it did not turn", x.lockOf(0, 3), 0);
        check.due("off it, and another one onto it", Check.play(x, "4r;29u"), 1);
        check.due("the row", Check.row(x, 0), ".....t");
        check.due("it did not turn", x.lockOf(0, 3), 0);
    }

    // "A lock that turns under nobody is counted, opened or closed."

    static void promise5TurnsOfLocksAreCountedBothWays() {
        BargeChess x = Check.begun("t....T ...... ..2... ...... ...... ......");
        for (int turns = 1; turns <= 6; turns++) {
            Check.rounds(x, 2 * turns - 2, 2 * turns);
            check.due("lockOf(0, 2)", x.lockOf(0, 2), turns % 2);
            check.due("account(8)", x.account(8), turns % 2);
            check.due("account(13)", x.account(13), turns);
        }
    }

    // "Then ... if 4 divides the number of the turn, the hour becomes 1 more, and the tide carries."

    static void promise5LocksTurnAheadOfTheTide() {
        check.due("a lock closes before the tide", Check.row(played("t....T ...... ..b... ..4... ...... ......", ROUND), 3), "..#...");
        check.due("what did not go", Check.row(played("t....T ...... ..b... ..4... ...... ......", ROUND), 2), "..b...");
        check.due("a lock opens before the tide", Check.row(played("t....T ...... ..b... ..2... ...... ......", ROUND), 3), "..b...");
        check.due("a lock that stays closed", Check.row(played("t....T ...... ..b... ..3... ...... ......", ROUND), 3), "..#...");
        check.due("a lock that stays open", Check.row(played("t....T ...... ..b... ..5... ...... ......", ROUND), 3), "..b...");
    }

    static void promise5TheTideCarriesOffALockThatDidNotTurn() {
        BargeChess x = played("t....T .b.... ..4... ...... ...... ......", "7u;5u;13r;11d");
        check.due("the lock, from which the piece was carried", Check.row(x, 2), "..=...");
        check.due("the piece", Check.row(x, 3), "..b...");
        check.due("account(13)", x.account(13), 0);
    }

    static void promise5TheTideCarriesOntoAnOpenLock() {
        BargeChess x = played("t....T ...... ..b... ..5... ...... ......", ROUND);
        check.due("in the turn 5", Check.play(x, "0r"), 1);
        check.due("the lock under the piece", x.lockOf(0, 2), 0);
        check.due("lockOf(0, 3)", x.lockOf(0, 3), 0);
    }

    static void promise5NoTideAheadOfTheTurnFour() {
        BargeChess x = played("t....T ...... ..bB.. ...... ...... ......", "0u;5u;6d");
        check.due("account(12)", x.account(12), 0);
        check.due("account(2)", x.account(2), 0);
        check.due("the row 2", Check.row(x, 2), "..bB..");
        check.due("the turn 4", Check.play(x, "11d"), 1);
        check.due("account(12)", x.account(12), 2);
        check.due("account(2)", x.account(2), 1);
        check.due("account(3)", x.account(3), 1);
        check.due("the row 3", Check.row(x, 3), "..bB..");
    }

    // "The columns 2 and 3 are the river."

    static void promise5TheRiverIsTheColumnsTwoAndThree() {
        BargeChess x = played("t....T ...... bbbBBB ...... ...... ......", ROUND);
        check.due("the board", Check.board(x), "t....T ...... bb..BB ..bB.. ...... ......");
        check.due("account(12)", x.account(12), 2);
    }

    static void promise5TheTideCarriesAllKinds() {
        BargeChess x = played("t....T ..b... ...B.. ..t... ...T.. ......", ROUND);
        check.due("the board", Check.board(x), "t....T ...... ..b... ...B.. ..t... ...T..");
        check.due("account(12)", x.account(12), 4);
        check.due("account(10): carried is not pushed", x.account(10), 0);
    }

    // "up by one square, if that is on the board, free"; "those in higher rows first"

    static void promise5TheTideUpCarriesHigherRowsFirst() {
        BargeChess x = played("t.bB.T ..bB.. ..bB.. ..bB.. ..bB.. ..b...", ROUND);
        check.due("the board", Check.board(x), "t.b..T ..bB.. ..bB.. ..bB.. ..bB.. ..bB..");
        check.due("account(12)", x.account(12), 5);
        check.due("account(9)", x.account(9), 0);
    }

    static void promise5TheTideUpStopsAtTheBoardsEnd() {
        BargeChess x = played("t....T ...... ...... ...... ...B.. ..bB..", ROUND);
        check.due("the board", Check.board(x), "t....T ...... ...... ...... ...B.. ..bB..");
        check.due("account(12)", x.account(12), 0);
        check.due("account(9)", x.account(9), 0);
    }

    static void promise5TheTideUpStopsAtAClosedLock() {
        BargeChess x = played("t....T ..b... ..b... ..4B.. ...4.. ......", ROUND);
        check.due("the board", Check.board(x), "t....T ..b... ..b... ..#B.. ...#.. ......");
        check.due("account(12)", x.account(12), 0);
    }

    static void promise5TheTideUpCarriesByOneSquare() {
        BargeChess x = played("t.b..T ...... ...... ...... ...... ......", ROUND);
        check.due("the board", Check.board(x), "t....T ..b... ...... ...... ...... ......");
    }

    // "When it becomes 3, it carries them down likewise, those in lower rows first."

    private static BargeChess inTheTurnTwelve(String rows) {
        BargeChess x = Check.begun(rows);
        Check.rounds(x, 0, 12);
        return x;
    }

    private static String river(BargeChess x) {
        StringBuilder river = new StringBuilder();
        for (int row = 0; row < 6; row++) {
            river.append(row == 0 ? "" : " ").append(Check.row(x, row), 2, 4);
        }
        return river.toString();
    }

    static void promise5TheTideDownCarriesLowerRowsFirst() {
        BargeChess x = inTheTurnTwelve("t..B.T ..bB.. ..bB.. ..bB.. ..bB.. ..bB..");
        check.due("the river", river(x), "bB bB bB bB bB .B");
        check.due("account(12)", x.account(12), 5);
    }

    static void promise5TheTideDownStopsAtTheBoardsEnd() {
        BargeChess x = Check.begun("t.bB.T ..bB.. ..bB.. ..bB.. ..bB.. ..bB..");
        Check.rounds(x, 0, 12);
        check.due("the river", river(x), "bB bB bB bB bB bB");
        check.due("account(12)", x.account(12), 0);
        check.due("account(9)", x.account(9), 0);
    }

    static void promise5TheTideDownStopsAtAClosedLock() {
        BargeChess x = inTheTurnTwelve("t....T ...... ...... ..4... ..b... ..b...");
        check.due("the river", river(x), ".. .. .. #. b. b.");
        check.due("account(12)", x.account(12), 0);
        x = inTheTurnTwelve("t....T ...... ...... ..3... ..b... ..b...");
        check.due("the river with an open lock", river(x), ".. .. .. b. b. ..");
        check.due("account(12)", x.account(12), 2);
    }

    // The tides 0 and 2 carry nothing, and the tides come again by hours.

    static void promise5TheTidesOfTwentyEightTurns() {
        BargeChess x = Check.begun("t....T ...... ..b... ...... ...... ......");
        int[] rows = {2, 3, 3, 2, 2, 3, 3, 2};
        int[] carried = {0, 1, 1, 2, 2, 3, 3, 4};
        for (int hour = 0; hour < 8; hour++) {
            check.due("the row in the hour " + hour, x.squareOf(6 * rows[hour] + 2, 0), 0);
            check.due("account(12) in the hour " + hour, x.account(12), carried[hour]);
            check.due("account(3) in the hour " + hour, x.account(3), hour % 4);
            Check.rounds(x, 4 * hour, 4 * hour + 4);
        }
    }

    // "Nothing becomes a tug by it."

    static void promise5TheTideMakesNoTugs() {
        BargeChess x = played("t....T ...... ...... ...... ..b... ......", ROUND);
        check.due("the row 5", Check.row(x, 5), "..b...");
        check.due("account(11)", x.account(11), 0);
        x = inTheTurnTwelve("t.B..T ...... ...... ...... ...... ......");
        check.due("the river", river(x), "B. .. .. .. .. ..");
        check.due("account(12)", x.account(12), 2);
        check.due("account(11)", x.account(11), 0);
    }

    static void promise5CarriedThereItBecomesOneByItsOwnMove() {
        BargeChess x = played("t....T ...... ...... ...... ..b... ......", ROUND);
        check.due("along the row 5", x.move(32, 1), 1);
        check.due("a tug", x.squareOf(33, 0), 1);
        check.due("account(11)", x.account(11), 1);
    }

    static void promise5BecomesTugAndIsCarried() {
        BargeChess x = played("t....T ...... B..... ...... ...... ......", "0r;12d;1u;6d");
        check.due("a tug in the row 0", x.squareOf(0, 0), 3);
        x = played("t....T ..B... ...... ...... ...... ......", "0u;5u;6d;8d");
        check.due("a tug that was carried", x.squareOf(8, 0), 3);
        check.due("account(11)", x.account(11), 1);
        check.due("account(12)", x.account(12), 1);
    }

    // "Then the position is looked at.": behind the locks and the tide

    static void promise5TheTideFreesAPiece() {
        BargeChess x = played("b..... ...... .BB... B..... B..... .....T", "0u;35l;6u");
        check.due("two before it go on", x.move(34, 1), 1);
        check.due("the board", Check.board(x), "...... ...... bB.... B.B... B..... .....T");
        check.due("account(5)", x.account(5), 0);
        check.due("moves()", x.moves(), 1);
    }

    static void promise5TheTideShutsIn() {
        BargeChess x = played("b..... ..B... .B.... B..... B..... .....T", "0u;35l;6u");
        check.due("a second one comes before it", x.move(34, 1), 0);
        check.due("the board", Check.board(x), "...... ...... bBB... B..... B..... .....T");
        check.due("account(5)", x.account(5), 2);
    }

    static void promise5ALockFreesAPiece() {
        BargeChess x = played("b..... ...... .2.... B..... B..... .....T", "0u;35l;6u");
        check.due("the lock is closed", x.lockOf(0, 2), 1);
        check.due("it opens", x.move(34, 1), 1);
        check.due("account(5)", x.account(5), 0);
        check.due("moves()", x.moves(), 1);
    }

    static void promise5ALockShutsIn() {
        BargeChess x = played("b..... ...... .4.... B..... B..... .....T", "0u;35l;6u");
        check.due("the lock is open", x.lockOf(0, 2), 0);
        check.due("it closes", x.move(34, 1), 0);
        check.due("account(5)", x.account(5), 2);
        check.due("account(8)", x.account(8), 1);
    }

    static void promise5ThePositionIsToldBehindTheTide() {
        BargeChess x = Check.begun("t....T ...... ..b... ...... ...... ......");
        check.due("to the turn 4, which the tide changes", Check.play(x, ROUND), 1);
        check.due("to the turn 8", Check.play(x, ROUND), 2);
        check.due("to the turn 12, which it changes back", Check.play(x, ROUND), 2);
        check.due("to the turn 16", Check.play(x, ROUND), 3);
        check.due("account(5)", x.account(5), 3);
    }

    // "A position is told by all pieces with their kinds, sides and squares"

    static void promise5PositionsOfDifferentKindsInTheRowFive() {
        for (int square = 30; square < 36; square++) {
            int beside = square < 35 ? square + 1 : square - 1;
            BargeChess x = Check.begun("T..... ...... ...... ...... ......" + row(square, 'b'));
            String before = Check.board(x);
            Check.step(x, square, beside);
            Check.step(x, 0, 6);
            Check.step(x, beside, square);
            check.due("a tug on " + square, Check.step(x, 6, 0), 1);
            check.due("the board", Check.board(x), before.replace('b', 't'));
            check.due("account(14)", x.account(14), 5);
        }
    }

    static void promise5PositionsOfDifferentKindsInTheRowZero() {
        for (int square : new int[] {0, 1, 4, 5}) {
            int beside = square < 5 ? square + 1 : square - 1;
            BargeChess x = Check.begun(row(square, 'B') + "...... ...... ...... ...... t.....");
            String before = Check.board(x);
            Check.step(x, 30, 24);
            Check.step(x, square, beside);
            Check.step(x, 24, 30);
            check.due("a tug on " + square, Check.step(x, beside, square), 1);
            check.due("the board", Check.board(x), before.replace('B', 'T'));
            check.due("account(14)", x.account(14), 5);
        }
    }

    private static String row(int square, char sign) {
        return "......".substring(0, square % 6) + sign + "......".substring(square % 6 + 1);
    }

    static void promise5PositionsOfDifferentSides() {
        BargeChess x = Check.begun("tT.... ...... ...... ...... ...... ......");
        check.due("round", Check.play(x, "0u;1l;6r;0u;7d;6d"), 1);
        check.due("the board", Check.board(x), "Tt.... ...... ...... ...... ...... ......");
        check.due("account(14)", x.account(14), 7);
    }

    static void promise5PositionsOfDifferentSquares() {
        BargeChess x = Check.begun("t....T ...... ...... ...... ...... ......");
        for (int turn = 0; turn < 118; turn++) {
            check.due("the turn " + turn, Check.rounds(x, turn, turn + 1), 1);
            check.due("account(14)", x.account(14), turn + 2);
        }
    }

    static void promise5LikePiecesAreNotToldApart() {
        BargeChess x = Check.begun("tt.... ...... ...... ...... ...... .....T");
        check.due("they change their places", Check.play(x, "1u;35l;0r;34r;7l;35l;6d;34r"), 2);
        check.due("the board", Check.board(x), "tt.... ...... ...... ...... ...... .....T");
    }

    // "by the side whose turn it is"

    static void promise5PositionsOfDifferentTurns() {
        BargeChess x = played("t..... t..... ...... ...... ...... .....T", "0u;35l;6d;34r");
        check.due("the board but for a square", Check.board(x), "t..... ...... t..... ...... ...... .....T");
        check.due("in an odd turn", x.move(12, 2), 1);
        check.due("the first board", Check.board(x), "t..... t..... ...... ...... ...... .....T");
        check.due("account(1)", x.account(1), 1);
        check.due("account(14)", x.account(14), 6);
    }

    // "and by which locks are closed"

    static void promise5PositionsOfDifferentLocks() {
        String[] orders = {"2", "3", "4", "5", "23", "32", "24", "42", "25", "52", "34", "43", "35", "53", "45", "54",
            "234", "432", "345", "543", "235", "245", "2345", "5432", "3254", "4523"};
        for (String periods : orders) {
            lockPositions(periods);
        }
    }

    /** Two tugs go to and fro, so that only the locks tell apart what comes every four turns. */
    private static void lockPositions(String periods) {
        StringBuilder locks = new StringBuilder("......");
        for (int lock = 0; lock < periods.length(); lock++) {
            locks.setCharAt(lock + 1, periods.charAt(lock));
        }
        BargeChess x = Check.begun("t....T ...... ...... " + locks + " ...... ......");
        String[] moves = ROUND.split(";");
        List<String> came = new ArrayList<>();
        came.add("0");
        for (int lock = 0; lock < periods.length(); lock++) {
            came.set(0, came.get(0) + "=");
        }
        int times = 1;
        for (int turn = 1; turn < 60 && times < 3; turn++) {
            StringBuilder position = new StringBuilder().append(turn % 4);
            for (int lock = 0; lock < periods.length(); lock++) {
                position.append(turn / (periods.charAt(lock) - '0') % 2 == 0 ? '=' : '#');
            }
            came.add(position.toString());
            times = 0;
            for (String other : came) {
                times += other.contentEquals(position) ? 1 : 0;
            }
            check.due("the turn " + turn + " with " + periods, Check.play(x, moves[(turn - 1) % 4]), times);
        }
        check.due("the end with " + periods, x.account(5), 3);
    }

    // "The game ends for the first of these that applies: a side has no pieces: the other one wins"

    static void promise5EndOfThePiecesOfEachSide() {
        BargeChess x = played("Bt.... ...... ...... ...... ...... ......", "1l");
        check.due("without the side 1", x.account(5), 1);
        x = played("...... ...... ...... b..... .T.... ......", "18u;25l");
        check.due("without the side 0", x.account(5), 2);
    }

    static void promise5NoEndWithOnePieceLeft() {
        BargeChess x = Check.begun("Bt.... ...... ...... ...... ...... .....B");
        check.due("one of two", x.move(1, 3), 1);
        check.due("account(5)", x.account(5), 0);
    }

    static void promise5EndByPushingTheLastOneOfTwo() {
        BargeChess x = Check.begun("...tbB ...... ...... ...... ...... ......");
        check.due("the second in the line", x.move(3, 1), 0);
        check.due("account(5)", x.account(5), 1);
    }

    static void promise5OwnPiecesPushedOffEndNothing() {
        BargeChess x = Check.begun("bt.... ...... ...... ...... ...... .....T");
        check.due("its own last other one", x.move(1, 3), 1);
        check.due("account(5)", x.account(5), 0);
        check.due("sideOf(0, 0)", x.sideOf(0, 0), 1);
    }

    // "the position has come three times: drawn"

    static void promise5TwiceIsNoEnd() {
        BargeChess x = played("t....T ...... ...... ...... ...... ......", ROUND);
        check.due("repeats()", x.repeats(), 2);
        check.due("account(5)", x.account(5), 0);
        check.due("twice each", Check.play(x, "0u;5u;6d"), 2);
        check.due("account(5)", x.account(5), 0);
        check.due("the third time", x.move(11, 2), 3);
        check.due("account(5)", x.account(5), 3);
    }

    static void promise5ThreeTimesNeedNotBeOneBehindTheOther() {
        BargeChess x = played("t....T ...... ...... ...... ...... ......", ROUND);
        check.due("another way", Check.play(x, "0r;5l;1u;4u;7r;10l;8d;9d;2l;3r;1l"), 1);
        check.due("the third time", x.move(4, 1), 3);
        check.due("account(5)", x.account(5), 3);
    }

    // "the side whose turn it is has no move: the other one wins"

    static void promise5EndWithoutMovesOfEachSide() {
        BargeChess x = Check.begun("Bb.b.. ...... ...... ...... ...... ......");
        check.due("the side 1 has none", x.move(3, 3), 0);
        check.due("account(5)", x.account(5), 1);
        x = played("b..... .B.... B.T... B..... ...... ......", "0u;14d");
        check.due("the side 0 has none", x.account(5), 2);
    }

    static void promise5NoEndIfTheOtherSideHasNoMove() {
        BargeChess x = Check.begun("Bbb..t ...... ...... ...... ...... .....B");
        check.due("one may go on", x.move(5, 0), 1);
        check.due("account(5)", x.account(5), 0);
        x = Check.begun("Bbb..t ...... ...... ...... ...... T.....");
        check.due("only the tug may", Check.play(x, "5u;30r"), 1);
        check.due("account(5)", x.account(5), 0);
    }

    // "the number of the turn is 120: drawn"

    static void promise5TurnOneHundredAndNineteenIsNoEnd() {
        BargeChess x = Check.begun("t....T ...... ...... ...... ...... ......");
        check.due("the turn 119", Check.rounds(x, 0, 119), 1);
        check.due("account(0)", x.account(0), 119);
        check.due("account(5)", x.account(5), 0);
        check.due("moves()", x.moves(), 3);
        check.due("the turn 120", x.move(4, 0), 0);
        check.due("account(0)", x.account(0), 120);
        check.due("account(1)", x.account(1), 0);
        check.due("account(2)", x.account(2), 30);
        check.due("account(5)", x.account(5), 3);
        check.due("moves()", x.moves(), 0);
    }

    // The earlier reasons stand ahead of the turn 120: no pieces, three times, no move.

    private static BargeChess onWays(String rows, int[] left, int[] right) {
        BargeChess x = Check.begun(rows);
        for (int turn = 0; turn < 119; turn++) {
            int[] way = turn % 2 == 0 ? left : right;
            Check.step(x, way[turn / 2 % way.length], way[(turn / 2 + 1) % way.length]);
        }
        check.due("the turn 119", x.account(0), 119);
        check.due("it goes on", x.account(5), 0);
        return x;
    }

    private static final int[] RIGHT_OF_TWELVE = {5, 11, 17, 23, 29, 35, 34, 28, 22, 16, 10, 4};

    static void promise5NoPiecesAheadOfTheTurn() {
        int[] left = {12, 18, 24, 30, 24, 18, 12, 6, 0, 6};
        BargeChess x = onWays(".....T ...... tB.... ...... ...... ......", left, RIGHT_OF_TWELVE);
        check.due("the last piece", x.move(13, 3), 0);
        check.due("account(5)", x.account(5), 2);
    }

    static void promise5ThreeTimesAheadOfTheTurn() {
        int[] left = {0, 6, 12, 13, 7, 1};
        int[] right = {5, 11, 17, 23, 29, 28, 22, 16, 10, 4};
        BargeChess x = onWays("t....T ...... ...... ...... ...... ......", left, right);
        check.due("the third time", x.move(4, 1), 3);
        check.due("account(5)", x.account(5), 3);
    }

    /** The tug holds the lock on 31 open in the turn 5, so that it is closed in the turn 120, before the barge on 30. */
    static void promise5NoMoveAheadOfTheTurn() {
        int[] left = new int[60];
        int[] first = {18, 24, 25, 31, 25, 24};
        int[] round = {18, 12, 13, 7, 1, 0, 6, 12};
        for (int i = 0; i < 60; i++) {
            left[i] = i < 6 ? first[i] : i < 54 ? round[(i - 6) % 8] : i % 2 == 0 ? 18 : 24;
        }
        BargeChess x = onWays(".....T ...... ...... tB.... ...... b5....", left, RIGHT_OF_TWELVE);
        check.due("the lock is open", x.lockOf(0, 2), 0);
        check.due("the tug goes off, and the lock closes", x.move(19, 3), 0);
        check.due("the lock is closed", x.lockOf(0, 2), 1);
        check.due("account(0)", x.account(0), 120);
        check.due("sideOf(0, 0)", x.sideOf(0, 0), 1);
        check.due("account(5)", x.account(5), 2);
    }

    // "A position comes, and is counted, ahead of how the game ends."

    static void promise5TheLastPositionIsCounted() {
        BargeChess x = played("Bt.... ...... ...... ...... ...... ......", "1l");
        check.due("repeats()", x.repeats(), 1);
        check.due("account(14)", x.account(14), 2);
        x = Check.begun("t....T ...... ...... ...... ...... ......");
        Check.rounds(x, 0, 120);
        check.due("repeats() in the turn 120", x.repeats(), 2);
        check.due("account(14)", x.account(14), 120);
    }

    static void promise5NothingMovesBehindTheEnd() {
        BargeChess x = played("Bt.... ...... ...... ...... ...... ......", "1l");
        String before = Check.all(x);
        check.due("a move", x.move(0, 0), BargeChess.REFUSED);
        check.due("all", Check.all(x), before);
        check.due("squareOf(0, 0)", x.squareOf(0, 0), 1);
        check.due("squareOf(6, 0)", x.squareOf(6, 0), NOTHING);
    }
}
