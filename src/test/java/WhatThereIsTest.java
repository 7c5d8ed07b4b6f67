/** Promises 6 to 13: squareOf, lockOf, sideOf, moves, movesAgain, moveAt, repeats, mostRepeats. */
public final class WhatThereIsTest {
    private static final Check check = new Check();

    public static void main(String[] args) {
        promise6SquareOf();
        promise7LockOf();
        promise8SideOf();
        promises9And10CountMoves();
        promises9And10WithLocks();
        promises9To11WithoutGame();
        promise11MoveAt();
        promises12And13Repeats();
        promises12And13GoBackByUndo();
        check.end("WhatThereIsTest");
    }

    private static void promise6SquareOf() {
        BargeChess x = Check.begun("bt2... ...... ...... .....3 ...... TB....");
        int[] want = {0, 1};
        for (int square = 0; square < 2; square++) {
            check.due("squareOf(" + square + ", 0)", x.squareOf(square, 0), want[square]);
            check.due("squareOf(" + square + ", 1)", x.squareOf(square, 1), BargeChess.NOTHING);
            check.due("squareOf(" + square + ", 2)", x.squareOf(square, 2), 0);
        }
        check.due("squareOf(30, 0)", x.squareOf(30, 0), 3);
        check.due("squareOf(31, 0)", x.squareOf(31, 0), 2);
        check.due("squareOf(2, 0)", x.squareOf(2, 0), BargeChess.NOTHING);
        check.due("squareOf(2, 1)", x.squareOf(2, 1), 0);
        check.due("squareOf(23, 1)", x.squareOf(23, 1), 1);
        check.due("squareOf(2, 2)", x.squareOf(2, 2), 0);
        check.due("to turn 2", Check.play(x, "0u;30d"), 1);
        check.due("squareOf(2, 2) closed", x.squareOf(2, 2), 1);
        check.due("squareOf(2, 1) closed", x.squareOf(2, 1), 0);
        check.due("squareOf(23, 2)", x.squareOf(23, 2), 0);
        check.due("squareOf(36, 0)", x.squareOf(36, 0), BargeChess.NONE);
        check.due("squareOf(36, 3)", x.squareOf(36, 3), BargeChess.NONE);
        check.due("squareOf(-1, 0)", x.squareOf(-1, 0), BargeChess.NONE);
        check.due("squareOf(0, 3)", x.squareOf(0, 3), BargeChess.BAD);
        check.due("squareOf(35, -1)", x.squareOf(35, -1), BargeChess.BAD);
        x = Check.begun("t2.... ...... ...... ...... ...... .....T");
        x.move(0, 1);
        check.due("a piece on a lock", x.squareOf(1, 0), 1);
        check.due("a lock under a piece", x.squareOf(1, 1), 0);
    }

    private static void promise7LockOf() {
        BargeChess x = Check.begun("t.2... ...... ...... .....3 ...... .....T");
        check.due("lockOf(0, 0)", x.lockOf(0, 0), 2);
        check.due("lockOf(0, 1)", x.lockOf(0, 1), 2);
        check.due("lockOf(1, 0)", x.lockOf(1, 0), 23);
        check.due("lockOf(1, 1)", x.lockOf(1, 1), 3);
        check.due("to turn 4", Check.play(x, "0u;35l;6u;34l"), 1);
        check.due("lockOf(0, 2)", x.lockOf(0, 2), 0);
        check.due("lockOf(0, 3)", x.lockOf(0, 3), 2);
        check.due("lockOf(1, 2)", x.lockOf(1, 2), 1);
        check.due("lockOf(1, 3)", x.lockOf(1, 3), 1);
        check.due("lockOf(2, 0)", x.lockOf(2, 0), BargeChess.NONE);
        check.due("lockOf(2, 4)", x.lockOf(2, 4), BargeChess.NONE);
        check.due("lockOf(-1, 0)", x.lockOf(-1, 0), BargeChess.NONE);
        check.due("lockOf(0, 4)", x.lockOf(0, 4), BargeChess.BAD);
        check.due("lockOf(1, -1)", x.lockOf(1, -1), BargeChess.BAD);
        x = Check.set("2345.. ...... ...... ...... ...... ......");
        check.due("lockOf(3, 0)", x.lockOf(3, 0), 3);
        check.due("lockOf(4, 0)", x.lockOf(4, 0), BargeChess.NONE);
    }

    private static void promise8SideOf() {
        BargeChess x = Check.begun("ttb..b B..... B..... B..... b..... .....T");
        int[] first = {5, 3, 2, 0, 0, 0};
        int[] second = {4, 3, 1, 0, 0, 0};
        checkSides(x, first, second);
        check.due("three before a tug", x.move(0, 0), BargeChess.REFUSED);
        check.due("a barge becomes a tug", Check.play(x, "24u;35d"), 1);
        checkSides(x, new int[] {5, 2, 3, 0, 0, 1}, second);
        check.due("a tug pushes a barge of its side", Check.play(x, "1r;29d"), 1);
        checkSides(x, new int[] {5, 2, 3, 0, 1, 1}, second);
        x = Check.begun("Btb... b..... ...... ...... ...... ...B.T");
        check.due("the other side's piece goes", x.move(1, 3), 1);
        checkSides(x, new int[] {3, 2, 1, 0, 1, 0}, new int[] {2, 1, 1, 1, 0, 0});
        check.due("sideOf(2, 0)", x.sideOf(2, 0), BargeChess.NONE);
        check.due("sideOf(2, 6)", x.sideOf(2, 6), BargeChess.NONE);
        check.due("sideOf(-1, 0)", x.sideOf(-1, 0), BargeChess.NONE);
        check.due("sideOf(0, 6)", x.sideOf(0, 6), BargeChess.BAD);
        check.due("sideOf(1, -1)", x.sideOf(1, -1), BargeChess.BAD);
    }

    private static void checkSides(BargeChess x, int[] first, int[] second) {
        int[] accounts = {6, -1, -1, 9, 10, 11};
        for (int what = 0; what < 6; what++) {
            check.due("sideOf(0, " + what + ")", x.sideOf(0, what), first[what]);
            check.due("sideOf(1, " + what + ")", x.sideOf(1, what), second[what]);
            if (accounts[what] >= 0) {
                check.due("account(" + accounts[what] + ")", x.account(accounts[what]), first[what] + second[what]);
            }
        }
    }

    private static void countMoves(String rows, int want) {
        BargeChess x = Check.set(rows);
        check.due("begin() of " + rows, x.begin(), want);
        check.due("moves() of " + rows, x.moves(), want);
        check.due("movesAgain() of " + rows, x.movesAgain(), want);
        check.due("ways(1) of " + rows, x.ways(1), want);
    }

    private static void promises9And10CountMoves() {
        countMoves("b..... ...... ...... ...... ...... .....T", 2);
        countMoves("...... ...... ..b... ...... ...... .....T", 3);
        countMoves("...... ...... ..t... ...... ...... .....T", 4);
        countMoves(".....T ...... ...... ...... ...... b.....", 1);
        countMoves(".....T ...... ...... ...... ...... .t....", 3);
        // Up and left; right pushes one, two, three.
        countMoves(".bB... ...... ...... ...... ...... .....T", 3);
        countMoves(".bBB.. ...... ...... ...... ...... .....T", 2);
        countMoves(".tBB.. ...... ...... ...... ...... .....T", 3);
        countMoves(".tBBB. ...... ...... ...... ...... .....T", 2);
        countMoves("...tBB ...... ...... ...... ...... .....T", 3);
        countMoves("..tBBB ...... ...... ...... ...... .....T", 2);
        // A gap ends the line.
        countMoves(".b.BB. ...... ...... ...... ...... .....T", 3);
        countMoves(".BB.b. ...... ...... ...... ...... .....T", 3);
        countMoves("...... ...... b..... ...... B..... B....T", 2);
        // Up 4; right and left 2 each: the foremost, and the one behind it.
        countMoves(".bbbb. ...... ...... ...... ...... .....T", 8);
        // Up the foremost two barges, but all three tugs; right 3; down two tugs, as what is pushed goes off.
        countMoves("b..... b..... b..... ...... ...... .....T", 5);
        countMoves("t..... t..... t..... ...... ...... .....T", 8);
    }

    private static void promises9And10WithLocks() {
        BargeChess x = Check.begun("t..... .2.... b..... 2..... b..... .2..bT");
        check.due("to turn 2", Check.play(x, "0u;35d"), 1);
        check.due("board", Check.board(x), "...... t#.... b..... #..... b....T .#..b.");
        // 6: down; 12: right; 24: up, right; 34: right, left.
        check.due("moves()", x.moves(), 6);
        check.due("movesAgain()", x.movesAgain(), 6);
        int[] codes = {26, 49, 96, 97, 137, 139};
        for (int place = 0; place < codes.length; place++) {
            check.due("moveAt(" + place + ")", x.moveAt(place), codes[place]);
        }
        check.due("moveAt(6)", x.moveAt(6), BargeChess.NONE);
    }

    private static void promises9To11WithoutGame() {
        BargeChess x = Check.set("b..... ...... ...... ...... ...... .....T");
        check.due("moves() ahead of the game", x.moves(), 0);
        check.due("movesAgain() ahead of the game", x.movesAgain(), 0);
        check.due("moveAt(0) ahead of the game", x.moveAt(0), BargeChess.NONE);
        x = Check.begun("Bt.... ...... ...... ...... ...... ......");
        x.move(1, 3);
        check.due("moves() behind the game", x.moves(), 0);
        check.due("movesAgain() behind the game", x.movesAgain(), 0);
        check.due("moveAt(0) behind the game", x.moveAt(0), BargeChess.NONE);
        x.undo();
        check.due("moves() again", x.moves(), 3);
        check.due("movesAgain() again", x.movesAgain(), 3);
    }

    private static void promise11MoveAt() {
        BargeChess x = Check.begun("t....b ...... ...... ...... B..... ....TT");
        int[] first = {0, 1, 20, 23};
        for (int place = 0; place < first.length; place++) {
            check.due("moveAt(" + place + ")", x.moveAt(place), first[place]);
        }
        check.due("moveAt(4)", x.moveAt(4), BargeChess.NONE);
        check.due("moveAt(-1)", x.moveAt(-1), BargeChess.NONE);
        x.move(0, 0);
        // 24: right, down; 34: right (it pushes 35 off), down, left; 35: down, left.
        int[] second = {97, 98, 137, 138, 139, 142, 143};
        for (int place = 0; place < second.length; place++) {
            check.due("moveAt(" + place + ") of the side 1", x.moveAt(place), second[place]);
        }
        check.due("moveAt(7)", x.moveAt(7), BargeChess.NONE);
        check.due("moves()", x.moves(), 7);
        check.due("movesAgain()", x.movesAgain(), 7);
    }

    private static void promises12And13Repeats() {
        BargeChess x = Check.set("t..... ...... ...... ...... ...... .....T");
        check.due("repeats() ahead of the game", x.repeats(), 0);
        check.due("mostRepeats() ahead of the game", x.mostRepeats(), 0);
        x.begin();
        check.due("repeats()", x.repeats(), 1);
        check.due("mostRepeats()", x.mostRepeats(), 1);
        check.due("to turn 4", Check.play(x, "0r;35l;1l;34r"), 2);
        check.due("repeats()", x.repeats(), 2);
        check.due("mostRepeats()", x.mostRepeats(), 2);
        check.due("another one", x.move(0, 0), 1);
        check.due("repeats()", x.repeats(), 1);
        check.due("mostRepeats()", x.mostRepeats(), 2);
        check.due("account(14)", x.account(14), 5);
        check.due("to the third time", Check.play(x, "35l;6d;34r"), 3);
        check.due("repeats() behind the end", x.repeats(), 3);
        check.due("mostRepeats() behind the end", x.mostRepeats(), 3);
        check.due("account(14): turn 7 came in turn 3, too", x.account(14), 6);
    }

    private static void promises12And13GoBackByUndo() {
        BargeChess x = Check.begun("t..... ...... ...... ...... ...... .....T");
        check.due("to turn 4", Check.play(x, "0r;35l;1l;34r"), 2);
        x.undo();
        check.due("repeats()", x.repeats(), 1);
        check.due("mostRepeats()", x.mostRepeats(), 1);
        check.due("account(14)", x.account(14), 4);
        check.due("once more", x.move(34, 1), 2);
        for (int i = 0; i < 5; i++) {
            x.undo();
        }
        check.due("repeats() ahead of the game", x.repeats(), 0);
        check.due("mostRepeats() ahead of the game", x.mostRepeats(), 0);
        check.due("account(14) ahead of the game", x.account(14), 0);
        x.begin();
        check.due("repeats() of the new game", x.repeats(), 1);
    }
}
