/** Promises 1 to 4: a new object, put, lock, begin. */
public final class BeforeTheGameTest {
    private static final Check check = new Check();

    public static void main(String[] args) {
        promise1NewObject();
        promise2PutCounts();
        promise2PutRefuses();
        promise2PutInTheGame();
        promise3LockNumbers();
        promise3LockRefuses();
        promise4Begin();
        promise4BeginRefuses();
        promise4BeginThatEnds();
        check.end("BeforeTheGameTest");
    }

    private static void promise1NewObject() {
        BargeChess x = new BargeChess();
        check.due("board", Check.board(x), "...... ...... ...... ...... ...... ......");
        x = new BargeChess();
        for (int what = 0; what < 17; what++) {
            check.due("account(" + what + ")", x.account(what), 0);
        }
        for (int square = 0; square < 36; square++) {
            check.due("squareOf(" + square + ", 0)", x.squareOf(square, 0), BargeChess.NOTHING);
            check.due("squareOf(" + square + ", 1)", x.squareOf(square, 1), BargeChess.NOTHING);
            check.due("squareOf(" + square + ", 2)", x.squareOf(square, 2), 0);
        }
        for (int what = 0; what < 6; what++) {
            check.due("sideOf(0, " + what + ")", x.sideOf(0, what), 0);
            check.due("sideOf(1, " + what + ")", x.sideOf(1, what), 0);
        }
        check.due("lockOf(0, 0)", x.lockOf(0, 0), BargeChess.NONE);
        check.due("sign(0)", x.sign(0), BargeChess.NONE);
        check.due("undo()", x.undo(), BargeChess.NOTHING);
        check.due("restore()", x.restore(), BargeChess.NOTHING);
        check.due("mean()", x.mean(), BargeChess.NOTHING);
    }

    private static void promise2PutCounts() {
        BargeChess x = new BargeChess();
        for (int i = 0; i < 8; i++) {
            check.due("put of side 0", x.put(0, i % 2, i), i + 1);
            check.due("put of side 1", x.put(1, i % 2, 35 - i), i + 1);
        }
        check.due("board", Check.board(x), "btbtbt bt.... ...... ...... ....TB TBTBTB");
        check.due("account(6)", x.account(6), 16);
        check.due("account(16)", x.account(16), 8);
    }

    private static void promise2PutRefuses() {
        BargeChess x = Check.set("bbbbbb bb.... ...... ..34.. ...... .....B");
        String before = Check.all(x);
        check.due("put(0, 0, 8)", x.put(0, 0, 8), BargeChess.REFUSED);
        check.refused("put(0, 0, 8)", x, 1, 8);
        check.due("put(0, 0, 7)", x.put(0, 0, 7), BargeChess.REFUSED);
        check.refused("put(0, 0, 7)", x, 5, 7);
        check.due("put(0, 0, 21)", x.put(0, 0, 21), BargeChess.REFUSED);
        check.refused("put(0, 0, 21)", x, 6, 1);
        check.due("put(1, 0, 20)", x.put(1, 0, 20), BargeChess.REFUSED);
        check.refused("put(1, 0, 20)", x, 6, 0);
        check.due("put(1, 0, 35)", x.put(1, 0, 35), BargeChess.REFUSED);
        check.refused("put(1, 0, 35)", x, 5, 35);
        check.due("put(2, 2, 36)", x.put(2, 2, 36), BargeChess.NONE);
        check.due("put(0, 0, -1)", x.put(0, 0, -1), BargeChess.NONE);
        check.due("put(2, 0, 0)", x.put(2, 0, 0), BargeChess.BAD);
        check.due("put(-1, 0, 0)", x.put(-1, 0, 0), BargeChess.BAD);
        check.due("put(0, 2, 0)", x.put(0, 2, 0), BargeChess.BAD);
        check.due("put(0, -1, 0)", x.put(0, -1, 0), BargeChess.BAD);
        check.refused("what is out of range", x, 5, 35);
        check.due("all", Check.all(x), before);
        check.due("put(1, 1, 34)", x.put(1, 1, 34), 2);
    }

    private static void promise2PutInTheGame() {
        BargeChess x = Check.begun("bbbbbb bb.... ...... 2..... ...... .....T");
        x.move(6, 0);
        String before = Check.all(x);
        for (int square : new int[] {0, 18, 20}) {
            check.due("put in the game", x.put(0, 0, square), BargeChess.REFUSED);
            check.refused("put in the game", x, 2, 1);
            check.due("lock in the game", x.lock(square, 2), BargeChess.REFUSED);
            check.refused("lock in the game", x, 2, 1);
        }
        check.due("put of no side in the game", x.put(3, 0, 0), BargeChess.BAD);
        check.due("lock of no period in the game", x.lock(0, 9), BargeChess.BAD);
        check.due("all", Check.all(x), before);
    }

    private static void promise3LockNumbers() {
        BargeChess x = new BargeChess();
        check.due("lock(0, 2)", x.lock(0, 2), 0);
        check.due("lock(35, 5)", x.lock(35, 5), 1);
        check.due("lock(14, 3)", x.lock(14, 3), 2);
        check.due("lock(15, 4)", x.lock(15, 4), 3);
        check.due("board", Check.board(x), "=..... ...... ..==.. ...... ...... .....=");
        check.due("account(7)", x.account(7), 4);
        check.due("account(8)", x.account(8), 0);
        check.due("lock(16, 4)", x.lock(16, 4), BargeChess.REFUSED);
        check.refused("lock(16, 4)", x, 1, 4);
        check.due("account(7)", x.account(7), 4);
        check.due("account(16)", x.account(16), 4);
    }

    private static void promise3LockRefuses() {
        BargeChess x = Check.set("b....2 ...... ...... 345... ...... .....B");
        String before = Check.all(x);
        check.due("lock(0, 2)", x.lock(0, 2), BargeChess.REFUSED);
        check.refused("lock(0, 2)", x, 5, 0);
        check.due("lock(19, 2)", x.lock(19, 2), BargeChess.REFUSED);
        check.refused("lock(19, 2)", x, 6, 2);
        check.due("lock(36, 1)", x.lock(36, 1), BargeChess.NONE);
        check.due("lock(-1, 2)", x.lock(-1, 2), BargeChess.NONE);
        check.due("lock(1, 1)", x.lock(1, 1), BargeChess.BAD);
        check.due("lock(1, 6)", x.lock(1, 6), BargeChess.BAD);
        check.due("all", Check.all(x), before);
    }

    private static void promise4Begin() {
        BargeChess x = Check.set("b..... ...... ...... ...... ...... .....B");
        check.due("begin()", x.begin(), 2);
        check.due("account(4)", x.account(4), 1);
        check.due("repeats()", x.repeats(), 1);
        check.due("account(14)", x.account(14), 1);
        check.due("account(0)", x.account(0), 0);
        check.due("account(1)", x.account(1), 0);
        check.due("account(5)", x.account(5), 0);
        check.due("account(16)", x.account(16), 3);
        x = Check.set("...... ...... ..t... ...... ...... .....B");
        check.due("begin() with a tug", x.begin(), 4);
    }

    private static void promise4BeginRefuses() {
        BargeChess x = new BargeChess();
        check.due("begin() without pieces", x.begin(), BargeChess.REFUSED);
        check.refused("begin() without pieces", x, 7, 0);
        x.put(0, 0, 0);
        check.due("begin() without side 1", x.begin(), BargeChess.REFUSED);
        check.refused("begin() without side 1", x, 7, 1);
        check.due("account(4)", x.account(4), 0);
        x = new BargeChess();
        x.put(1, 0, 0);
        check.due("begin() without side 0", x.begin(), BargeChess.REFUSED);
        check.refused("begin() without side 0", x, 7, 0);
        x = Check.begun("t..... ...... ...... ...... ...... .....T");
        x.move(0, 0);
        x.move(35, 3);
        check.due("begin() again", x.begin(), BargeChess.REFUSED);
        check.refused("begin() again", x, 2, 2);
        check.due("account(16)", x.account(16), 5);
    }

    private static void promise4BeginThatEnds() {
        BargeChess x = Check.set("...... ...... ...... ...... ...... bBB...");
        check.due("begin()", x.begin(), 0);
        check.due("account(5)", x.account(5), 2);
        check.due("account(4)", x.account(4), 1);
        check.due("repeats()", x.repeats(), 1);
        check.due("mostRepeats()", x.mostRepeats(), 1);
        check.due("account(14)", x.account(14), 1);
        check.due("move(30, 1)", x.move(30, 1), BargeChess.REFUSED);
        check.refused("move(30, 1)", x, 4, 2);
        check.due("begin()", x.begin(), BargeChess.REFUSED);
        check.refused("begin()", x, 2, 0);
        check.due("wouldPush(31, 3)", x.wouldPush(31, 3), 1);
    }
}
