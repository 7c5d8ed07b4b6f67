/** Promises 19 to 25: describe, sign, append, read, refusal, account, mean. */
public final class TextsTest {
    private static final Check check = new Check();
    private static final int NO = BargeChess.NOTHING;

    public static void main(String[] args) {
        promises19And20Lines();
        promise21Append();
        promise22FaultPositions();
        promise22MakesMoves();
        promise22AllOrNone();
        promise22SquaresOffTheBoard();
        promise22LongTexts();
        promise22EndsWithin();
        promise23Refusal();
        promise24Account();
        promise25Mean();
        check.end("TextsTest");
    }

    private static void promises19And20Lines() {
        BargeChess x = Check.begun("btBT.. 2..... .....3 ...... ...... ......");
        check.due("sign(0) at first", x.sign(0), BargeChess.NONE);
        check.due("describe(6)", x.describe(6), BargeChess.NONE);
        check.due("describe(-1)", x.describe(-1), BargeChess.NONE);
        check.due("sign(0) still", x.sign(0), BargeChess.NONE);
        check.due("describe(0)", x.describe(0), 6);
        int[] codes = {98, 116, 66, 84, 46, 46};
        for (int index = 0; index < 6; index++) {
            check.due("sign(" + index + ")", x.sign(index), codes[index]);
        }
        check.due("sign(6)", x.sign(6), BargeChess.NONE);
        check.due("sign(-1)", x.sign(-1), BargeChess.NONE);
        check.due("describe(9)", x.describe(9), BargeChess.NONE);
        check.due("the line stays", x.sign(1), 116);
        check.due("describe(1)", x.describe(1), 6);
        check.due("an open lock", x.sign(0), 61);
        check.due("to turn 2", Check.play(x, "1u;3r"), 1);
        check.due("the line as it was written", x.sign(0), 61);
        check.due("describe(1)", x.describe(1), 6);
        check.due("a closed lock", x.sign(0), 35);
        check.due("a piece", x.sign(1), 116);
        x.undo();
        check.due("the line stays behind undo", x.sign(0), 35);
        x.save();
        x.describe(2);
        x.restore();
        check.due("the line stays behind restore", x.sign(5), 61);
        check.due("and where it was closed", x.sign(0), 46);
    }

    private static void promise21Append() {
        BargeChess x = new BargeChess();
        check.due("append(31)", x.append(31), BargeChess.BAD);
        check.due("append(127)", x.append(127), BargeChess.BAD);
        check.due("append(-1)", x.append(-1), BargeChess.BAD);
        check.due("append(32)", x.append(32), 1);
        check.due("append(126)", x.append(126), 2);
        for (int length = 3; length <= 70; length++) {
            check.due("append(65)", x.append(65), length);
        }
        check.due("the character 71", x.append(65), BargeChess.BAD);
        check.due("account(15)", x.account(15), 70);
        check.due("read()", x.read(), -100);
        check.due("account(15)", x.account(15), 0);
        check.due("append(65)", x.append(65), 1);
    }

    private static void fault(String text, int position) {
        BargeChess x = Check.begun("...... .t.... ...... ...... .t..T. ......");
        String before = Check.all(x);
        check.due("read() of " + text, Check.read(x, text), -100 - position);
        check.due("all behind " + text, Check.all(x), before);
        check.due("refusal(0) behind " + text, x.refusal(0), NO);
        check.due("account(15) behind " + text, x.account(15), 0);
    }

    private static void promise22FaultPositions() {
        fault("", 0);
        fault("7", 1);
        fault("07", 2);
        fault("007", 2);
        fault("007u", 2);
        fault("7u;", 3);
        fault("25u;", 4);
        fault("25u;;", 4);
        fault("25u;u", 4);
        fault("25u;28", 6);
        fault("25u;28dd", 7);
        fault("25u,28d", 3);
        fault("25u28d", 3);
        fault("25ur", 3);
        fault("25u ", 3);
        fault(" 25u", 0);
        fault("25 u", 2);
        fault("25U", 2);
        fault("25t", 2);
        fault("u", 0);
        fault(";", 0);
        fault("2;", 1);
        fault("-7u", 0);
        fault("7u;99u;x", 7);
        fault("99", 2);
        fault("2/u", 1);
        fault("2:u", 1);
        fault("25u;28d;", 8);
    }

    private static void promise22MakesMoves() {
        BargeChess x = Check.begun("...... .t.... ...... ...... ....T. .....B");
        check.due("read()", Check.read(x, "07l;28r;6d;35l;0r"), 5);
        check.due("board", Check.board(x), ".t.... ...... ...... ...... .....T ....B.");
        check.due("account(0)", x.account(0), 5);
        check.due("account(16): one change", x.account(16), 5);
        check.due("undo()", x.undo(), 4);
        check.due("account(0)", x.account(0), 0);
        check.due("board", Check.board(x), "...... .t.... ...... ...... ....T. .....B");
        check.due("read() of one", Check.read(x, "7u"), 1);
        check.due("account(0)", x.account(0), 1);
        check.due("refusal(0)", x.refusal(0), NO);
    }

    private static void promise22AllOrNone() {
        BargeChess x = Check.begun("b..... B..... ...... ...... ...... .....T");
        String before = Check.all(x);
        check.due("read()", Check.read(x, "0u;35l;6u;6u"), BargeChess.REFUSED);
        check.refused("read()", x, 8, 1, 3, NO, NO);
        check.due("all", Check.all(x), before);
        check.due("read()", Check.read(x, "0u;35l;6d"), BargeChess.REFUSED);
        check.refused("read()", x, 9, 2, 2, 10, 0);
        check.due("all", Check.all(x), before);
        check.due("read()", Check.read(x, "0l"), BargeChess.REFUSED);
        check.refused("read()", x, 9, 3, 0, 11, 0);
        check.due("account(15)", x.account(15), 0);
        check.due("move()", x.move(35, 0), BargeChess.REFUSED);
        check.refused("move()", x, 8, 0);
        x = new BargeChess();
        check.due("read() ahead of the game", Check.read(x, "0u"), BargeChess.REFUSED);
        check.refused("read() ahead of the game", x, 3, 0, 0, NO, NO);
        check.due("account(16)", x.account(16), 0);
    }

    private static void promise22SquaresOffTheBoard() {
        BargeChess x = Check.begun("b..... ...... ...... ...... ...... .....T");
        String before = Check.all(x);
        check.due("read()", Check.read(x, "0u;36l"), BargeChess.BAD);
        check.due("all", Check.all(x), before);
        check.due("refusal(0)", x.refusal(0), NO);
        check.due("read()", Check.read(x, "99d"), BargeChess.BAD);
        check.due("read()", Check.read(x, "0u;0u;36l"), BargeChess.REFUSED);
        check.refused("read()", x, 8, 1, 1, NO, NO);
        check.due("read()", Check.read(x, "36u;0u"), BargeChess.BAD);
        check.refused("read()", x, 8, 1, 1, NO, NO);
        check.due("all", Check.all(x), before);
        x = new BargeChess();
        check.due("read() ahead of the game", Check.read(x, "36u"), BargeChess.BAD);
    }

    /** As many moves as a text can hold, with locks that keep the positions apart. */
    private static void promise22LongTexts() {
        BargeChess x = Check.begun("t...T. ...... ...... ...... ....34 .....5");
        String round = "0u;4r;6d;5l;";
        String text = round + round + round + round + round + "0u;4r;6d";
        check.due("append", Check.type(x, text), 68);
        check.due("read()", x.read(), 23);
        check.due("account(0)", x.account(0), 23);
        check.due("account(13)", x.account(13), 7 + 5 + 4);
        check.due("account(16)", x.account(16), 7);
        x = Check.begun("...... ...... ...... ...... tt..TT ......");
        check.due("append", Check.type(x, "24u;28u;30d;34d;25u;29u;31d;35d;24u;28u;30d;34d;25u;29u;31d;35d;024u;2"), 70);
        check.due("read()", x.read(), -100 - 66);
    }

    private static void promise22EndsWithin() {
        BargeChess x = Check.begun("Bt.... ...... ...... ...... ...... ......");
        String before = Check.all(x);
        check.due("read()", Check.read(x, "1l;0u"), BargeChess.REFUSED);
        check.refused("read()", x, 4, 1, 1, NO, NO);
        check.due("all", Check.all(x), before);
        check.due("read()", Check.read(x, "1l"), 1);
        check.due("account(5)", x.account(5), 1);
        check.due("read()", Check.read(x, "0u"), BargeChess.REFUSED);
        check.refused("read()", x, 4, 1, 0, NO, NO);
        x = Check.begun("t..... ...... ...... ...... ...... .....T");
        check.due("read()", Check.read(x, "0u;35l;6d;34r;0u;35l;6d;34r;0u"), BargeChess.REFUSED);
        check.refused("read()", x, 4, 3, 8, NO, NO);
        check.due("account(0)", x.account(0), 0);
    }

    private static void promise23Refusal() {
        BargeChess x = new BargeChess();
        for (int what = 0; what < 5; what++) {
            check.due("refusal(" + what + ") at first", x.refusal(what), NO);
        }
        check.due("refusal(5)", x.refusal(5), BargeChess.BAD);
        check.due("refusal(-1)", x.refusal(-1), BargeChess.BAD);
        x.begin();
        check.refused("begin()", x, 7, 0);
        x.put(0, 0, 0);
        x.put(1, 0, 35);
        check.refused("what succeeds behind it", x, 7, 0);
        x.begin();
        Check.read(x, "0d");
        check.refused("read()", x, 9, 2, 0, 10, 0);
        x.move(1, 0);
        check.refused("move() takes the cause away", x, 8, 0);
        x.save();
        x.put(0, 0, 1);
        check.refused("put()", x, 2, 0);
        x.undo();
        check.refused("undo() keeps it", x, 2, 0);
        x.restore();
        check.refused("restore() keeps it", x, 2, 0);
        x.move(0, 7);
        x.put(0, 0, 77);
        check.refused("what is no refusal", x, 2, 0);
        check.due("refusal(5)", x.refusal(5), BargeChess.BAD);
    }

    private static void promise24Account() {
        BargeChess x = Check.set("t2...B b..... ..b... ...... ...... .....T");
        int[] ahead = {0, 0, 0, 0, 0, 0, 5, 1, 0, 0, 0, 0, 0, 0, 0, 0, 6};
        accounts("ahead of the game", x, ahead);
        x.begin();
        accounts("in the game", x, new int[] {0, 0, 0, 0, 1, 0, 5, 1, 0, 0, 0, 0, 0, 0, 1, 0, 7});
        Check.play(x, "0u");
        x.append('0');
        accounts("in turn 1", x, new int[] {1, 1, 0, 0, 1, 0, 5, 1, 0, 0, 1, 0, 0, 0, 2, 1, 8});
        Check.play(x, "5l");
        accounts("in turn 2", x, new int[] {2, 0, 0, 0, 1, 0, 5, 1, 1, 0, 1, 1, 0, 1, 3, 1, 8});
        Check.play(x, "6d;35l");
        accounts("in turn 4", x, new int[] {4, 0, 1, 1, 1, 0, 5, 1, 0, 0, 1, 1, 1, 2, 5, 1, 8});
        check.due("account(17)", x.account(17), BargeChess.BAD);
        check.due("account(-1)", x.account(-1), BargeChess.BAD);
    }

    private static void accounts(String when, BargeChess x, int[] want) {
        for (int what = 0; what < want.length; what++) {
            check.due("account(" + what + ") " + when, x.account(what), want[what]);
        }
    }

    private static void promise25Mean() {
        BargeChess x = new BargeChess();
        check.due("mean() of none", x.mean(), NO);
        // Every mean that sixteen pieces can have.
        for (int count = 1; count <= 16; count++) {
            for (int sum = 0; sum <= 5 * count; sum++) {
                x = withRows(count, sum);
                if (x != null) {
                    check.due("mean() of " + sum + "/" + count, x.mean(), Float.floatToIntBits((float) sum / (float) count));
                }
            }
        }
        check.due("mean() of 0", withRows(3, 0).mean(), 0);
        check.due("mean() of 1/3", withRows(3, 1).mean(), 0x3eaaaaab);
        check.due("mean() of 5", withRows(2, 10).mean(), 0x40a00000);
    }

    /** Puts so many pieces, with so large a sum of rows, each as high as it goes; or null. */
    private static BargeChess withRows(int count, int sum) {
        BargeChess x = new BargeChess();
        int left = sum;
        for (int i = 0; i < count; i++) {
            int row = Math.min(5, left);
            while (row > 0 && free(x, row) < 0) {
                row--;
            }
            int square = free(x, row);
            if (square < 0) {
                return null;
            }
            x.put(i % 2, i / 2 % 2, square);
            left -= row;
        }
        return left == 0 ? x : null;
    }

    private static int free(BargeChess x, int row) {
        for (int square = 6 * row; square < 6 * row + 6; square++) {
            if (x.squareOf(square, 0) < 0) {
                return square;
            }
        }
        return -1;
    }
}
