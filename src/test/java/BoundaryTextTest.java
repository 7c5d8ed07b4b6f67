import java.util.function.Supplier;

/** The boundary cases of the promises 19 to 25, a method for each sentence of the document. */
public final class BoundaryTextTest {
    private static final Check check = new Check();
    private static final int NONE = BargeChess.NONE;
    private static final int BAD = BargeChess.BAD;
    private static final int REFUSED = BargeChess.REFUSED;
    private static final int NOTHING = BargeChess.NOTHING;
    private static final int[] FAR = {-1, -2, Integer.MIN_VALUE, Integer.MAX_VALUE};
    private static final String SMALL = "t..... ...... ...... ...... ...... .....T";
    private static final String TAKEN = "Bt.... ...... ...... ...... ...... ......";
    /** As many moves as a text can hold, in 68 characters, for a tug t on 0 and a tug T on 4. */
    private static final String MOST_MOVES = "0u;4r;6d;5l;0u;4r;6d;5l;0u;4r;6d;5l;0u;4r;6d;5l;0u;4r;6d;5l;0u;4r;6d";
    private static final String MOST_ROWS = "t...T. ...... ...... ...... ....34 .....5";

    public static void main(String[] args) throws ReflectiveOperationException {
        check.promises(BoundaryTextTest.class);
        check.end("BoundaryTextTest");
    }

    private static Supplier<BargeChess> begun(String rows) {
        return () -> Check.begun(rows);
    }

    private static Supplier<BargeChess> played(String rows, String moves) {
        return () -> {
            BargeChess x = Check.begun(rows);
            Check.play(x, moves);
            return x;
        };
    }

    private static String line(BargeChess x) {
        StringBuilder line = new StringBuilder();
        for (int index = 0; index < 10 && x.sign(index) != NONE; index++) {
            line.append((char) x.sign(index));
        }
        return line.toString();
    }

    // describe: "NONE if there is no such row"

    static void promise19NoSuchRow() {
        for (int row : FAR) {
            check.asks("describe(" + row + ")", begun(SMALL), x -> x.describe(row), NONE);
        }
        check.asks("describe(6)", begun(SMALL), x -> x.describe(6), NONE);
        check.asks("describe(7)", BargeChess::new, x -> x.describe(7), NONE);
    }

    static void promise19NoSuchRowLeavesTheLine() {
        BargeChess x = Check.begun(SMALL);
        x.describe(6);
        check.due("the line", line(x), "");
        x.describe(0);
        for (int row : new int[] {6, -1, 36, Integer.MIN_VALUE}) {
            check.due("describe(" + row + ")", x.describe(row), NONE);
            check.due("the line", line(x), "t.....");
        }
    }

    // "Returns its length"; "in place of the line before"; "a sign for each of its squares, from the column 0 on"

    static void promise19FirstAndLastRow() {
        BargeChess x = Check.set("bt..TB ...... ...... ...... ...... Bb..tT");
        check.due("describe(0)", x.describe(0), 6);
        check.due("the line", line(x), "bt..TB");
        check.due("describe(5)", x.describe(5), 6);
        check.due("the line", line(x), "Bb..tT");
        check.due("describe(3)", x.describe(3), 6);
        check.due("the line", line(x), "......");
    }

    // "'#' for a closed lock, '=' for an open one, and '.' for nothing"; a piece ahead of a lock

    static void promise19Locks() {
        BargeChess x = Check.begun("t2..3. ...... ...... ...... ...... .....T");
        x.describe(0);
        check.due("open ones", line(x), "t=..=.");
        Check.play(x, "0u;35d");
        x.describe(0);
        check.due("a closed one", line(x), ".#..=.");
        Check.play(x, "6r");
        x.describe(0);
        check.due("two closed ones", line(x), ".#..#.");
    }

    static void promise19PieceOnALock() {
        BargeChess x = played("t2.... ...... ...... ...... ...... .....T", "0r").get();
        x.describe(0);
        check.due("the line", line(x), ".t....");
        x = played("tb2... ...... ...... ...... ...... .....T", "0r").get();
        x.describe(0);
        check.due("the line", line(x), ".tb...");
    }

    // sign: "the line, which is empty at first"; "NONE if there is no such index"

    static void promise20EmptyAtFirst() {
        for (int index = -1; index < 8; index++) {
            int asked = index;
            check.asks("sign(" + index + ")", begun(SMALL), x -> x.sign(asked), NONE);
        }
    }

    static void promise20NoSuchIndex() {
        BargeChess x = Check.set("bbbbbb ...... ...... ...... ...... ......");
        x.describe(0);
        for (int index : FAR) {
            check.due("sign(" + index + ")", x.sign(index), NONE);
        }
        check.due("sign(6)", x.sign(6), NONE);
        check.due("sign(7)", x.sign(7), NONE);
        check.due("sign(0)", x.sign(0), 98);
        check.due("sign(5)", x.sign(5), 98);
    }

    static void promise20CodesOfAllSigns() {
        BargeChess x = Check.begun("b.t.B2 ...... ...... ...... ...... .....T");
        Check.play(x, "2u;35d");
        x.describe(0);
        int[] codes = {98, 46, 46, 46, 66, 35};
        for (int index = 0; index < 6; index++) {
            check.due("sign(" + index + ")", x.sign(index), codes[index]);
        }
        x = Check.set("btBT.. 4..... ...... ...... ...... ......");
        x.describe(0);
        int[] pieces = {98, 116, 66, 84, 46, 46};
        for (int index = 0; index < 6; index++) {
            check.due("sign(" + index + ")", x.sign(index), pieces[index]);
        }
        x.describe(1);
        check.due("sign(0)", x.sign(0), 61);
    }

    static void promise20TheLineStaysAsItWasWritten() {
        BargeChess x = Check.begun(SMALL);
        x.describe(0);
        x.move(0, 1);
        check.due("behind a move", line(x), "t.....");
        x.undo();
        check.due("behind undo", line(x), "t.....");
        x.save();
        x.restore();
        check.due("behind restore", line(x), "t.....");
        Check.read(x, "0u");
        check.due("behind read", line(x), "t.....");
    }

    // append: "32 to 126"; "BAD if the code is out of range, or the text has 70 characters"

    static void promise21CodesOutOfRange() {
        for (int code : new int[] {31, 127, 0, -1, 128, 255, 256 + 65, Integer.MIN_VALUE, Integer.MAX_VALUE}) {
            check.error("append(" + code + ")", begun(SMALL), x -> x.append(code), BAD);
        }
    }

    static void promise21EveryCode() {
        for (int code = 32; code <= 126; code++) {
            BargeChess x = new BargeChess();
            check.due("append(" + code + ")", x.append(code), 1);
            check.due("account(15)", x.account(15), 1);
        }
    }

    static void promise21SeventyCharacters() {
        BargeChess x = new BargeChess();
        for (int length = 1; length <= 70; length++) {
            check.due("the character " + length, x.append(48 + length % 10), length);
            check.due("account(15)", x.account(15), length);
        }
        for (int code : new int[] {48, 32, 126, 31, 127}) {
            check.due("the character 71", x.append(code), BAD);
            check.due("account(15)", x.account(15), 70);
        }
    }

    static void promise21RefusedCharactersAreNotInTheText() {
        BargeChess x = Check.begun(MOST_ROWS);
        Check.type(x, "0");
        x.append(31);
        x.append(127);
        Check.type(x, "0u;04" + MOST_MOVES.substring(4));
        check.due("account(15)", x.account(15), 70);
        x.append('x');
        check.due("the seventy characters", x.read(), 23);
    }

    // read: "-100 minus the fault position if the text is wrong"

    private static void fault(String text, int position) {
        String call = "read() of \"" + text + "\"";
        check.error(call, begun(SMALL), x -> Check.read(x, text), -100 - position);
        check.error(call + " ahead of the game", BargeChess::new, x -> Check.read(x, text), -100 - position);
        check.error(call + " behind the end", played(TAKEN, "1l"), x -> Check.read(x, text), -100 - position);
    }

    // "or its length if it ends too early"; "one or more moves"

    static void promise22EndsTooEarly() {
        fault("", 0);
        fault("0", 1);
        fault("00", 2);
        fault("35", 2);
        fault("0u;", 3);
        fault("0u;3", 4);
        fault("0u;35", 5);
        fault("0u;35l;", 7);
    }

    // "the index of its first character with which no such text can continue"

    static void promise22FirstCharacter() {
        for (int code = 32; code <= 126; code++) {
            fault(String.valueOf((char) code), code >= '0' && code <= '9' ? 1 : 0);
        }
    }

    static void promise22BehindOneDigit() {
        for (int code = 32; code <= 126; code++) {
            boolean digit = code >= '0' && code <= '9';
            if ("urdl".indexOf(code) < 0) {
                fault("0" + (char) code, digit ? 2 : 1);
            }
        }
    }

    static void promise22BehindTwoDigits() {
        for (int code = 32; code <= 126; code++) {
            if ("urdl".indexOf(code) < 0) {
                fault("00" + (char) code, 2);
            }
        }
    }

    static void promise22BehindAMove() {
        for (int code = 32; code <= 126; code++) {
            fault("0u" + (char) code, code == ';' ? 3 : 2);
        }
    }

    static void promise22BehindASemicolon() {
        for (int code = 32; code <= 126; code++) {
            fault("0u;" + (char) code, code >= '0' && code <= '9' ? 4 : 3);
        }
    }

    static void promise22EveryDigitAtBothPlaces() {
        for (int number = 0; number < 100; number++) {
            String two = (number < 10 ? "0" : "") + number;
            fault(two, 2);
            fault(two + "x", 2);
            fault(two + two, 2);
        }
    }

    static void promise22FirstFaultOfMany() {
        fault("0u0;x", 2);
        fault("x0u", 0);
        fault("0u;x;y", 3);
        fault("0u;;35l", 3);
        fault("99u;99x", 6);
    }

    static void promise22FaultsAtTheEndOfALongText() {
        String sixtyNine = "0" + MOST_MOVES;
        BargeChess x = Check.begun(MOST_ROWS);
        check.due("69 characters that are right", Check.read(x, sixtyNine), 23);
        fault(sixtyNine + ";", 70);
        fault(sixtyNine + "x", 69);
        fault(MOST_MOVES + ";1", 70);
        fault(MOST_MOVES + ";;", 69);
        fault(MOST_MOVES + ";", 69);
    }

    // "If several errors apply, the one that is listed first is returned.": a fault ahead of what its moves would answer

    static void promise22FaultAheadOfTheMoves() {
        fault("36u;0u;x", 7);
        fault("0d;0d;", 6);
        fault("0l;99", 5);
    }

    // "the square, of one or two digits, zeros at the front allowed"

    static void promise22SquaresOfOneAndTwoDigits() {
        BargeChess x = Check.begun("...... .t.... ...... ...... ....T. ......");
        check.due("one and two digits", Check.read(x, "7u;28d"), 2);
        check.due("a zero at the front", Check.read(x, "13d;22u;07l;28r"), 4);
        check.due("the board", Check.board(x), "...... t..... ...... ...... .....T ......");
        x = Check.begun("t..... ...... ...... ...... ...... .....T");
        check.due("two zeros", Check.read(x, "00r;35l;1l"), 3);
    }

    // "'u', 'r', 'd' or 'l' for the direction"

    static void promise22FourDirections() {
        BargeChess x = Check.begun("...... .t.... ...... ...... ....T. ......");
        check.due("up and down", Check.read(x, "7u;28d"), 2);
        check.due("the board", Check.board(x), "...... ...... .t.... ....T. ...... ......");
        check.due("right and left", Check.read(x, "13l;22r;12r;23l"), 4);
        check.due("the board", Check.board(x), "...... ...... .t.... ....T. ...... ......");
    }

    // "Returns the number of moves"

    static void promise22NumberOfMoves() {
        check.due("one", Check.read(Check.begun(SMALL), "0u"), 1);
        check.due("two", Check.read(Check.begun(SMALL), "0u;35d"), 2);
        BargeChess x = Check.begun(MOST_ROWS);
        check.due("23 in 68 characters", Check.read(x, MOST_MOVES), 23);
        check.due("account(0)", x.account(0), 23);
        x = Check.begun(MOST_ROWS);
        check.due("23 in 70 characters", Check.read(x, "00u;04" + MOST_MOVES.substring(4)), 23);
        check.due("account(0)", x.account(0), 23);
    }

    static void promise22TheSameAsTheirMoves() {
        String text = "0u;4r;6d;5l;0r;4u;1u;10r;7l;11d";
        BargeChess x = Check.begun(MOST_ROWS);
        BargeChess y = Check.begun(MOST_ROWS);
        check.due("read()", Check.read(x, text), 10);
        Check.play(y, text);
        for (int what = 0; what < 16; what++) {
            check.due("account(" + what + ")", x.account(what), y.account(what));
        }
        check.due("the board", Check.board(x), Check.board(y));
        check.due("repeats()", x.repeats(), y.repeats());
    }

    // "REFUSED if a move is refused": for each of its reasons, at the first and at a later move

    private static void readRefused(Supplier<BargeChess> made, String text, int... want) {
        check.refuses("read() of " + text, made, x -> Check.read(x, text), want);
    }

    static void promise22RefusedAheadOfTheGame() {
        readRefused(() -> Check.set(SMALL), "0u", 3, 0, 0);
        readRefused(() -> Check.set(SMALL), "20u;36u", 3, 0, 0);
    }

    static void promise22RefusedBehindTheEnd() {
        readRefused(played(TAKEN, "1l"), "0u", 4, 1, 0);
        readRefused(played(SMALL, "0u;35d;6d;29u;0u;35d;6d;29u"), "0u;35d", 4, 3, 0);
    }

    static void promise22RefusedAsTheGameEndsWithinTheText() {
        readRefused(begun(TAKEN), "1l;0u", 4, 1, 1);
        readRefused(begun(SMALL), "0u;35d;6d;29u;0u;35d;6d;29u;0u", 4, 3, 8);
    }

    static void promise22TheEndAtTheLastMoveIsNoFault() {
        BargeChess x = Check.begun(TAKEN);
        check.due("read()", Check.read(x, "1l"), 1);
        check.due("account(5)", x.account(5), 1);
        x = Check.begun(SMALL);
        check.due("read()", Check.read(x, "0u;35d;6d;29u;0u;35d;6d;29u"), 8);
        check.due("account(5)", x.account(5), 3);
        check.due("repeats()", x.repeats(), 3);
    }

    static void promise22RefusedForTheSide() {
        readRefused(begun(SMALL), "35l", 8, 0, 0);
        readRefused(begun(SMALL), "20u", 8, 0, 0);
        readRefused(begun(SMALL), "0u;6u", 8, 1, 1);
        readRefused(begun(SMALL), "0u;35d;0u", 8, 0, 2);
    }

    static void promise22RefusedForEachCause() {
        readRefused(begun("b..... ...... ...... ...... ...... .....T"), "0d", 9, 2, 0, 10, 0);
        readRefused(begun(SMALL), "0u;35d;6l", 9, 3, 2, 11, 6);
        readRefused(begun("t..... .2.... ...... ...... ...... .....T"), "0u;35d;6r", 9, 1, 2, 12, 7);
        readRefused(begun("tBBB.. ...... ...... ...... ...... .....T"), "0r", 9, 1, 0, 13, 3);
        readRefused(begun("tBBB.. ...... ...... ...... ...... .....T"), "0u;3u", 9, 0, 1, 10, 0);
    }

    static void promise22RefusedAtTheLastOfManyMoves() {
        readRefused(begun(MOST_ROWS), MOST_MOVES.substring(0, 66) + "6l", 9, 3, 22, 11, 6);
    }

    // "BAD if a call for a move returns another error code"

    static void promise22SquaresThatAreNone() {
        for (int square = 36; square < 100; square++) {
            String text = square + "u";
            check.error("read() of " + text, begun(SMALL), x -> Check.read(x, text), BAD);
            check.error("read() of 0u;" + text, begun(SMALL), x -> Check.read(x, "0u;" + text), BAD);
        }
    }

    static void promise22SquareThatIsNoneAheadOfTheReasons() {
        check.error("ahead of the game", BargeChess::new, x -> Check.read(x, "36u"), BAD);
        check.error("behind the end", played(TAKEN, "1l"), x -> Check.read(x, "99l"), BAD);
        check.error("as the game ends within the text", begun(TAKEN), x -> Check.read(x, "1l;36u"), BAD);
    }

    static void promise22LastSquare() {
        BargeChess x = played(SMALL, "0u").get();
        check.due("the square 35", Check.read(x, "35l"), 1);
    }

    // "makes them, all or none"

    static void promise22NoneIsMade() {
        BargeChess x = Check.begun(SMALL);
        String before = Check.all(x);
        check.due("refused at last", Check.read(x, "0u;35d;6u;29d;12l"), REFUSED);
        check.due("all", Check.all(x), before);
        check.due("BAD at last", Check.read(x, "0u;35d;6u;29d;40l"), BAD);
        check.due("all", Check.all(x), before);
        check.due("a fault at last", Check.read(x, "0u;35d;6u;29d;12"), -100 - 16);
        check.due("all", Check.all(x), before);
        check.due("the position has not come", Check.play(x, "0u;35d;6d;29u"), 2);
    }

    // "except that read empties the text"

    static void promise22EmptiesTheText() {
        String[] texts = {"0u", "0u;", "x", "36u", "35l", ""};
        int[] want = {1, -103, -100, BAD, REFUSED, -100};
        for (int i = 0; i < texts.length; i++) {
            BargeChess x = Check.begun(SMALL);
            Check.type(x, texts[i]);
            check.due("account(15)", x.account(15), texts[i].length());
            check.due("read() of " + texts[i], x.read(), want[i]);
            check.due("account(15) behind " + texts[i], x.account(15), 0);
            check.due("read() again", x.read(), -100);
            check.due("append", x.append('0'), 1);
        }
    }

    // "The changes are the successful calls of put, lock, begin, move and read."

    static void promise22OneChangeForATextOfManyMoves() {
        BargeChess x = Check.begun(MOST_ROWS);
        int changes = x.account(16);
        check.due("read()", Check.read(x, MOST_MOVES), 23);
        check.due("account(16)", x.account(16), changes + 1);
        check.due("undo()", x.undo(), changes);
        check.due("account(0)", x.account(0), 0);
        check.due("account(13)", x.account(13), 0);
        check.due("account(14)", x.account(14), 1);
    }

    // refusal: "BAD if there is no such what; NOTHING if nothing was refused, or there is no cause"

    static void promise23NoSuchWhat() {
        for (int what : FAR) {
            check.asks("refusal(" + what + ")", BargeChess::new, x -> x.refusal(what), BAD);
        }
        check.asks("refusal(5)", BargeChess::new, x -> x.refusal(5), BAD);
        check.asks("refusal(6)", () -> {
            BargeChess x = Check.begun(SMALL);
            x.move(0, 3);
            return x;
        }, x -> x.refusal(6), BAD);
    }

    static void promise23NothingWasRefused() {
        BargeChess x = played(SMALL, "0u;35d").get();
        x.put(0, 0, 36);
        x.put(0, 3, 0);
        x.lock(0, 1);
        x.move(0, 4);
        x.undo();
        x.restore();
        Check.read(x, "x");
        Check.read(x, "36u");
        for (int what = 0; what < 5; what++) {
            check.due("refusal(" + what + ")", x.refusal(what), NOTHING);
        }
    }

    static void promise23NoCauseButForTheReasonNine() {
        BargeChess x = Check.begun(SMALL);
        check.due("a move with a cause", x.move(0, 3), REFUSED);
        check.refused("it", x, 9, 3, NOTHING, 11, 0);
        check.due("a move without", x.move(1, 3), REFUSED);
        check.refused("it", x, 8, 0);
        x.move(0, 3);
        check.due("put", x.put(0, 0, 1), REFUSED);
        check.refused("it", x, 2, 0);
        x.move(0, 3);
        check.due("begin", x.begin(), REFUSED);
        check.refused("it", x, 2, 0);
        x.move(0, 3);
        check.due("lock", x.lock(1, 2), REFUSED);
        check.refused("it", x, 2, 0);
    }

    // "2 the number of the move in its text, from 0, NOTHING for another call than read"

    static void promise23NumberOfTheMoveInItsText() {
        BargeChess x = Check.begun(SMALL);
        Check.read(x, "0u;35d;6u;29d;12l");
        check.refused("read", x, 9, 3, 4, 11, 12);
        x.move(0, 3);
        check.refused("move", x, 9, 3, NOTHING, 11, 0);
        Check.read(x, "0l");
        check.refused("read", x, 9, 3, 0, 11, 0);
        x.put(0, 0, 1);
        check.refused("put", x, 2, 0);
    }

    // "and that reasons are kept"; "The text, the line and the reasons are in neither undo nor snapshot, and stay."

    static void promise23ReasonsAreKept() {
        BargeChess x = Check.begun(SMALL);
        x.save();
        x.move(0, 3);
        x.move(0, 0);
        check.refused("a move that is made", x, 9, 3, NOTHING, 11, 0);
        x.move(36, 0);
        x.move(0, 5);
        check.refused("errors that are no refusals", x, 9, 3, NOTHING, 11, 0);
        Check.read(x, "x");
        Check.read(x, "36u");
        Check.read(x, "35d");
        check.refused("texts that are not refused", x, 9, 3, NOTHING, 11, 0);
        x.undo();
        check.refused("undo", x, 9, 3, NOTHING, 11, 0);
        x.restore();
        check.refused("restore", x, 9, 3, NOTHING, 11, 0);
        x.save();
        x.refusal(7);
        check.refused("save", x, 9, 3, NOTHING, 11, 0);
    }

    // account: "BAD if there is no such what"

    static void promise24NoSuchWhat() {
        for (int what : FAR) {
            check.asks("account(" + what + ")", begun(SMALL), x -> x.account(what), BAD);
        }
        check.asks("account(17)", begun(SMALL), x -> x.account(17), BAD);
        check.asks("account(18)", BargeChess::new, x -> x.account(18), BAD);
    }

    private static void accounts(String when, BargeChess x, int... want) {
        for (int what = 0; what < want.length; what++) {
            check.due("account(" + what + ") " + when, x.account(what), want[what]);
        }
    }

    static void promise24OfNothing() {
        accounts("of nothing", new BargeChess(), 0, 0, 0, 0, 0, 0, 0, 0, 0, 0, 0, 0, 0, 0, 0, 0, 0);
    }

    static void promise24OfAFullBoard() {
        BargeChess x = Check.set("bbbbbb bb.... 2345.. ...... ....BB BBBBBB");
        accounts("ahead of the game", x, 0, 0, 0, 0, 0, 0, 16, 4, 0, 0, 0, 0, 0, 0, 0, 0, 8);
        x.begin();
        accounts("in the game", x, 0, 0, 0, 0, 1, 0, 16, 4, 0, 0, 0, 0, 0, 0, 1, 0, 8);
    }

    static void promise24BehindAVictory() {
        accounts("behind a victory", played(TAKEN, "1l").get(), 1, 1, 0, 0, 1, 1, 1, 0, 0, 1, 1, 0, 0, 0, 2, 0, 4);
    }

    static void promise24BehindTheTurnOneHundredAndTwenty() {
        BargeChess x = Check.begun("t....T ...... ..5b.. ...... ...... ......");
        Check.rounds(x, 0, 120);
        accounts("in the turn 120", x, 120, 0, 30, 2, 1, 3, 3, 1, 0, 0, 0, 0, 15, 24, 121, 0, 8);
    }

    static void promise24ClosedLocks() {
        BargeChess x = Check.begun("t....T ...... ..23.. ..45.. ...... ......");
        for (int turn = 0; turn < 61; turn++) {
            int closed = 0;
            int turns = 0;
            for (int period = 2; period <= 5; period++) {
                closed += turn / period % 2;
                turns += turn / period;
            }
            check.due("account(8) in the turn " + turn, x.account(8), closed);
            check.due("account(13) in the turn " + turn, x.account(13), turns);
            Check.rounds(x, turn, turn + 1);
        }
    }

    static void promise24DifferentPositions() {
        BargeChess x = Check.begun(SMALL);
        int[] want = {1, 2, 3, 4, 4, 4, 4, 4, 4};
        String[] moves = {"0u", "35d", "6d", "29u", "0u", "35d", "6d", "29u"};
        for (int turn = 0; turn <= moves.length; turn++) {
            check.due("account(14) in the turn " + turn, x.account(14), want[turn]);
            if (turn < moves.length) {
                Check.play(x, moves[turn]);
            }
        }
    }

    static void promise24ChangesThatCanBeUndone() {
        BargeChess x = new BargeChess();
        for (int change = 1; change <= 12; change++) {
            x.lock(change, change <= 4 ? 2 : 1);
            x.put(0, 0, change + 20);
            check.due("account(16)", x.account(16), Math.min(8, change <= 4 ? 2 * change : change <= 8 ? 4 + change : 8));
        }
    }

    // mean: "NOTHING if there are none"

    static void promise25NothingWithoutPieces() {
        check.asks("mean() of nothing", BargeChess::new, BargeChess::mean, NOTHING);
        check.asks("mean() of locks", () -> Check.set("2..... ...... ...... ...... ...... ...345"), BargeChess::mean, NOTHING);
        BargeChess x = Check.set("...... ...... ...b.. ...... ...... ......");
        x.undo();
        check.due("mean() undone", x.mean(), NOTHING);
    }

    // "the sum divided by their number, both converted to float"

    static void promise25OneRow() {
        int[] bits = {0, 0x3f800000, 0x40000000, 0x40400000, 0x40800000, 0x40a00000};
        for (int row = 0; row < 6; row++) {
            BargeChess x = new BargeChess();
            for (int many = 0; many < 6; many++) {
                x.put(many % 2, many / 2 % 2, 6 * row + many);
                check.due("mean() of the row " + row, x.mean(), bits[row]);
            }
        }
    }

    static void promise25Fractions() {
        mean("b..... b..... ...... ...... ...... ......", 1, 2);
        mean("bB.... T..... ...... ...... ...... ......", 1, 3);
        mean("b..... TT.... ...... ...... ...... ......", 2, 3);
        mean("bbbBBB BBbbb. bbBB.. ...... ...... ......", 5 + 8, 15);
        mean("bbbbbb bBBBBB BBB... ...... ...... b.....", 6 + 6 + 5, 16);
        mean("b..... ...... ...... ...... BBB... bbb...", 27, 7);
        mean("bbbbbb b.BBBB BBB... ...... ...... B.....", 5 + 6 + 5, 15);
        mean("bbbbbb bbBBBB BB.... B..... B..... ......", 6 + 4 + 3 + 4, 16);
    }

    private static void mean(String rows, int sum, int count) {
        check.asks("mean() of " + rows, () -> Check.set(rows), BargeChess::mean,
            Float.floatToIntBits((float) sum / (float) count));
    }

    static void promise25WithoutThoseThatAreGone() {
        BargeChess x = Check.begun("Bt.... ...... ...... ...... ...... .....B");
        check.due("mean() of three", x.mean(), Float.floatToIntBits(5f / 3f));
        x.move(1, 3);
        check.due("mean() of two", x.mean(), Float.floatToIntBits(2.5f));
    }
}
