import java.util.function.Supplier;

/** The boundary cases of the promises 14 to 18, a method for each sentence of the document. */
public final class BoundaryAheadTest {
    private static final Check check = new Check();
    private static final int NONE = BargeChess.NONE;
    private static final int BAD = BargeChess.BAD;
    private static final int NOTHING = BargeChess.NOTHING;
    private static final int[] NO_SQUARES = {-1, -2, -36, 36, 37, 71, Integer.MIN_VALUE, Integer.MAX_VALUE};
    private static final int[] FAR = {-1, -2, Integer.MIN_VALUE, Integer.MAX_VALUE};
    private static final String SMALL = "t..... ...... ...... ...... ...... .....T";
    private static final String TAKEN = "Bt.... ...... ...... ...... ...... ......";

    public static void main(String[] args) throws ReflectiveOperationException {
        check.promises(BoundaryAheadTest.class);
        check.end("BoundaryAheadTest");
    }

    private static Supplier<BargeChess> played(String rows, String moves) {
        return () -> {
            BargeChess x = Check.begun(rows);
            Check.play(x, moves);
            return x;
        };
    }

    private static void wouldPush(String rows, int square, int direction, int want) {
        check.asks(rows + " wouldPush(" + square + ", " + direction + ")", () -> Check.begun(rows),
            x -> x.wouldPush(square, direction), want);
    }

    // wouldPush: "NONE if there is no such square; BAD if there is no such direction"

    static void promise14NoSuchSquare() {
        for (int square : NO_SQUARES) {
            wouldPush(SMALL, square, 0, NONE);
        }
    }

    static void promise14NoSuchDirection() {
        for (int direction : FAR) {
            wouldPush(SMALL, 0, direction, BAD);
        }
        wouldPush(SMALL, 0, 4, BAD);
    }

    static void promise14NoSquareAheadOfBad() {
        wouldPush(SMALL, 36, 4, NONE);
        wouldPush(SMALL, -1, -1, NONE);
    }

    static void promise14BadAheadOfNothing() {
        wouldPush(SMALL, 20, 4, BAD);
        wouldPush(SMALL, 20, -1, BAD);
    }

    // "NOTHING if no piece stands there, or it cannot move so"

    static void promise14NoPiece() {
        for (int direction = 0; direction < 4; direction++) {
            wouldPush(SMALL, 20, direction, NOTHING);
            wouldPush("t..... ...... ..2... ...... ...... .....T", 14, direction, NOTHING);
        }
    }

    static void promise14WrongWay() {
        wouldPush("...... ...... ..b... ...... ...... .....T", 14, 2, NOTHING);
        wouldPush("t..... ...... ..B... ...... ...... ......", 14, 0, NOTHING);
        wouldPush("...... ...... ..t... ...... ...... .....T", 14, 2, 0);
        wouldPush("t..... ...... ..T... ...... ...... ......", 14, 0, 0);
    }

    static void promise14BoardsEnd() {
        wouldPush(SMALL, 0, 2, NOTHING);
        wouldPush(SMALL, 0, 3, NOTHING);
        wouldPush(SMALL, 35, 0, NOTHING);
        wouldPush(SMALL, 35, 1, NOTHING);
        wouldPush(SMALL, 35, 2, 0);
        wouldPush(SMALL, 35, 3, 0);
    }

    static void promise14ClosedLock() {
        Supplier<BargeChess> closed = played("tBB2.. ...... ...2b. ...... ...... T....b", "35l;30d");
        check.asks("behind two", closed, x -> x.wouldPush(0, 1), NOTHING);
        check.asks("beside it", closed, x -> x.wouldPush(16, 3), NOTHING);
        check.asks("away from it", closed, x -> x.wouldPush(16, 1), 0);
        check.asks("the side 1's beside it", closed, x -> x.wouldPush(2, 1), NOTHING);
        check.asks("the side 1's away from it", closed, x -> x.wouldPush(2, 3), NOTHING);
        check.asks("an open one", () -> Check.begun("tBB2.. ...... ...2b. ...... ...... T....b"), x -> x.wouldPush(0, 1), 2);
    }

    static void promise14TooMany() {
        wouldPush("bBB... ...... ...... ...... ...... .....T", 0, 1, NOTHING);
        wouldPush("tBBB.. ...... ...... ...... ...... .....T", 0, 1, NOTHING);
        wouldPush("bB.B.. ...... ...... ...... ...... .....T", 0, 1, 1);
        wouldPush("tBB.B. ...... ...... ...... ...... .....T", 0, 1, 2);
    }

    // "Returns how many": those that go off the board, too

    static void promise14OffTheBoard() {
        wouldPush("....tB B..... ...... ...... ...... .....T", 4, 1, 1);
        wouldPush("...tBB B..... ...... ...... ...... .....T", 3, 1, 2);
        wouldPush("....bB B..... ...... ...... ...... .....T", 4, 1, 1);
        wouldPush("...bBB B..... ...... ...... ...... .....T", 3, 1, NOTHING);
    }

    // "whoever's turn it is, and whether the game goes on or not"

    static void promise14WhoeversTurnItIs() {
        wouldPush("t...bT ...... ...... ...... ...... ......", 5, 3, 1);
        wouldPush("t...bT ...... ...... ...... ...... ......", 4, 1, 1);
        check.asks("in the side 1's turn", played("t...bT ...... ...... ...... ...... ......", "0u"),
            x -> x.wouldPush(4, 1), 1);
    }

    static void promise14AheadOfTheGame() {
        check.asks("a tug", () -> Check.set("tBB... ...... ...... ...... ...... ......"), x -> x.wouldPush(0, 1), 2);
        check.asks("a barge of the side 1", () -> Check.set("tBB... ...... ...... ...... ...... ......"), x -> x.wouldPush(2, 3), NOTHING);
        check.asks("nobody", BargeChess::new, x -> x.wouldPush(0, 1), NOTHING);
    }

    static void promise14BehindTheEnd() {
        check.asks("behind a victory", played("Btb... ...... ...... ...... ...... ......", "1l"), x -> x.wouldPush(0, 1), 0);
        check.asks("one", played("Btbb.. ...... ...... ...... ...... ......", "1l"), x -> x.wouldPush(2, 1), 1);
        check.asks("behind a draw", played(SMALL, "0u;35d;6d;29u;0u;35d;6d;29u"), x -> x.wouldPush(35, 3), 0);
    }

    // firstTake: "the first move ... by which a piece of the other side would be pushed off the board"

    private static void take(String rows, int want) {
        check.asks("firstTake() of " + rows, () -> Check.begun(rows), BargeChess::firstTake, want);
    }

    static void promise15FirstOfMany() {
        take("...... .t.... ...... ....bB ....bB .....T", 4 * 22 + 1);
        take("...... ...... .B.... .t.... .....b ..bbbB", 4 * 29);
        take(".B..bB .t.... ...... ...... ...... .....T", 4 * 4 + 1);
    }

    static void promise15ByDirections() {
        take("...... ...... ...... ...... ....tB ....B.", 4 * 28);
        take("....B. ....tB ...... ...... ...... ......", 4 * 10 + 1);
        take("B..... t..... ...... ...... ...... ......", 4 * 6 + 2);
        take("Bt.... ...... ...... ...... ...... ......", 4 + 3);
    }

    static void promise15OwnPiecesAreNotTaken() {
        take("....tb ...... ...... ...... ...... .....T", NOTHING);
        take("...tBb ...... ...... ...... ...... .....T", NOTHING);
        take("...tbB ...... ...... ...... ...... .....T", 4 * 3 + 1);
    }

    static void promise15TugsAreTakenToo() {
        take("....tT ...... ...... ...... ...... .....T", 4 * 4 + 1);
        take("....bT ...... ...... ...... ...... .....T", 4 * 4 + 1);
        take("....tt ...... ...... ...... ...... .....T", NOTHING);
        take("...tTt ...... ...... ...... ...... .....T", NOTHING);
        String rows = "t..... ...... ...... ...... ...... ....Tt";
        check.asks("the side 1's", played(rows, "0u"), BargeChess::firstTake, 4 * 34 + 1);
        check.asks("not its own", played("t..... ...... ...... ...... ...... ....TT", "0u"), BargeChess::firstTake, NOTHING);
    }

    static void promise15WhatCannotBePushedIsNotTaken() {
        take("...bBB ...... ...... ...... ...... .....T", NOTHING);
        take("..tBBB ...... ...... ...... ...... .....T", NOTHING);
        take("...... ...... B..... b..... ...... .....T", NOTHING);
        take("B..... b..... ...... ...... ...... .....T", NOTHING);
        take("...bB. ...... ...... ...... ...... .....T", NOTHING);
        take("....b. B..... ...... ...... ...... .....T", NOTHING);
    }

    static void promise15OfTheSideWhoseTurnItIs() {
        String rows = "...... .....t ...... ...... .....B ....Tb";
        take(rows, NOTHING);
        check.asks("the side 1's", played(rows, "11d"), BargeChess::firstTake, 4 * 34 + 1);
    }

    // "Nothing is taken as long as the game has not begun, or when it is over."

    static void promise15NothingWithoutAGame() {
        check.asks("of nothing", BargeChess::new, BargeChess::firstTake, NOTHING);
        check.asks("ahead of the game", () -> Check.set("Bt.... ...... ...... ...... ...... ......"),
            BargeChess::firstTake, NOTHING);
        check.asks("behind the end", () -> {
            BargeChess x = Check.begun("....tB ...... ...... ...... ...... t....T");
            Check.play(x, "30d;35d;24u;29u;30d;35d;24u;29u");
            check.due("account(5)", x.account(5), 3);
            return x;
        }, BargeChess::firstTake, NOTHING);
    }

    // ways: "BAD if the number is out of range"; "1 or 2"

    static void promise16OutOfRange() {
        for (int many : new int[] {0, -1, 3, 4, Integer.MIN_VALUE, Integer.MAX_VALUE}) {
            check.asks("ways(" + many + ")", () -> Check.begun(SMALL), x -> x.ways(many), BAD);
            check.asks("ways(" + many + ") ahead of the game", BargeChess::new, x -> x.ways(many), BAD);
            check.asks("ways(" + many + ") behind the end", played(TAKEN, "1l"), x -> x.ways(many), BAD);
        }
    }

    // "as long as the game goes on"

    static void promise16NoneWithoutAGame() {
        for (int many = 1; many <= 2; many++) {
            int asked = many;
            check.asks("ways(" + many + ") of nothing", BargeChess::new, x -> x.ways(asked), 0);
            check.asks("ways(" + many + ") ahead of the game", () -> Check.set(SMALL), x -> x.ways(asked), 0);
            check.asks("ways(" + many + ") behind a victory", played(TAKEN, "1l"), x -> x.ways(asked), 0);
            check.asks("ways(" + many + ") behind a draw", played(SMALL, "0u;35d;6d;29u;0u;35d;6d;29u"), x -> x.ways(asked), 0);
        }
    }

    private static void ways(String rows, String moves, int one, int two) {
        Supplier<BargeChess> made = moves.isEmpty() ? () -> Check.begun(rows) : played(rows, moves);
        check.asks("ways(1) of " + rows + " " + moves, made, x -> x.ways(1), one);
        check.asks("ways(2) of " + rows + " " + moves, made, x -> x.ways(2), two);
    }

    static void promise16OneMoveAndTwo() {
        ways(SMALL, "", 2, 4);
        ways(SMALL, "0u", 2, 6);
        ways("b..... ...... ...... ...... ...... .....T", "", 2, 4);
    }

    // "the first one that ends the game leaves no second one": each way to end

    static void promise16FirstOneThatTakesTheLastPiece() {
        ways(TAKEN, "", 3, 2);
    }

    static void promise16FirstOneThatComesTheThirdTime() {
        ways(SMALL, "0u;35d;6d;29u;0u;35d;6d", 3, 2 * 2);
    }

    static void promise16FirstOneThatShutsIn() {
        ways("Bb.b.. ...... ...... ...... ...... ......", "", 6, 4);
    }

    static void promise16FirstOneThatIsTheLastTurn() {
        BargeChess x = Check.begun("t....T ...... ...... ...... ...... ......");
        Check.rounds(x, 0, 118);
        check.due("ways(2) in the turn 118", x.ways(2), 9);
        Check.rounds(x, 118, 119);
        check.due("ways(1) in the turn 119", x.ways(1), 3);
        check.due("ways(2) in the turn 119", x.ways(2), 0);
        Check.rounds(x, 119, 120);
        check.due("ways(1) in the turn 120", x.ways(1), 0);
        check.due("ways(2) in the turn 120", x.ways(2), 0);
    }

    // "Ways are counted move by move, with locks, tides and ends."

    static void promise16WithALockThatCloses() {
        // In the turn 2 the tug on 6 has up and down; right of it is a lock that closes in that turn, or does not.
        ways("t..... .2.... ...... ...... ...... .....T", "0u", 2, 2 * 2);
        ways("t..... .5.... ...... ...... ...... .....T", "0u", 2, 2 * 3);
    }

    static void promise16WithALockThatAMoveHoldsOpen() {
        // In the turn 2 the lock on 34 is closed unless the tug of the side 1 stands on it.
        ways("t..... ...... ...... ...... ....t. ....2T", "0u", 2, 3 + 4 + 3 + 3);
    }

    static void promise16WithATide() {
        // The tide carries the tug on 2 off the row 0, where it has no way down.
        ways("..t... ...... ...... ...... ...... .....T", "2l;35d;1r", 3, 3 * 4);
    }

    static void promise16WithABargeThatBecomesATug() {
        // Behind either move the side 1 has three; the tug's own ways are none of these two moves.
        ways("...... ...... ...... ...... b..... ....T.", "", 2, 2 * 3);
    }

    static void promise16TwoMovesAreOfTwoSides() {
        // Behind either move of the tug on 0: 30 right and down, 31 right, down and left.
        ways("t..... ...... ...... ...... ...... BT....", "", 2, 2 * 5);
    }

    static void promise16AskingAgainAnswersTheSame() {
        BargeChess x = Check.begun("tBb... 2.3... ..4... ...5.. .TB... .b...B");
        int ways = x.ways(2);
        String before = Check.all(x);
        for (int i = 0; i < 5; i++) {
            check.due("ways(2)", x.ways(2), ways);
        }
        check.due("all", Check.all(x), before);
    }

    // turnsIn: "NONE if there is no such lock"; "1 at least"

    static void promise17NoSuchLock() {
        for (int locks = 0; locks <= 4; locks++) {
            String rows = "2345".substring(0, locks) + "......".substring(locks) + "t..... ...... ...... ...... .....T";
            int asked = locks;
            check.asks("turnsIn(" + locks + ")", () -> Check.begun(rows), x -> x.turnsIn(asked), NONE);
            for (int lock : FAR) {
                check.asks("turnsIn(" + lock + ")", () -> Check.begun(rows), x -> x.turnsIn(lock), NONE);
            }
        }
    }

    static void promise17OneAtLeastAndThePeriodAtMost() {
        BargeChess x = Check.begun("t....T ...... ..23.. ..45.. ...... ......");
        for (int turn = 0; turn < 61; turn++) {
            for (int lock = 0; lock < 4; lock++) {
                int period = lock + 2;
                int want = period * (turn / period + 1) - turn;
                check.due("turnsIn(" + lock + ") in the turn " + turn, x.turnsIn(lock), want);
            }
            Check.rounds(x, turn, turn + 1);
        }
    }

    static void promise17AheadOfTheGameAndBehindIt() {
        BargeChess x = Check.set("Bt.... ...... 2345.. ...... ...... ......");
        for (int lock = 0; lock < 4; lock++) {
            check.due("turnsIn(" + lock + ") ahead of the game", x.turnsIn(lock), lock + 2);
        }
        x.begin();
        x.move(1, 3);
        for (int lock = 0; lock < 4; lock++) {
            check.due("turnsIn(" + lock + ") behind the end", x.turnsIn(lock), lock + 1);
        }
    }

    // "if no piece stands on it then"

    static void promise17UnderAPiece() {
        BargeChess x = Check.begun("t2.... ...... ...... ...... ...... .....T");
        x.move(0, 1);
        check.due("turnsIn(0) under a piece", x.turnsIn(0), 1);
        x.move(35, 2);
        check.due("turnsIn(0) as it did not turn", x.turnsIn(0), 2);
    }

    static void promise17ClosedOrOpen() {
        BargeChess x = Check.begun("t....T ...... ..3... ...... ...... ......");
        int[] want = {3, 2, 1, 3, 2, 1, 3};
        for (int turn = 0; turn < want.length; turn++) {
            check.due("turnsIn(0) in the turn " + turn, x.turnsIn(0), want[turn]);
            Check.rounds(x, turn, turn + 1);
        }
    }

    // tideIn: "NONE if there is no such tide"; "1 at least"

    static void promise18NoSuchTide() {
        for (int tide : FAR) {
            check.asks("tideIn(" + tide + ")", () -> Check.begun(SMALL), x -> x.tideIn(tide), NONE);
        }
        check.asks("tideIn(4)", () -> Check.begun(SMALL), x -> x.tideIn(4), NONE);
        check.asks("tideIn(5)", BargeChess::new, x -> x.tideIn(5), NONE);
    }

    static void promise18OneAtLeastAndSixteenAtMost() {
        BargeChess x = Check.begun("t....T ...... ...... ...... ...... ......");
        for (int turn = 0; turn < 40; turn++) {
            for (int tide = 0; tide < 4; tide++) {
                int want = 4 * tide - turn;
                while (want < 1) {
                    want += 16;
                }
                check.due("tideIn(" + tide + ") in the turn " + turn, x.tideIn(tide), want);
            }
            Check.rounds(x, turn, turn + 1);
        }
    }

    static void promise18TheTideOfNowIsSixteenTurnsAwayAtFirst() {
        BargeChess x = Check.begun("t....T ...... ...... ...... ...... ......");
        for (int hour = 0; hour < 5; hour++) {
            check.due("tideIn of the tide of now", x.tideIn(hour % 4), 16);
            check.due("tideIn of the next one", x.tideIn((hour + 1) % 4), 4);
            Check.rounds(x, 4 * hour, 4 * hour + 3);
            check.due("tideIn of the next one, a turn ahead", x.tideIn((hour + 1) % 4), 1);
            check.due("tideIn of the tide of now, a turn ahead", x.tideIn(hour % 4), 13);
            Check.rounds(x, 4 * hour + 3, 4 * hour + 4);
        }
    }

    static void promise18AheadOfTheGameAndBehindIt() {
        BargeChess x = Check.set(TAKEN);
        for (int tide = 0; tide < 4; tide++) {
            check.due("tideIn(" + tide + ") ahead of the game", x.tideIn(tide), tide == 0 ? 16 : 4 * tide);
        }
        x.begin();
        x.move(1, 3);
        for (int tide = 0; tide < 4; tide++) {
            check.due("tideIn(" + tide + ") behind the end", x.tideIn(tide), tide == 0 ? 15 : 4 * tide - 1);
        }
    }
}
