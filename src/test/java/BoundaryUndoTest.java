import java.util.function.Consumer;

/** The boundary cases of the promises 26 to 28, a method for each sentence of the document. */
public final class BoundaryUndoTest {
    private static final Check check = new Check();
    private static final int BAD = BargeChess.BAD;
    private static final int REFUSED = BargeChess.REFUSED;
    private static final int NOTHING = BargeChess.NOTHING;
    private static final String SMALL = "t..... ...... ...... ...... ...... .....T";
    private static final String TAKEN = "Bt.... ...... ...... ...... ...... ......";

    /** Nine squares on which the side 0's tug goes, and nine of the side 1's. */
    private static final int[] WAYS = {0, 6, 12, 18, 24, 30, 31, 25, 19, 5, 11, 17, 23, 29, 28, 22, 16, 10};

    public static void main(String[] args) throws ReflectiveOperationException {
        check.promises(BoundaryUndoTest.class);
        check.end("BoundaryUndoTest");
    }

    /** All that changes can change, without the changes that can be undone. */
    private static String state(BargeChess x) {
        String all = Check.all(x);
        return all.replaceFirst(";[^;]*;", ";") + Check.board(x);
    }

    // undo: "NOTHING if there is none"

    static void promise26NothingToUndo() {
        check.error("undo() of nothing", BargeChess::new, BargeChess::undo, NOTHING);
        check.error("undo() behind restore", () -> {
            BargeChess x = Check.begun(SMALL);
            x.save();
            x.restore();
            return x;
        }, BargeChess::undo, NOTHING);
        check.error("undo() of all", () -> {
            BargeChess x = Check.begun(SMALL);
            check.due("undo()", x.undo(), 2);
            check.due("undo()", x.undo(), 1);
            check.due("undo()", x.undo(), 0);
            return x;
        }, BargeChess::undo, NOTHING);
    }

    // "At most 8 of them can be undone, the latest first."

    static void promise26EightAtMost() {
        for (int changes = 1; changes <= 20; changes++) {
            BargeChess x = Check.set("b.....");
            x.undo();
            for (int i = 0; i < changes; i++) {
                change(x, i);
            }
            int left = Math.min(changes, 8);
            check.due("account(16) of " + changes, x.account(16), left);
            while (left > 0) {
                left--;
                check.due("undo() of " + changes, x.undo(), left);
            }
            check.due("undo() of none", x.undo(), NOTHING);
            BargeChess y = Check.set("b.....");
            y.undo();
            for (int i = 0; i < changes - 8; i++) {
                change(y, i);
            }
            check.due("what is left of " + changes, state(x), state(y));
        }
    }

    /** The changes of a game: 2 pieces, 2 locks, begin, and moves. */
    private static void change(BargeChess x, int number) {
        int answer;
        if (number < 2) {
            answer = x.put(number, 1, 5 * number);
        } else if (number < 4) {
            answer = x.lock(12 + number, number);
        } else if (number == 4) {
            answer = x.begin();
        } else {
            int from = (number % 2 == 1 ? 0 : 9) + (number - 5) / 2;
            answer = Check.step(x, WAYS[from], WAYS[from + 1]);
        }
        check.due("the change " + number, answer >= 0 ? 1 : 0, 1);
    }

    private static String brief(BargeChess x) {
        StringBuilder brief = new StringBuilder().append(x.account(0)).append(',').append(x.account(4)).append(',')
            .append(x.account(6)).append(',').append(x.account(7)).append(',').append(x.account(14));
        for (int square : WAYS) {
            brief.append(',').append(x.squareOf(square, 0));
        }
        return brief.toString();
    }

    static void promise26TheLatestFirst() {
        for (int last = 3; last <= 16; last++) {
            BargeChess x = new BargeChess();
            String[] before = new String[last];
            for (int number = 0; number < last; number++) {
                before[number] = number < last - 8 ? "" : brief(x);
                change(x, number);
            }
            for (int number = last - 1; number >= 0 && number >= last - 8; number--) {
                x.undo();
                check.due("ahead of the change " + number, brief(x), before[number]);
            }
        }
    }

    static void promise26OtherChangesBehindUndo() {
        BargeChess x = new BargeChess();
        for (int number = 0; number < 10; number++) {
            change(x, number);
        }
        for (int i = 0; i < 5; i++) {
            x.undo();
        }
        check.due("account(16)", x.account(16), 3);
        for (int number = 5; number < 12; number++) {
            change(x, number);
        }
        check.due("account(16)", x.account(16), 8);
        for (int left = 7; left >= 0; left--) {
            check.due("undo()", x.undo(), left);
        }
        check.due("undo()", x.undo(), NOTHING);
        check.due("account(7)", x.account(7), 2);
        check.due("account(4)", x.account(4), 0);
    }

    // "The changes are the successful calls of put, lock, begin, move and read.": one by one

    private static void isOneChange(String what, BargeChess x, Consumer<BargeChess> change) {
        String before = state(x);
        int changes = Math.min(8, x.account(16) + 1);
        change.accept(x);
        check.due("account(16) behind " + what, x.account(16), changes);
        check.due("undo() of " + what, x.undo(), changes - 1);
        check.due("the state behind undo of " + what, state(x), before);
    }

    static void promise26Put() {
        isOneChange("put", Check.set("b....."), x -> check.due("put", x.put(1, 1, 35), 1));
    }

    static void promise26Lock() {
        isOneChange("lock", Check.set("b....."), x -> check.due("lock", x.lock(35, 5), 0));
    }

    static void promise26Begin() {
        isOneChange("begin", Check.set(SMALL), x -> check.due("begin", x.begin(), 2));
        isOneChange("begin that ends", Check.set("...... ...... ...... ...... ...... bBB..."),
            x -> check.due("begin", x.begin(), 0));
    }

    static void promise26Move() {
        isOneChange("move", Check.begun(SMALL), x -> check.due("move", x.move(0, 0), 1));
    }

    static void promise26Read() {
        isOneChange("read", Check.begun(SMALL), x -> check.due("read", Check.read(x, "0u;35d;6r;29l"), 4));
    }

    static void promise26MoveThatPushesOff() {
        isOneChange("move", Check.begun("...tbB ...... ...... ...... ...... .....T"),
            x -> check.due("move", x.move(3, 1), 1));
    }

    static void promise26MoveThatBecomesATug() {
        isOneChange("move", Check.begun("...... ...... ...... ...... b..... .....T"),
            x -> check.due("move", x.move(24, 0), 1));
    }

    static void promise26MoveThatTurnsLocksAndTide() {
        BargeChess x = Check.begun("t....T ...... .23... .bB... .T.... ......");
        Check.play(x, "0u;5u;6d");
        isOneChange("move", x, y -> check.due("move", y.move(11, 2), 1));
        check.due("account(12)", x.account(12), 0);
        check.due("account(13)", x.account(13), 2);
    }

    static void promise26MoveThatEndsTheGame() {
        isOneChange("the last piece", Check.begun(TAKEN), x -> check.due("move", x.move(1, 3), 0));
        isOneChange("no move", Check.begun("Bb.b.. ...... ...... ...... ...... ......"),
            x -> check.due("move", x.move(3, 3), 0));
        BargeChess x = Check.begun(SMALL);
        Check.play(x, "0u;35d;6d;29u;0u;35d;6d");
        isOneChange("the third time", x, y -> check.due("move", y.move(29, 0), 3));
        x = Check.begun("t....T ...... ...... ...... ...... ......");
        Check.rounds(x, 0, 119);
        isOneChange("the turn 120", x, y -> check.due("move", y.move(4, 1), 0));
        check.due("the game goes on", x.moves(), 3);
    }

    static void promise26WhatIsNoChange() {
        BargeChess x = Check.begun(SMALL);
        int changes = x.account(16);
        x.put(0, 0, 1);
        x.put(0, 0, 36);
        x.put(2, 0, 1);
        x.lock(1, 2);
        x.lock(1, 1);
        x.lock(36, 2);
        x.begin();
        x.move(0, 2);
        x.move(36, 0);
        x.move(0, 4);
        x.move(35, 3);
        Check.read(x, "0u;0u");
        Check.read(x, "0u;");
        Check.read(x, "36u");
        x.describe(0);
        x.append('0');
        x.save();
        check.due("account(16)", x.account(16), changes);
        check.due("undo()", x.undo(), changes - 1);
        check.due("account(4): begin is undone", x.account(4), 0);
    }

    static void promise26UndoIsNoChange() {
        BargeChess x = Check.set("bb....");
        check.due("undo()", x.undo(), 1);
        check.due("undo()", x.undo(), 0);
        check.due("undo()", x.undo(), NOTHING);
        check.due("account(6)", x.account(6), 0);
    }

    // "The text, the line and the reasons are in neither undo nor snapshot, and stay."

    static void promise26TextLineAndReasonsStay() {
        BargeChess x = Check.begun(SMALL);
        x.move(0, 0);
        Check.type(x, "35");
        x.describe(1);
        x.move(0, 1);
        x.undo();
        check.due("account(15)", x.account(15), 2);
        check.due("sign(0)", x.sign(0), 't');
        check.refused("undo", x, 8, 1);
        x.move(0, 0);
        check.due("the text goes on", Check.read(x, "d"), 1);
    }

    static void promise26ATextThatWasReadDoesNotComeBack() {
        BargeChess x = Check.begun(SMALL);
        Check.read(x, "0u");
        x.undo();
        check.due("account(15)", x.account(15), 0);
        check.due("read()", x.read(), -100);
    }

    // save: "Returns the number of the turn."

    static void promise27TheNumberOfTheTurn() {
        check.due("save() of nothing", new BargeChess().save(), 0);
        check.due("save() ahead of the game", Check.set(SMALL).save(), 0);
        BargeChess x = Check.begun("t....T ...... ...... ...... ...... ......");
        for (int turn = 0; turn <= 120; turn++) {
            check.due("save() in the turn " + turn, x.save(), turn);
            Check.rounds(x, turn, Math.min(turn + 1, 120));
        }
        check.due("account(5)", x.account(5), 3);
    }

    // "Saves a snapshot, in place of an earlier one."

    static void promise27InPlaceOfAnEarlierOne() {
        BargeChess x = Check.begun(SMALL);
        x.save();
        Check.play(x, "0u;35d;6u");
        check.due("save()", x.save(), 3);
        String saved = state(x);
        x.move(29, 2);
        check.due("restore()", x.restore(), 3);
        check.due("the state", state(x), saved);
    }

    static void promise27SavingChangesNothing() {
        check.error("save()", () -> {
            BargeChess x = Check.begun(SMALL);
            Check.play(x, "0u;35d");
            x.move(0, 0);
            return x;
        }, BargeChess::save, 2);
    }

    static void promise27UndoLeavesTheSnapshot() {
        BargeChess x = Check.begun(SMALL);
        x.move(0, 0);
        String saved = state(x);
        x.save();
        for (int i = 0; i < 4; i++) {
            x.undo();
        }
        check.due("undo()", x.undo(), NOTHING);
        check.due("account(6)", x.account(6), 0);
        check.due("restore()", x.restore(), 1);
        check.due("the state", state(x), saved);
    }

    // restore: "NOTHING if there is no snapshot"

    static void promise28NoSnapshot() {
        check.error("restore() of nothing", BargeChess::new, BargeChess::restore, NOTHING);
        check.error("restore() in the game", () -> Check.begun(SMALL), BargeChess::restore, NOTHING);
        BargeChess x = Check.begun(SMALL);
        int changes = x.account(16);
        x.restore();
        check.due("undo() is as it was", x.undo(), changes - 1);
    }

    // "Restores the snapshot, which stays. Nothing can be undone then."

    static void promise28WhichStays() {
        BargeChess x = Check.begun(SMALL);
        Check.play(x, "0u;35d");
        x.save();
        for (int time = 0; time < 3; time++) {
            Check.play(x, "6u;29d");
            check.due("account(0)", x.account(0), 4);
            check.due("restore()", x.restore(), 2);
            check.due("account(0)", x.account(0), 2);
            check.due("squareOf(6, 0)", x.squareOf(6, 0), 1);
            check.due("squareOf(29, 0)", x.squareOf(29, 0), 3);
        }
        check.due("restore() at once", x.restore(), 2);
    }

    static void promise28NothingCanBeUndoneThen() {
        BargeChess x = Check.begun(SMALL);
        Check.play(x, "0u;35d");
        x.save();
        check.due("restore()", x.restore(), 2);
        check.due("account(16)", x.account(16), 0);
        check.due("undo()", x.undo(), NOTHING);
        x.move(6, 0);
        check.due("account(16)", x.account(16), 1);
        check.due("undo()", x.undo(), 0);
        check.due("undo()", x.undo(), NOTHING);
        check.due("account(0)", x.account(0), 2);
    }

    static void promise28EightAgain() {
        BargeChess x = Check.begun("t....T ...... ...... ...... ...... ......");
        Check.rounds(x, 0, 6);
        x.save();
        Check.rounds(x, 6, 11);
        x.restore();
        Check.rounds(x, 6, 18);
        check.due("account(16)", x.account(16), 8);
        for (int left = 7; left >= 0; left--) {
            check.due("undo()", x.undo(), left);
        }
        check.due("account(0)", x.account(0), 10);
        check.due("undo()", x.undo(), NOTHING);
    }

    // "The snapshot contains what changes can change."

    static void promise28AllThatChangesCanChange() {
        BargeChess x = Check.begun("t....T ...... .23... .bB... .b.... .b....");
        Check.play(x, "25u;5u;0u;11d;6d;5u;31r;11d");
        x.save();
        String saved = state(x);
        Check.play(x, "0u;5u;6d;11d");
        check.due("another state", state(x).equals(saved) ? 1 : 0, 0);
        check.due("restore()", x.restore(), 8);
        check.due("the state", state(x), saved);
    }

    static void promise28Positions() {
        BargeChess x = Check.begun(SMALL);
        Check.play(x, "0u;35d;6d;29u");
        x.save();
        Check.play(x, "0u;35d;6d;29u");
        check.due("account(5)", x.account(5), 3);
        x.restore();
        check.due("account(5)", x.account(5), 0);
        check.due("repeats()", x.repeats(), 2);
        check.due("mostRepeats()", x.mostRepeats(), 2);
        check.due("account(14)", x.account(14), 4);
        check.due("the third time again", Check.play(x, "0u;35d;6d;29u"), 3);
    }

    static void promise28AheadOfTheGame() {
        BargeChess x = Check.set(SMALL);
        x.save();
        x.begin();
        x.move(0, 0);
        check.due("restore()", x.restore(), 0);
        check.due("account(4)", x.account(4), 0);
        check.due("move()", x.move(0, 0), REFUSED);
        check.refused("move()", x, 3, 0);
        check.due("repeats()", x.repeats(), 0);
        check.due("lock()", x.lock(6, 2), 0);
        check.due("put()", x.put(0, 0, 1), 2);
        check.due("begin()", x.begin(), 2 + 3);
    }

    static void promise28BehindTheEnd() {
        BargeChess x = Check.begun(TAKEN);
        x.move(1, 3);
        x.save();
        x.undo();
        check.due("account(5)", x.account(5), 0);
        check.due("restore()", x.restore(), 1);
        check.due("account(5)", x.account(5), 1);
        check.due("move()", x.move(0, 0), REFUSED);
        check.refused("move()", x, 4, 1);
    }

    static void promise28EmptyBoard() {
        BargeChess x = new BargeChess();
        x.save();
        for (int number = 0; number < 10; number++) {
            change(x, number);
        }
        check.due("restore()", x.restore(), 0);
        check.due("the state", state(x), state(new BargeChess()));
        for (int number = 0; number < 5; number++) {
            change(x, number);
        }
        check.due("account(16)", x.account(16), 5);
    }

    static void promise28TextLineAndReasonsStay() {
        BargeChess x = Check.begun(SMALL);
        Check.type(x, "xy");
        x.describe(5);
        x.move(0, 3);
        x.save();
        x.read();
        Check.type(x, "0u;3");
        x.describe(0);
        x.move(35, 3);
        x.restore();
        check.due("account(15)", x.account(15), 4);
        check.due("sign(0)", x.sign(0), 't');
        check.refused("restore", x, 8, 0);
        check.due("the text goes on", Check.read(x, "5d"), 2);
        check.due("append(31)", x.append(31), BAD);
    }
}
