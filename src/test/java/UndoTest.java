/** Promises 26 to 28: undo, save, restore. */
public final class UndoTest {
    private static final Check check = new Check();
    private static final int NO = BargeChess.NOTHING;

    public static void main(String[] args) {
        promise26EveryChange();
        promise26EightAtMost();
        promise26WhatIsNoChange();
        promise26TidesLocksAndEnds();
        promise26ManyTimesRoundTheRing();
        promise27Save();
        promise28Restore();
        promise28RestoreAheadOfTheGame();
        promise28TextLineAndReasonsStay();
        check.end("UndoTest");
    }

    /** All but the text's length and the changes that can be undone. */
    private static String board(BargeChess x) {
        String all = Check.all(x);
        return all.substring(0, all.indexOf(';') + 1) + all.substring(all.lastIndexOf(';'));
    }

    /** A new object with so many changes of every kind. */
    private static BargeChess changed(int changes) {
        BargeChess x = new BargeChess();
        int[] answers = {
            changes > 0 ? x.put(0, 1, 0) : 1,
            changes > 1 ? x.put(1, 1, 35) : 1,
            changes > 2 ? x.lock(20, 2) : 0,
            changes > 3 ? x.begin() : 2,
            changes > 4 ? x.move(0, 0) : 1,
            changes > 5 ? Check.read(x, "35l;6r;34l;7r") : 4
        };
        int[] want = {1, 1, 0, 2, 1, 4};
        for (int i = 0; i < answers.length; i++) {
            check.due("the change " + i, answers[i], want[i]);
        }
        return x;
    }

    private static void promise26EveryChange() {
        BargeChess x = new BargeChess();
        check.due("undo()", x.undo(), NO);
        for (int changes = 1; changes <= 6; changes++) {
            for (int undone = 1; undone <= changes; undone++) {
                x = changed(changes);
                for (int i = 1; i <= undone; i++) {
                    check.due("undo()", x.undo(), changes - i);
                }
                check.due("all", Check.all(x), Check.all(changed(changes - undone)));
            }
            x = changed(changes);
            for (int i = 0; i < changes; i++) {
                x.undo();
            }
            check.due("undo() of none", x.undo(), NO);
        }
    }

    private static void promise26EightAtMost() {
        BargeChess x = new BargeChess();
        for (int square = 0; square < 8; square++) {
            x.put(0, 0, square);
            check.due("account(16)", x.account(16), square + 1);
        }
        x.put(1, 0, 8);
        check.due("account(16)", x.account(16), 8);
        x.put(1, 0, 9);
        for (int left = 7; left >= 0; left--) {
            check.due("undo()", x.undo(), left);
        }
        check.due("undo()", x.undo(), NO);
        check.due("board", Check.board(x), "bb.... ...... ...... ...... ...... ......");
        x.put(1, 1, 2);
        check.due("account(16)", x.account(16), 1);
        check.due("undo()", x.undo(), 0);
        check.due("board", Check.board(x), "bb.... ...... ...... ...... ...... ......");
    }

    private static void promise26WhatIsNoChange() {
        BargeChess x = new BargeChess();
        x.put(0, 1, 0);
        x.put(0, 1, 0);
        x.put(0, 1, 36);
        x.put(2, 1, 1);
        x.lock(0, 2);
        x.lock(1, 1);
        x.begin();
        x.move(0, 0);
        Check.read(x, "0u");
        Check.read(x, "0");
        Check.read(x, "40u");
        x.save();
        x.describe(0);
        x.append('0');
        x.restore();
        check.due("restore forgets the changes", x.account(16), 0);
        x.put(1, 1, 35);
        x.begin();
        x.save();
        x.undo();
        x.moves();
        x.ways(2);
        x.wouldPush(0, 0);
        x.undo();
        check.due("account(16)", x.account(16), 0);
        check.due("board", Check.board(x), "t..... ...... ...... ...... ...... ......");
    }

    private static void promise26TidesLocksAndEnds() {
        BargeChess x = Check.begun("t..... ..b... ...... ..3... ...... ....BT");
        check.due("to turn 3", Check.play(x, "0u;34l;6d"), 1);
        String before = board(x);
        String rows = Check.board(x);
        check.due("the tide, blocked by nothing", x.move(33, 3), 1);
        check.due("board", Check.board(x), "t..... ...... ..b... ..#... ...... ..B..T");
        check.due("undo()", x.undo(), 7);
        check.due("all", board(x), before);
        check.due("board", Check.board(x), rows);
        check.due("account(12)", x.account(12), 0);
        x.undo();
        check.due("the lock is open again", x.lockOf(0, 2), 0);
        check.due("it did not turn", x.account(13), 0);
        x = Check.begun("...... B..... ...... ...... .b.... .B...T");
        check.due("two become tugs", Check.play(x, "25u;6d"), 1);
        check.due("account(11)", x.account(11), 2);
        check.due("account(10)", x.account(10), 1);
        check.due("undo()", x.undo(), 6);
        check.due("account(11)", x.account(11), 1);
        check.due("undo()", x.undo(), 5);
        check.due("account(11)", x.account(11), 0);
        check.due("account(10)", x.account(10), 0);
        check.due("account(9)", x.account(9), 0);
        check.due("sideOf(0, 5)", x.sideOf(0, 5), 0);
        check.due("sideOf(1, 5)", x.sideOf(1, 5), 0);
        check.due("sideOf(0, 4)", x.sideOf(0, 4), 0);
        check.due("sideOf(1, 3)", x.sideOf(1, 3), 0);
        x = Check.begun("Bt.... ...... ...... ...... ...... ......");
        before = board(x);
        check.due("an end", x.move(1, 3), 0);
        check.due("undo()", x.undo(), 3);
        check.due("all", board(x), before);
        check.due("account(5)", x.account(5), 0);
        check.due("the game goes on", x.move(1, 0), 1);
    }

    private static void promise26ManyTimesRoundTheRing() {
        BargeChess x = Check.begun("t..... ...... ...... ...... ...... .....T");
        for (int round = 0; round < 4; round++) {
            String before = Check.board(x);
            String[] moves = {"0u", "35d", "6u", "29d", "12d", "23u", "6d", "29u"};
            for (String move : moves) {
                Check.play(x, move);
            }
            check.due("account(16)", x.account(16), 8);
            check.due("repeats()", x.repeats(), 2);
            for (int left = 7; left >= 0; left--) {
                check.due("undo()", x.undo(), left);
            }
            check.due("board", Check.board(x), before);
            check.due("repeats()", x.repeats(), 1);
            check.due("account(0)", x.account(0), 0);
        }
    }

    private static void promise27Save() {
        BargeChess x = Check.begun("t..... ...... ...... ...... ...... .....T");
        check.due("save()", x.save(), 0);
        check.due("account(16)", x.account(16), 3);
        Check.play(x, "0u;35d");
        check.due("save() in place of it", x.save(), 2);
        check.due("account(16)", x.account(16), 5);
        Check.play(x, "6u");
        check.due("restore()", x.restore(), 2);
        check.due("board", Check.board(x), "...... t..... ...... ...... .....T ......");
        x = new BargeChess();
        check.due("save() of nothing", x.save(), 0);
        x.put(0, 0, 0);
        check.due("undo() leaves the snapshot", x.undo(), 0);
        x.put(0, 0, 1);
        check.due("restore()", x.restore(), 0);
        check.due("account(6)", x.account(6), 0);
    }

    private static void promise28Restore() {
        BargeChess x = Check.begun("t..... ..b... ...... ...2.. ...... .b...T");
        check.due("restore() without a snapshot", x.restore(), NO);
        check.due("account(16)", x.account(16), 6);
        check.due("to turn 4", Check.play(x, "31r;35l;32l;34r"), 1);
        check.due("save()", x.save(), 4);
        String saved = board(x);
        String rows = Check.board(x);
        check.due("another position", Check.play(x, "0r;35l;1l;34r"), 2);
        check.due("mostRepeats()", x.mostRepeats(), 2);
        for (int time = 0; time < 2; time++) {
            check.due("restore()", x.restore(), 4);
            check.due("all", board(x), saved);
            check.due("board", Check.board(x), rows);
            check.due("account(16)", x.account(16), 0);
            check.due("undo()", x.undo(), NO);
            check.due("repeats()", x.repeats(), 1);
            check.due("on from there", Check.play(x, "0r;35l;1l;34r"), 2);
            check.due("account(16)", x.account(16), 4);
            check.due("undo()", x.undo(), 3);
        }
    }

    private static void promise28RestoreAheadOfTheGame() {
        BargeChess x = Check.set("Bt.... ...... ...... 2..... ...... ......");
        x.save();
        x.begin();
        check.due("an end", x.move(1, 3), 0);
        check.due("restore()", x.restore(), 0);
        check.due("account(4)", x.account(4), 0);
        check.due("account(5)", x.account(5), 0);
        check.due("account(14)", x.account(14), 0);
        check.due("repeats()", x.repeats(), 0);
        check.due("put", x.put(0, 0, 30), 2);
        check.due("begin", x.begin(), 4);
        check.due("save()", x.save(), 0);
        check.due("an end", x.move(1, 3), 0);
        check.due("save() behind the end", x.save(), 1);
        check.due("restore()", x.restore(), 1);
        check.due("account(5)", x.account(5), 1);
        check.due("sideOf(1, 3)", x.sideOf(1, 3), 1);
    }

    private static void promise28TextLineAndReasonsStay() {
        BargeChess x = Check.begun("t..... ...... ...... ...... ...... .....T");
        x.save();
        x.move(0, 0);
        Check.type(x, "35");
        x.describe(1);
        x.move(0, 0);
        check.due("restore()", x.restore(), 0);
        check.due("account(15)", x.account(15), 2);
        check.due("sign(0)", x.sign(0), 't');
        check.refused("restore()", x, 8, 1);
        x.move(0, 0);
        check.due("undo()", x.undo(), 0);
        check.due("account(15)", x.account(15), 2);
        check.due("sign(0)", x.sign(0), 't');
        check.refused("undo()", x, 8, 1);
        x.move(0, 0);
        check.due("the text goes on", Check.read(x, "d"), 1);
    }
}
