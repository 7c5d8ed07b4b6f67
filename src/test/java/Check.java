import java.util.ArrayList;
import java.util.List;

/** Compares answers with those that are due, and helps to write games down. */
final class Check {
    private final List<String> faults = new ArrayList<>();
    private int looked;

    void due(String call, long got, long want) {
        looked++;
        if (got != want) {
            faults.add(call + " answered " + got + ", due is " + want);
        }
    }

    void due(String what, String got, String want) {
        looked++;
        if (!got.equals(want)) {
            faults.add(what + " is " + got + ", due is " + want);
        }
    }

    /** Looks at what refusal tells: reason, detail, number of the move, cause, its detail. */
    void refused(String call, BargeChess x, int reason, int detail, int number, int cause, int causeDetail) {
        int[] want = {reason, detail, number, cause, causeDetail};
        for (int what = 0; what < want.length; what++) {
            due("refusal(" + what + ") behind " + call, x.refusal(what), want[what]);
        }
    }

    /** The same for what has no cause and stands in no text. */
    void refused(String call, BargeChess x, int reason, int detail) {
        refused(call, x, reason, detail, BargeChess.NOTHING, BargeChess.NOTHING, BargeChess.NOTHING);
    }

    void end(String name) {
        for (String fault : faults) {
            System.out.println(name + ": " + fault);
        }
        System.out.println(name + ": " + looked + " answers, " + faults.size() + " wrong");
        if (!faults.isEmpty() || looked == 0) {
            System.exit(1);
        }
    }

    static int type(BargeChess x, String text) {
        int length = 0;
        for (int i = 0; i < text.length(); i++) {
            length = x.append(text.charAt(i));
        }
        return length;
    }

    static int read(BargeChess x, String text) {
        type(x, text);
        return x.read();
    }

    /** Makes the moves of a text by move, and answers what the last one did. */
    static int play(BargeChess x, String moves) {
        int answer = 0;
        for (String move : moves.split(";")) {
            int last = move.length() - 1;
            answer = x.move(Integer.parseInt(move.substring(0, last)), "urdl".indexOf(move.charAt(last)));
        }
        return answer;
    }

    static String row(BargeChess x, int row) {
        StringBuilder signs = new StringBuilder();
        int length = x.describe(row);
        for (int i = 0; i < length; i++) {
            signs.append((char) x.sign(i));
        }
        return signs.toString();
    }

    /** The rows from 0 on. */
    static String board(BargeChess x) {
        StringBuilder rows = new StringBuilder();
        for (int row = 0; row < 6; row++) {
            rows.append(row == 0 ? "" : " ").append(row(x, row));
        }
        return rows.toString();
    }

    /** Puts pieces and builds locks: rows from 0 on, with b, t, B, T and 2 to 5 for a lock of this period. */
    static BargeChess set(String rows) {
        BargeChess x = new BargeChess();
        String squares = rows.replace(" ", "");
        for (int square = 0; square < squares.length(); square++) {
            char sign = squares.charAt(square);
            int piece = "btBT".indexOf(sign);
            if (piece >= 0) {
                x.put(piece / 2, piece % 2, square);
            } else if (sign >= '2' && sign <= '5') {
                x.lock(square, sign - '0');
            }
        }
        return x;
    }

    static BargeChess begun(String rows) {
        BargeChess x = set(rows);
        x.begin();
        return x;
    }

    /** All that changes can change, in 84 calls, as one text: to see that nothing changed. */
    static String all(BargeChess x) {
        StringBuilder all = new StringBuilder();
        for (int what = 0; what < 17; what++) {
            all.append(x.account(what)).append(what == 14 || what == 16 ? ";" : ",");
        }
        for (int square = 0; square < 36; square++) {
            all.append(x.squareOf(square, 0)).append(',');
        }
        for (int lock = 0; lock < 4; lock++) {
            for (int what = 0; what < 4; what++) {
                all.append(x.lockOf(lock, what)).append(',');
            }
        }
        for (int what = 0; what < 6; what++) {
            all.append(x.sideOf(0, what)).append(',').append(x.sideOf(1, what)).append(',');
        }
        all.append(x.repeats()).append(',').append(x.mostRepeats()).append(',').append(x.moves());
        return all.toString();
    }
}
