import java.lang.reflect.Method;
import java.util.ArrayList;
import java.util.List;
import java.util.function.Supplier;
import java.util.function.ToIntFunction;

/** Compares answers with those that are due, and helps to write games down. */
final class Check {
    private final List<String> faults = new ArrayList<>();
    private int looked;

    void due(String call, long got, long want) {
        looked++;
        if (got != want) {
            faults.add(call + " answered " + got + ", due is " + want);
        }
    }

    void due(String what, String got, String want) {
        looked++;
        if (!got.equals(want)) {
            faults.add(what + " is " + got + ", due is " + want);
        }
    }

    /** Looks at what refusal tells: reason, detail, number of the move, cause, its detail. */
    void refused(String call, BargeChess x, int reason, int detail, int number, int cause, int causeDetail) {
        int[] want = {reason, detail, number, cause, causeDetail};
        for (int what = 0; what < want.length; what++) {
            due("refusal(" + what + ") behind " + call, x.refusal(what), want[what]);
        }
    }

    /** The same for what has no cause and stands in no text. */
    void refused(String call, BargeChess x, int reason, int detail) {
        refused(call, x, reason, detail, BargeChess.NOTHING, BargeChess.NOTHING, BargeChess.NOTHING);
    }

    /** Makes a call that is due to answer an error code, and looks whether all stays, and the reasons. */
    void error(String call, Supplier<BargeChess> made, ToIntFunction<BargeChess> run, int want) {
        BargeChess x = made.get();
        String before = all(x) + reasons(x);
        due(call, run.applyAsInt(x), want);
        due("all behind " + call, all(x) + reasons(x), before);
    }

    /** Makes a call that is due to be refused, and looks whether all else stays. */
    void refuses(String call, Supplier<BargeChess> made, ToIntFunction<BargeChess> run, int... want) {
        BargeChess x = made.get();
        String before = all(x);
        due(call, run.applyAsInt(x), BargeChess.REFUSED);
        for (int what = 0; what < 5; what++) {
            int told = what < want.length ? want[what] : BargeChess.NOTHING;
            due("refusal(" + what + ") behind " + call, x.refusal(what), told);
        }
        due("all behind " + call, all(x), before);
    }

    /** Makes a call that only asks, and looks whether all stays, and the reasons. */
    void asks(String call, Supplier<BargeChess> made, ToIntFunction<BargeChess> run, int want) {
        error(call, made, run, want);
    }

    /** Runs every method of a class whose name begins with "promise", so that none is forgotten. */
    void promises(Class<?> tests) throws ReflectiveOperationException {
        for (Method method : tests.getDeclaredMethods()) {
            if (method.getName().startsWith("promise")) {
                method.invoke(null);
            }
        }
    }

    void end(String name) {
        for (String fault : faults) {
            System.out.println(name + ": " + fault);
        }
        System.out.println(name + ": " + looked + " answers, " + faults.size() + " wrong");
        if (!faults.isEmpty() || looked == 0) {
            System.exit(1);
        }
    }

    static int type(BargeChess x, String text) {
        int length = 0;
        for (int i = 0; i < text.length(); i++) {
            length = x.append(text.charAt(i));
        }
        return length;
    }

    static int read(BargeChess x, String text) {
        type(x, text);
        return x.read();
    }

    /** Makes the moves of a text by move, and answers what the last one did. */
    static int play(BargeChess x, String moves) {
        int answer = 0;
        for (String move : moves.split(";")) {
            int last = move.length() - 1;
            answer = x.move(Integer.parseInt(move.substring(0, last)), "urdl".indexOf(move.charAt(last)));
        }
        return answer;
    }

    static String row(BargeChess x, int row) {
        StringBuilder signs = new StringBuilder();
        int length = x.describe(row);
        for (int i = 0; i < length; i++) {
            signs.append((char) x.sign(i));
        }
        return signs.toString();
    }

    /** The rows from 0 on. */
    static String board(BargeChess x) {
        StringBuilder rows = new StringBuilder();
        for (int row = 0; row < 6; row++) {
            rows.append(row == 0 ? "" : " ").append(row(x, row));
        }
        return rows.toString();
    }

    /** Puts pieces and builds locks: rows from 0 on, with b, t, B, T and 2 to 5 for a lock of this period. */
    static BargeChess set(String rows) {
        BargeChess x = new BargeChess();
        String squares = rows.replace(" ", "");
        for (int square = 0; square < squares.length(); square++) {
            char sign = squares.charAt(square);
            int piece = "btBT".indexOf(sign);
            if (piece >= 0) {
                x.put(piece / 2, piece % 2, square);
            } else if (sign >= '2' && sign <= '5') {
                x.lock(square, sign - '0');
            }
        }
        return x;
    }

    static BargeChess begun(String rows) {
        BargeChess x = set(rows);
        x.begin();
        return x;
    }

    /**
     * Plays the turns from one number to another: a tug t that began on 0 and a tug T that began on 5
     * go round in the columns 0, 1, 4 and 5. No position of theirs comes again within 119 turns.
     */
    static int rounds(BargeChess x, int from, int to) {
        int answer = 0;
        for (int turn = from; turn < to; turn++) {
            int[] way = turn % 2 == 0 ? LEFT_ROUND : RIGHT_ROUND;
            answer = step(x, way[turn / 2 % way.length], way[(turn / 2 + 1) % way.length]);
        }
        return answer;
    }

    private static final int[] LEFT_ROUND = {0, 6, 12, 18, 24, 30, 31, 25, 19, 13, 7, 1};
    private static final int[] RIGHT_ROUND = {5, 11, 17, 23, 29, 28, 22, 16, 10, 4};

    /** Moves a piece from a square to the one beside it. */
    static int step(BargeChess x, int from, int to) {
        return x.move(from, to == from + 6 ? 0 : to == from + 1 ? 1 : to == from - 6 ? 2 : 3);
    }

    private static String reasons(BargeChess x) {
        StringBuilder reasons = new StringBuilder("|");
        for (int what = 0; what < 5; what++) {
            reasons.append(x.refusal(what)).append(',');
        }
        return reasons.toString();
    }

    /** All that changes can change, in 84 calls, as one text: to see that nothing changed. */
    static String all(BargeChess x) {
        StringBuilder all = new StringBuilder();
        for (int what = 0; what < 17; what++) {
            all.append(x.account(what)).append(what == 14 || what == 16 ? ";" : ",");
        }
        for (int square = 0; square < 36; square++) {
            all.append(x.squareOf(square, 0)).append(',');
        }
        for (int lock = 0; lock < 4; lock++) {
            for (int what = 0; what < 4; what++) {
                all.append(x.lockOf(lock, what)).append(',');
            }
        }
        for (int what = 0; what < 6; what++) {
            all.append(x.sideOf(0, what)).append(',').append(x.sideOf(1, what)).append(',');
        }
        all.append(x.repeats()).append(',').append(x.mostRepeats()).append(',').append(x.moves());
        return all.toString();
    }
}
