import java.util.ArrayDeque;
import java.util.ArrayList;
import java.util.Deque;
import java.util.HashSet;
import java.util.List;
import java.util.regex.Matcher;
import java.util.regex.Pattern;

/**
 * The document once more, in another way: rows and columns, pieces as characters, positions as
 * texts, whole worlds copied. It is slow, and shares nothing with the program.
 */
final class Model {
    static final int NONE = -1;
    static final int BAD = -2;
    static final int REFUSED = -3;
    static final int NOTHING = -4;

    private static final int[] ROWS = {1, 0, -1, 0};
    private static final int[] COLUMNS = {0, 1, 0, -1};
    private static final String SIGNS = "btBT";

    /** All that undo and the snapshot hold. */
    static final class World {
        char[][] at = new char[6][6];
        List<int[]> locks = new ArrayList<>(); // square, period, closed, turns
        List<String> came = new ArrayList<>();
        int turn;
        int hour;
        int side;
        boolean begun;
        int ended;
        int carried;
        int[] gone = {0, 0};
        int[] pushed = {0, 0};
        int[] tugs = {0, 0};

        World() {
            for (char[] row : at) {
                java.util.Arrays.fill(row, '.');
            }
        }

        World copy() {
            World w = new World();
            for (int row = 0; row < 6; row++) {
                w.at[row] = at[row].clone();
            }
            for (int[] lock : locks) {
                w.locks.add(lock.clone());
            }
            w.came.addAll(came);
            w.turn = turn;
            w.hour = hour;
            w.side = side;
            w.begun = begun;
            w.ended = ended;
            w.carried = carried;
            w.gone = gone.clone();
            w.pushed = pushed.clone();
            w.tugs = tugs.clone();
            return w;
        }

        int owner(int row, int column) {
            return at[row][column] == '.' ? -1 : Character.isUpperCase(at[row][column]) ? 1 : 0;
        }

        boolean tug(int row, int column) {
            return Character.toLowerCase(at[row][column]) == 't';
        }

        int count(int side, boolean tugsAlone) {
            int count = 0;
            for (int s = 0; s < 36; s++) {
                if (owner(s / 6, s % 6) == side && (!tugsAlone || tug(s / 6, s % 6))) {
                    count++;
                }
            }
            return count;
        }

        boolean on(int row, int column) {
            return row >= 0 && row < 6 && column >= 0 && column < 6;
        }

        boolean closed(int row, int column) {
            for (int[] lock : locks) {
                if (lock[0] == 6 * row + column && lock[2] == 1) {
                    return true;
                }
            }
            return false;
        }

        /** The cause, its detail, how many are pushed, and the sign of what goes off or '.'. */
        int[] look(int square, int direction) {
            int row = square / 6;
            int column = square % 6;
            boolean strong = tug(row, column);
            if (!strong && direction == (owner(row, column) == 0 ? 2 : 0)) {
                return new int[] {10, 0, 0, '.'};
            }
            int r = row + ROWS[direction];
            int c = column + COLUMNS[direction];
            if (!on(r, c)) {
                return new int[] {11, square, 0, '.'};
            }
            int many = 0;
            char last = '.';
            while (on(r, c) && at[r][c] != '.') {
                last = at[r][c];
                many++;
                r += ROWS[direction];
                c += COLUMNS[direction];
            }
            if (on(r, c) && closed(r, c)) {
                return new int[] {12, 6 * r + c, many, '.'};
            }
            if (many > (strong ? 2 : 1)) {
                return new int[] {13, many, many, '.'};
            }
            return new int[] {0, 0, many, on(r, c) ? '.' : last};
        }

        List<Integer> moves() {
            List<Integer> moves = new ArrayList<>();
            if (begun && ended == 0) {
                for (int square = 0; square < 36; square++) {
                    for (int direction = 0; direction < 4; direction++) {
                        if (owner(square / 6, square % 6) == side && look(square, direction)[0] == 0) {
                            moves.add(4 * square + direction);
                        }
                    }
                }
            }
            return moves;
        }

        int make(int square, int direction) {
            int[] look = look(square, direction);
            pushed[side] += look[2];
            if (look[3] != '.') {
                gone[Character.isUpperCase((char) look[3]) ? 1 : 0]++;
            }
            // From the far end of the line back to the piece itself.
            for (int i = look[2]; i >= 0; i--) {
                int r = square / 6 + i * ROWS[direction];
                int c = square % 6 + i * COLUMNS[direction];
                int nr = r + ROWS[direction];
                int nc = c + COLUMNS[direction];
                if (on(nr, nc)) {
                    at[nr][nc] = at[r][c];
                }
                at[r][c] = '.';
                if (i == 0 && !tug(nr, nc) && nr == (side == 0 ? 5 : 0)) {
                    at[nr][nc] = side == 0 ? 't' : 'T';
                    tugs[side]++;
                }
            }
            turn++;
            side = 1 - side;
            for (int[] lock : locks) {
                if (turn % lock[1] == 0 && at[lock[0] / 6][lock[0] % 6] == '.') {
                    lock[2] = 1 - lock[2];
                    lock[3]++;
                }
            }
            if (turn % 4 == 0) {
                hour++;
                if (hour % 4 == 1) {
                    for (int r = 5; r >= 0; r--) {
                        drift(r, r + 1);
                    }
                } else if (hour % 4 == 3) {
                    for (int r = 0; r < 6; r++) {
                        drift(r, r - 1);
                    }
                }
            }
            return lookAtPosition();
        }

        private void drift(int from, int to) {
            for (int c = 2; c <= 3; c++) {
                if (at[from][c] != '.' && on(to, c) && at[to][c] == '.' && !closed(to, c)) {
                    at[to][c] = at[from][c];
                    at[from][c] = '.';
                    carried++;
                }
            }
        }

        int lookAtPosition() {
            StringBuilder position = new StringBuilder();
            for (char[] row : at) {
                position.append(row);
            }
            position.append(side);
            for (int[] lock : locks) {
                position.append(lock[2] == 1 ? '#' : '=');
            }
            came.add(position.toString());
            int times = times(position.toString());
            if (count(0, false) == 0) {
                ended = 2;
            } else if (count(1, false) == 0) {
                ended = 1;
            } else if (times == 3) {
                ended = 3;
                return 3;
            } else if (moves().isEmpty()) {
                ended = side == 0 ? 2 : 1;
            } else if (turn == 120) {
                ended = 3;
            }
            return ended == 0 ? times : 0;
        }

        int times(String position) {
            int times = 0;
            for (String other : came) {
                times += other.equals(position) ? 1 : 0;
            }
            return times;
        }
    }

    World w = new World();
    private World saved;
    private final Deque<World> past = new ArrayDeque<>();
    private String text = "";
    private String line = "";
    private int[] refusal = {NOTHING, NOTHING, NOTHING, NOTHING, NOTHING};
    /** How often each reason and cause was given: to see that the runs reach them. */
    final int[] reasons = new int[14];

    private void keep(World before) {
        past.addLast(before);
        if (past.size() > 8) {
            past.removeFirst();
        }
    }

    private int refuse(int reason, int detail, int number) {
        reasons[reason]++;
        refusal = new int[] {reason, detail, number, NOTHING, NOTHING};
        return REFUSED;
    }

    private static boolean in(int number, int from, int to) {
        return number >= from && number <= to;
    }

    private int build(int square, int used, int most) {
        if (w.begun) {
            return refuse(2, w.turn, NOTHING);
        }
        if (w.at[square / 6][square % 6] != '.') {
            return refuse(5, square, NOTHING);
        }
        for (int lock = 0; lock < w.locks.size(); lock++) {
            if (w.locks.get(lock)[0] == square) {
                return refuse(6, lock, NOTHING);
            }
        }
        return used == most ? refuse(1, most, NOTHING) : 0;
    }

    int put(int side, int kind, int square) {
        if (!in(square, 0, 35)) {
            return NONE;
        }
        if (!in(side, 0, 1) || !in(kind, 0, 1)) {
            return BAD;
        }
        if (build(square, w.count(side, false), 8) != 0) {
            return REFUSED;
        }
        keep(w.copy());
        w.at[square / 6][square % 6] = SIGNS.charAt(2 * side + kind);
        return w.count(side, false);
    }

    int lock(int square, int period) {
        if (!in(square, 0, 35)) {
            return NONE;
        }
        if (!in(period, 2, 5)) {
            return BAD;
        }
        if (build(square, w.locks.size(), 4) != 0) {
            return REFUSED;
        }
        keep(w.copy());
        w.locks.add(new int[] {square, period, 0, 0});
        return w.locks.size() - 1;
    }

    int begin() {
        if (w.begun) {
            return refuse(2, w.turn, NOTHING);
        }
        if (w.count(0, false) == 0) {
            return refuse(7, 0, NOTHING);
        }
        if (w.count(1, false) == 0) {
            return refuse(7, 1, NOTHING);
        }
        keep(w.copy());
        w.begun = true;
        w.lookAtPosition();
        return w.moves().size();
    }

    int move(int square, int direction) {
        World before = w.copy();
        int answer = step(square, direction, NOTHING);
        if (answer >= 0) {
            keep(before);
        }
        return answer;
    }

    private int step(int square, int direction, int number) {
        if (!in(square, 0, 35)) {
            return NONE;
        }
        if (!in(direction, 0, 3)) {
            return BAD;
        }
        if (!w.begun) {
            return refuse(3, 0, number);
        }
        if (w.ended != 0) {
            return refuse(4, w.ended, number);
        }
        if (w.owner(square / 6, square % 6) != w.side) {
            return refuse(8, w.side, number);
        }
        int[] look = w.look(square, direction);
        if (look[0] != 0) {
            refuse(9, direction, number);
            reasons[look[0]]++;
            refusal[3] = look[0];
            refusal[4] = look[1];
            return REFUSED;
        }
        return w.make(square, direction);
    }

    int squareOf(int square, int what) {
        if (!in(square, 0, 35)) {
            return NONE;
        }
        if (what == 0) {
            int piece = SIGNS.indexOf(w.at[square / 6][square % 6]);
            return piece < 0 ? NOTHING : piece;
        }
        if (what == 1) {
            for (int lock = 0; lock < w.locks.size(); lock++) {
                if (w.locks.get(lock)[0] == square) {
                    return lock;
                }
            }
            return NOTHING;
        }
        return what == 2 ? (w.closed(square / 6, square % 6) ? 1 : 0) : BAD;
    }

    int lockOf(int lock, int what) {
        if (!in(lock, 0, w.locks.size() - 1)) {
            return NONE;
        }
        return in(what, 0, 3) ? w.locks.get(lock)[what] : BAD;
    }

    int sideOf(int side, int what) {
        if (!in(side, 0, 1)) {
            return NONE;
        }
        if (!in(what, 0, 5)) {
            return BAD;
        }
        int all = w.count(side, false);
        int tugs = w.count(side, true);
        return new int[] {all, all - tugs, tugs, w.gone[side], w.pushed[side], w.tugs[side]}[what];
    }

    int moves() {
        return w.moves().size();
    }

    int moveAt(int place) {
        List<Integer> moves = w.moves();
        return in(place, 0, moves.size() - 1) ? moves.get(place) : NONE;
    }

    int repeats() {
        return w.came.isEmpty() ? 0 : w.times(w.came.get(w.came.size() - 1));
    }

    int mostRepeats() {
        int most = 0;
        for (String position : w.came) {
            most = Math.max(most, w.times(position));
        }
        return most;
    }

    int wouldPush(int square, int direction) {
        if (!in(square, 0, 35)) {
            return NONE;
        }
        if (!in(direction, 0, 3)) {
            return BAD;
        }
        if (w.at[square / 6][square % 6] == '.') {
            return NOTHING;
        }
        int[] look = w.look(square, direction);
        return look[0] == 0 ? look[2] : NOTHING;
    }

    int firstTake() {
        for (int code : w.moves()) {
            char off = (char) w.look(code / 4, code % 4)[3];
            if (off != '.' && (Character.isUpperCase(off) ? 1 : 0) != w.side) {
                return code;
            }
        }
        return NOTHING;
    }

    int ways(int many) {
        if (!in(many, 1, 2)) {
            return BAD;
        }
        if (many == 1) {
            return w.moves().size();
        }
        int ways = 0;
        for (int code : w.moves()) {
            World then = w.copy();
            then.make(code / 4, code % 4);
            ways += then.moves().size();
        }
        return ways;
    }

    int turnsIn(int lock) {
        if (!in(lock, 0, w.locks.size() - 1)) {
            return NONE;
        }
        int turns = 1;
        while ((w.turn + turns) % w.locks.get(lock)[1] != 0) {
            turns++;
        }
        return turns;
    }

    int tideIn(int tide) {
        if (!in(tide, 0, 3)) {
            return NONE;
        }
        int turns = 1;
        while ((w.turn + turns) % 4 != 0 || (w.turn + turns) / 4 % 4 != tide) {
            turns++;
        }
        return turns;
    }

    int describe(int row) {
        if (!in(row, 0, 5)) {
            return NONE;
        }
        line = "";
        for (int column = 0; column < 6; column++) {
            char sign = w.at[row][column];
            if (sign == '.' && squareOf(6 * row + column, 1) >= 0) {
                sign = w.closed(row, column) ? '#' : '=';
            }
            line += sign;
        }
        return line.length();
    }

    int sign(int index) {
        return in(index, 0, line.length() - 1) ? line.charAt(index) : NONE;
    }

    int append(int code) {
        if (!in(code, 32, 126) || text.length() == 70) {
            return BAD;
        }
        text += (char) code;
        return text.length();
    }

    private static final Pattern WHOLE = Pattern.compile("\\d\\d?[urdl](;\\d\\d?[urdl])*");

    /** The longest front of a text with which a text of moves can begin. */
    private static int fault(String text) {
        int good = 0;
        for (int length = 1; length <= text.length(); length++) {
            String front = text.substring(0, length);
            boolean can = false;
            for (String end : new String[] {"", "u", "0u"}) {
                can = can || WHOLE.matcher(front + end).matches();
            }
            if (can) {
                good = length;
            } else {
                break;
            }
        }
        return good;
    }

    int read() {
        String all = text;
        text = "";
        if (!WHOLE.matcher(all).matches()) {
            return -100 - fault(all);
        }
        World before = w.copy();
        Matcher one = Pattern.compile("(\\d+)([urdl])").matcher(all);
        int number = 0;
        while (one.find()) {
            int answer = step(Integer.parseInt(one.group(1)), "urdl".indexOf(one.group(2)), number);
            if (answer < 0) {
                w = before;
                return answer == REFUSED ? REFUSED : BAD;
            }
            number++;
        }
        keep(before);
        return number;
    }

    int refusal(int what) {
        return in(what, 0, 4) ? refusal[what] : BAD;
    }

    int account(int what) {
        if (!in(what, 0, 16)) {
            return BAD;
        }
        int closed = 0;
        int turns = 0;
        for (int[] lock : w.locks) {
            closed += lock[2];
            turns += lock[3];
        }
        return new int[] {w.turn, w.side, w.hour, w.hour % 4, w.begun ? 1 : 0, w.ended,
            w.count(0, false) + w.count(1, false), w.locks.size(), closed, w.gone[0] + w.gone[1],
            w.pushed[0] + w.pushed[1], w.tugs[0] + w.tugs[1], w.carried, turns,
            new HashSet<>(w.came).size(), text.length(), past.size()}[what];
    }

    int mean() {
        int sum = 0;
        int count = 0;
        for (int square = 0; square < 36; square++) {
            if (w.at[square / 6][square % 6] != '.') {
                sum += square / 6;
                count++;
            }
        }
        return count == 0 ? NOTHING : Float.floatToIntBits((float) sum / (float) count);
    }

    int undo() {
        if (past.isEmpty()) {
            return NOTHING;
        }
        w = past.removeLast();
        return past.size();
    }

    int save() {
        saved = w.copy();
        return w.turn;
    }

    int restore() {
        if (saved == null) {
            return NOTHING;
        }
        w = saved.copy();
        past.clear();
        return w.turn;
    }
}
