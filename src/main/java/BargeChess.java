/**
 * A board game of barges on a canal: barges and tugs of two sides that go by one square and push
 * others in a line, with locks that turn by turns and tides that carry what is in the river.
 */
public final class BargeChess {
    /** There is no such square, lock, place or index. */
    public static final int NONE = -1;
    /** A number is out of range. */
    public static final int BAD = -2;
    /** It is refused for a reason. */
    public static final int REFUSED = -3;
    /** There is nothing of this kind. */
    public static final int NOTHING = -4;

    private static final int SIZE = 6;
    private static final int SQUARES = SIZE * SIZE;
    private static final int SIDES = 2;
    private static final int KINDS = 2;
    private static final int TUG = 1;

    private static final int UP = 0;
    private static final int RIGHT = 1;
    private static final int DOWN = 2;
    private static final int LEFT = 3;
    private static final int DIRECTIONS = 4;
    /** A move's code is 4 times its square, and its direction: so codes go by the order of moveAt. */
    private static final int MOVE_CODES = SQUARES * DIRECTIONS;

    private static final int EMPTY = -1;
    private static final int OFF = -1;
    private static final int NO_LOCK = -1;

    private static final int MOST_PIECES = 8;
    private static final int MOST_LOCKS = 4;
    private static final int SHORTEST_PERIOD = 2;
    private static final int LONGEST_PERIOD = 5;
    private static final int HOUR = 4;
    private static final int TIDES = 4;
    private static final int TIDE_UP = 1;
    private static final int TIDE_DOWN = 3;
    private static final int RIVER_LEFT = 2;
    private static final int RIVER_RIGHT = 3;

    private static final int LAST_TURN = 120;
    private static final int MOST_TIMES = 3;
    private static final int GOES_ON = 0;
    private static final int SIDE_0_WON = 1;
    private static final int SIDE_1_WON = 2;
    private static final int DRAWN = 3;

    private static final int FULL = 1;
    private static final int BEGUN = 2;
    private static final int NOT_BEGUN = 3;
    private static final int OVER = 4;
    private static final int PIECE_THERE = 5;
    private static final int LOCK_THERE = 6;
    private static final int SIDE_WITHOUT_PIECES = 7;
    private static final int NOT_YOURS = 8;
    private static final int CANNOT_BE_MADE = 9;
    private static final int OTHER_WAY = 10;
    private static final int BOARD_ENDS = 11;
    private static final int LOCK_CLOSED = 12;
    private static final int TOO_MANY = 13;
    private static final int NO_CAUSE = 0;

    private static final int FINE = 0;
    private static final int MOST_UNDOS = 8;
    private static final int MOST_CHARACTERS = 70;
    /** A move takes two characters at least, and a ";" stands between two moves. */
    private static final int MOST_TEXT_MOVES = (MOST_CHARACTERS + 1) / 3;
    private static final int NO_FAULT = -1;
    private static final int FAULT_BASE = -100;
    private static final int NO_DIRECTION = -1;

    private final Game now;
    private final Game trial;
    private final Game saved;
    private boolean hasSaved;
    private final Past past;
    private final MoveText text;
    private final Refusal lastRefusal;
    private final int[] line;
    private int lineLength;

    /** Creates an empty board. */
    public BargeChess() {
        now = new Game();
        trial = new Game();
        saved = new Game();
        past = new Past();
        text = new MoveText();
        lastRefusal = new Refusal();
        line = new int[SIZE];
    }

    // ---- before the game

    /** Puts a piece on the board. */
    public int put(int side, int kind, int square) {
        if (!isSquare(square)) {
            return NONE;
        }
        if (!isSide(side) || kind < 0 || kind >= KINDS) {
            return BAD;
        }
        int error = buildingError(square, now.board.countOf(side), MOST_PIECES);
        if (error != FINE) {
            return error;
        }
        past.keep(now);
        now.board.setPiece(square, side * KINDS + kind);
        return now.board.countOf(side);
    }

    /** Builds a lock. */
    public int lock(int square, int period) {
        if (!isSquare(square)) {
            return NONE;
        }
        if (period < SHORTEST_PERIOD || period > LONGEST_PERIOD) {
            return BAD;
        }
        int error = buildingError(square, now.board.lockCount, MOST_LOCKS);
        if (error != FINE) {
            return error;
        }
        past.keep(now);
        return now.board.buildLock(square, period);
    }

    /** Begins the game. */
    public int begin() {
        if (now.begun) {
            return refuse(BEGUN, now.turn, NOTHING);
        }
        for (int side = 0; side < SIDES; side++) {
            if (now.board.countOf(side) == 0) {
                return refuse(SIDE_WITHOUT_PIECES, side, NOTHING);
            }
        }
        past.keep(now);
        now.startPlay();
        return now.openMoves();
    }

    // ---- moves

    /** Moves a piece of the side whose turn it is. */
    public int move(int square, int direction) {
        int error = moveError(now, square, direction, NOTHING);
        if (error != FINE) {
            return error;
        }
        past.keep(now);
        return now.carryOut(square, direction);
    }

    // ---- what there is

    /** Returns what is on a square. */
    public int squareOf(int square, int what) {
        if (!isSquare(square)) {
            return NONE;
        }
        switch (what) {
            case 0:
                return orNothing(now.board.pieceAt(square));
            case 1:
                return orNothing(now.board.lockAt(square));
            case 2:
                return now.board.isClosed(square) ? 1 : 0;
            default:
                return BAD;
        }
    }

    /** Returns a number of a lock. */
    public int lockOf(int lock, int what) {
        if (!now.board.hasLock(lock)) {
            return NONE;
        }
        switch (what) {
            case 0:
                return now.board.lockSquares[lock];
            case 1:
                return now.board.lockPeriods[lock];
            case 2:
                return now.board.lockClosed[lock] ? 1 : 0;
            case 3:
                return now.board.lockTurns[lock];
            default:
                return BAD;
        }
    }

    /** Returns a number of a side. */
    public int sideOf(int side, int what) {
        if (!isSide(side)) {
            return NONE;
        }
        switch (what) {
            case 0:
                return now.board.countOf(side);
            case 1:
                return now.board.countOf(side) - now.board.tugsOf(side);
            case 2:
                return now.board.tugsOf(side);
            case 3:
                return now.gone[side];
            case 4:
                return now.pushed[side];
            case 5:
                return now.becameTugs[side];
            default:
                return BAD;
        }
    }

    /** Returns how many moves the side whose turn it is has, counted piece by piece. */
    public int moves() {
        return now.openMoves();
    }

    /** Returns the same, counted direction by direction. */
    public int movesAgain() {
        if (!now.goesOn()) {
            return 0;
        }
        int count = 0;
        for (int direction = 0; direction < DIRECTIONS; direction++) {
            for (int lane = 0; lane < SIZE; lane++) {
                count += now.board.movesInLane(now.sideToMove(), direction, lane);
            }
        }
        return count;
    }

    /** Returns a move of the side whose turn it is, by squares, then by directions. */
    public int moveAt(int place) {
        int reached = 0;
        for (int code = 0; code < MOVE_CODES; code++) {
            if (now.allows(code / DIRECTIONS, code % DIRECTIONS)) {
                if (reached == place) {
                    return code;
                }
                reached++;
            }
        }
        return NONE;
    }

    /** Returns how often the position of now has come. */
    public int repeats() {
        return now.history.timesOfLatest();
    }

    /** Returns how often that position has come which has come most. */
    public int mostRepeats() {
        return now.history.mostTimes();
    }

    // ---- what comes ahead

    /** Returns how many pieces a move would push, whoever's turn it is. */
    public int wouldPush(int square, int direction) {
        if (!isSquare(square)) {
            return NONE;
        }
        if (!isDirection(direction)) {
            return BAD;
        }
        if (now.board.pieceAt(square) == EMPTY || now.board.causeAgainst(square, direction) != NO_CAUSE) {
            return NOTHING;
        }
        return now.board.standing(square, direction);
    }

    /** Returns the first move by which a piece of the other side would be pushed off the board. */
    public int firstTake() {
        int other = otherSide(now.sideToMove());
        for (int code = 0; code < MOVE_CODES; code++) {
            int square = code / DIRECTIONS;
            int direction = code % DIRECTIONS;
            if (now.allows(square, direction) && ownerOf(now.board.pushedOff(square, direction)) == other) {
                return code;
            }
        }
        return NOTHING;
    }

    /** Returns in how many ways so many moves can be made one after the other. */
    public int ways(int many) {
        if (many == 1) {
            return now.openMoves();
        }
        if (many != 2) {
            return BAD;
        }
        int count = 0;
        for (int code = 0; code < MOVE_CODES; code++) {
            int square = code / DIRECTIONS;
            int direction = code % DIRECTIONS;
            if (now.allows(square, direction)) {
                trial.copyFrom(now);
                trial.carryOut(square, direction);
                count += trial.openMoves();
            }
        }
        return count;
    }

    /** Returns behind how many turns a lock turns next, if no piece stands on it then. */
    public int turnsIn(int lock) {
        if (!now.board.hasLock(lock)) {
            return NONE;
        }
        int period = now.board.lockPeriods[lock];
        return period > 0 ? period - now.turn % period : NONE;
    }

    /** Returns behind how many turns the tide becomes a number next. */
    public int tideIn(int tide) {
        if (tide < 0 || tide >= TIDES) {
            return NONE;
        }
        int hours = tide - now.tide();
        if (hours <= 0) {
            hours += TIDES;
        }
        return HOUR * hours - now.turn % HOUR;
    }

    // ---- lines, texts, accounts

    /** Writes the line about a row, in place of the line before. */
    public int describe(int row) {
        if (row < 0 || row >= SIZE) {
            return NONE;
        }
        for (int column = 0; column < SIZE; column++) {
            line[column] = now.board.signOf(row * SIZE + column);
        }
        lineLength = SIZE;
        return lineLength;
    }

    /** Returns a character of the line, which is empty at first. */
    public int sign(int index) {
        return index >= 0 && index < lineLength && index < SIZE ? line[index] : NONE;
    }

    /** Appends a character to the text. */
    public int append(int code) {
        return text.addCharacter(code) ? text.length : BAD;
    }

    /** Reads the text as moves and makes them, all or none. */
    public int read() {
        int fault = text.parse();
        text.clear();
        if (fault != NO_FAULT) {
            return FAULT_BASE - fault;
        }
        trial.copyFrom(now);
        for (int number = 0; number < text.moveCount && number < MOST_TEXT_MOVES; number++) {
            int square = text.squares[number];
            int direction = text.directions[number];
            int error = moveError(trial, square, direction, number);
            if (error != FINE) {
                return error == REFUSED ? REFUSED : BAD;
            }
            trial.carryOut(square, direction);
        }
        past.keep(now);
        now.copyFrom(trial);
        return text.moveCount;
    }

    /** Returns a number about what was refused last. */
    public int refusal(int what) {
        switch (what) {
            case 0:
                return lastRefusal.reason;
            case 1:
                return lastRefusal.detail;
            case 2:
                return lastRefusal.moveNumber;
            case 3:
                return lastRefusal.cause;
            case 4:
                return lastRefusal.causeDetail;
            default:
                return BAD;
        }
    }

    /** Returns an account. */
    public int account(int what) {
        switch (what) {
            case 0:
                return now.turn;
            case 1:
                return now.sideToMove();
            case 2:
                return now.turn / HOUR;
            case 3:
                return now.tide();
            case 4:
                return now.begun ? 1 : 0;
            case 5:
                return now.ending;
            case 6:
                return now.board.countOf(0) + now.board.countOf(1);
            case 7:
                return now.board.lockCount;
            case 8:
                return now.board.closedLocks();
            case 9:
                return now.gone[0] + now.gone[1];
            case 10:
                return now.pushed[0] + now.pushed[1];
            case 11:
                return now.becameTugs[0] + now.becameTugs[1];
            case 12:
                return now.carried;
            case 13:
                return now.board.allLockTurns();
            case 14:
                return now.history.different();
            case 15:
                return text.length;
            case 16:
                return past.count;
            default:
                return BAD;
        }
    }

    /** Returns the bits of the mean row of the pieces. */
    public int mean() {
        int sum = 0;
        int count = 0;
        for (int square = 0; square < SQUARES; square++) {
            if (now.board.pieceAt(square) != EMPTY) {
                sum += square / SIZE;
                count++;
            }
        }
        return count == 0 ? NOTHING : bitsOf((float) sum / (float) count);
    }

    // ---- undo and snapshot

    /** Undoes the latest change. */
    public int undo() {
        return past.bringBack(now) ? past.count : NOTHING;
    }

    /** Saves a snapshot, in place of an earlier one. */
    public int save() {
        saved.copyFrom(now);
        hasSaved = true;
        return now.turn;
    }

    /** Restores the snapshot, which stays. */
    public int restore() {
        if (!hasSaved) {
            return NOTHING;
        }
        now.copyFrom(saved);
        past.forget();
        return now.turn;
    }

    // ---- what is refused

    private int refuse(int reason, int detail, int moveNumber) {
        lastRefusal.note(reason, detail, moveNumber);
        return REFUSED;
    }

    /** Answers why nothing can be built on a square, where so many of most stand already. */
    private int buildingError(int square, int used, int most) {
        if (now.begun) {
            return refuse(BEGUN, now.turn, NOTHING);
        }
        if (now.board.pieceAt(square) != EMPTY) {
            return refuse(PIECE_THERE, square, NOTHING);
        }
        if (now.board.lockAt(square) != NO_LOCK) {
            return refuse(LOCK_THERE, now.board.lockAt(square), NOTHING);
        }
        return used < most ? FINE : refuse(FULL, most, NOTHING);
    }

    /** Answers the error code of a move, or FINE; a text's moves are looked at in a game on trial. */
    private int moveError(Game game, int square, int direction, int moveNumber) {
        if (!isSquare(square)) {
            return NONE;
        }
        if (!isDirection(direction)) {
            return BAD;
        }
        if (!game.begun) {
            return refuse(NOT_BEGUN, 0, moveNumber);
        }
        if (game.ending != GOES_ON) {
            return refuse(OVER, game.ending, moveNumber);
        }
        if (ownerOf(game.board.pieceAt(square)) != game.sideToMove()) {
            return refuse(NOT_YOURS, game.sideToMove(), moveNumber);
        }
        int cause = game.board.causeAgainst(square, direction);
        if (cause == NO_CAUSE) {
            return FINE;
        }
        int error = refuse(CANNOT_BE_MADE, direction, moveNumber);
        lastRefusal.noteCause(cause, game.board.causeDetail(cause, square, direction));
        return error;
    }

    // ---- numbers of squares, sides, pieces and directions

    private static boolean isSquare(int square) {
        return square >= 0 && square < SQUARES;
    }

    private static boolean isSide(int side) {
        return side >= 0 && side < SIDES;
    }

    private static boolean isDirection(int direction) {
        return direction >= 0 && direction < DIRECTIONS;
    }

    /** Answers a number of a piece or a lock, or NOTHING where there is none of them. */
    private static int orNothing(int number) {
        return number < 0 ? NOTHING : number;
    }

    private static int otherSide(int side) {
        return 1 - side;
    }

    /** Answers the side of a piece, or EMPTY for none: which is no side. */
    private static int ownerOf(int piece) {
        return piece == EMPTY ? EMPTY : piece / KINDS;
    }

    private static boolean isTug(int piece) {
        return piece != EMPTY && piece % KINDS == TUG;
    }

    private static boolean goes(int piece, int direction) {
        return isTug(piece) || direction != (ownerOf(piece) == 0 ? DOWN : UP);
    }

    private static int strengthOf(int piece) {
        return isTug(piece) ? 2 : 1;
    }

    private static int lastRowOf(int side) {
        return side == 0 ? SIZE - 1 : 0;
    }

    private static int stepOf(int direction) {
        switch (direction) {
            case UP:
                return SIZE;
            case RIGHT:
                return 1;
            case DOWN:
                return -SIZE;
            default:
                return -1;
        }
    }

    /** Answers how many squares there are between a square and the board's end in a direction. */
    private static int roomFrom(int square, int direction) {
        switch (direction) {
            case UP:
                return SIZE - 1 - square / SIZE;
            case RIGHT:
                return SIZE - 1 - square % SIZE;
            case DOWN:
                return square / SIZE;
            default:
                return square % SIZE;
        }
    }

    /** Answers the square so many steps from a square on, or OFF. */
    private static int ahead(int square, int direction, int steps) {
        return steps <= roomFrom(square, direction) ? square + steps * stepOf(direction) : OFF;
    }

    /** Answers the square of a lane (a column or a row), told from the end to which a direction goes. */
    private static int fromEnd(int lane, int direction, int steps) {
        switch (direction) {
            case UP:
                return (SIZE - 1 - steps) * SIZE + lane;
            case RIGHT:
                return lane * SIZE + SIZE - 1 - steps;
            case DOWN:
                return steps * SIZE + lane;
            default:
                return lane * SIZE + steps;
        }
    }

    /**
     * Answers the bits of a float from 0 on: the library's own function for it is not allowed here.
     * Halving and doubling lose nothing between 1/16 and 5, where all means but 0 lie.
     */
    private static int bitsOf(float value) {
        if (value <= 0f) {
            return 0;
        }
        float scaled = value;
        int exponent = 127;
        for (int step = 0; step < 128 && scaled >= 2f; step++) {
            scaled = scaled / 2f;
            exponent++;
        }
        for (int step = 0; step < 128 && scaled < 1f; step++) {
            scaled = scaled * 2f;
            exponent--;
        }
        return (exponent << 23) + (int) ((scaled - 1f) * 8388608f);
    }

    // ---- the parts

    /** The pieces and the locks. A piece is told by 2 times its side, and its kind. */
    private static final class Board {
        private final int[] pieces = new int[SQUARES];
        private int lockCount;
        private final int[] lockSquares = new int[MOST_LOCKS];
        private final int[] lockPeriods = new int[MOST_LOCKS];
        private final boolean[] lockClosed = new boolean[MOST_LOCKS];
        private final int[] lockTurns = new int[MOST_LOCKS];

        private Board() {
            for (int square = 0; square < SQUARES; square++) {
                pieces[square] = EMPTY;
            }
        }

        private void copyBoard(Board other) {
            for (int square = 0; square < SQUARES; square++) {
                pieces[square] = other.pieces[square];
            }
            lockCount = other.lockCount;
            for (int lock = 0; lock < MOST_LOCKS; lock++) {
                lockSquares[lock] = other.lockSquares[lock];
                lockPeriods[lock] = other.lockPeriods[lock];
                lockClosed[lock] = other.lockClosed[lock];
                lockTurns[lock] = other.lockTurns[lock];
            }
        }

        private int pieceAt(int square) {
            return square >= 0 && square < SQUARES ? pieces[square] : EMPTY;
        }

        private void setPiece(int square, int piece) {
            if (square >= 0 && square < SQUARES) {
                pieces[square] = piece;
            }
        }

        private int countOf(int side) {
            int count = 0;
            for (int square = 0; square < SQUARES; square++) {
                if (ownerOf(pieces[square]) == side) {
                    count++;
                }
            }
            return count;
        }

        private int tugsOf(int side) {
            int count = 0;
            for (int square = 0; square < SQUARES; square++) {
                if (ownerOf(pieces[square]) == side && isTug(pieces[square])) {
                    count++;
                }
            }
            return count;
        }

        private boolean hasLock(int lock) {
            return lock >= 0 && lock < lockCount && lock < MOST_LOCKS;
        }

        private int lockAt(int square) {
            for (int lock = 0; lock < MOST_LOCKS; lock++) {
                if (lock < lockCount && lockSquares[lock] == square) {
                    return lock;
                }
            }
            return NO_LOCK;
        }

        private boolean isClosed(int square) {
            int lock = lockAt(square);
            return lock >= 0 && lock < MOST_LOCKS && lockClosed[lock];
        }

        private int buildLock(int square, int period) {
            int lock = lockCount;
            if (lock < 0 || lock >= MOST_LOCKS) {
                return NO_LOCK;
            }
            lockSquares[lock] = square;
            lockPeriods[lock] = period;
            lockClosed[lock] = false;
            lockTurns[lock] = 0;
            lockCount++;
            return lock;
        }

        /** Turns each lock whose period divides the number of the turn, if no piece stands on it. */
        private void turnLocks(int turn) {
            for (int lock = 0; lock < lockCount && lock < MOST_LOCKS; lock++) {
                int period = lockPeriods[lock];
                if (period > 0 && turn % period == 0 && pieceAt(lockSquares[lock]) == EMPTY) {
                    lockClosed[lock] = !lockClosed[lock];
                    lockTurns[lock]++;
                }
            }
        }

        private int closedLocks() {
            int count = 0;
            for (int lock = 0; lock < MOST_LOCKS; lock++) {
                if (lockClosed[lock]) {
                    count++;
                }
            }
            return count;
        }

        private int allLockTurns() {
            int count = 0;
            for (int lock = 0; lock < MOST_LOCKS; lock++) {
                count += lockTurns[lock];
            }
            return count;
        }

        /** Answers how many pieces stand in the line before a square, without a gap. */
        private int standing(int square, int direction) {
            int room = roomFrom(square, direction);
            int step = stepOf(direction);
            int count = 0;
            while (count < room && pieceAt(square + (count + 1) * step) != EMPTY) {
                count++;
            }
            return count;
        }

        /** Answers the cause for which the piece on a square cannot go, or NO_CAUSE. */
        private int causeAgainst(int square, int direction) {
            int piece = pieceAt(square);
            if (!goes(piece, direction)) {
                return OTHER_WAY;
            }
            if (roomFrom(square, direction) == 0) {
                return BOARD_ENDS;
            }
            int standing = standing(square, direction);
            if (isClosed(ahead(square, direction, standing + 1))) {
                return LOCK_CLOSED;
            }
            return standing > strengthOf(piece) ? TOO_MANY : NO_CAUSE;
        }

        private int causeDetail(int cause, int square, int direction) {
            switch (cause) {
                case OTHER_WAY:
                    return isTug(pieceAt(square)) ? 1 : 0;
                case BOARD_ENDS:
                    return square;
                case LOCK_CLOSED:
                    return ahead(square, direction, standing(square, direction) + 1);
                default:
                    return standing(square, direction);
            }
        }

        /** Answers the piece that a move would push off the board, or EMPTY. */
        private int pushedOff(int square, int direction) {
            int standing = standing(square, direction);
            if (standing == 0 || standing < roomFrom(square, direction)) {
                return EMPTY;
            }
            return pieceAt(ahead(square, direction, standing));
        }

        /** Counts the moves of a side piece by piece. */
        private int countMoves(int side) {
            int count = 0;
            for (int code = 0; code < MOVE_CODES; code++) {
                int square = code / DIRECTIONS;
                if (ownerOf(pieceAt(square)) == side && causeAgainst(square, code % DIRECTIONS) == NO_CAUSE) {
                    count++;
                }
            }
            return count;
        }

        /** Counts the moves of a side in a lane, from the end to which they go: what is ahead is known. */
        private int movesInLane(int side, int direction, int lane) {
            int count = 0;
            int run = 0;
            boolean shut = false;
            for (int steps = 0; steps < SIZE; steps++) {
                int square = fromEnd(lane, direction, steps);
                int piece = pieceAt(square);
                if (piece == EMPTY) {
                    run = 0;
                    shut = isClosed(square);
                } else {
                    boolean fits = steps > 0 && !shut && run <= strengthOf(piece);
                    if (fits && ownerOf(piece) == side && goes(piece, direction)) {
                        count++;
                    }
                    run++;
                }
            }
            return count;
        }

        /** Makes a tug of a barge that comes to its last row by the move; answers whether it did. */
        private boolean promote(int square, int direction) {
            int piece = pieceAt(square);
            int target = ahead(square, direction, 1);
            if (piece == EMPTY || isTug(piece) || target / SIZE != lastRowOf(ownerOf(piece))) {
                return false;
            }
            setPiece(square, piece + TUG);
            return true;
        }

        /** Moves a piece and all that it pushes by one square; answers what goes off the board, or EMPTY. */
        private int shift(int square, int direction) {
            int pushed = standing(square, direction);
            int held = pieceAt(square);
            setPiece(square, EMPTY);
            for (int steps = 1; steps <= pushed + 1 && steps <= SIZE; steps++) {
                int target = ahead(square, direction, steps);
                if (target == OFF) {
                    return held;
                }
                int found = pieceAt(target);
                setPiece(target, held);
                held = found;
            }
            return EMPTY;
        }

        /** Carries what is in the river by one square, the foremost first; answers how many went. */
        private int carryRiver(int direction) {
            int count = 0;
            for (int steps = 0; steps < SIZE; steps++) {
                for (int column = RIVER_LEFT; column <= RIVER_RIGHT; column++) {
                    if (drift(fromEnd(column, direction, steps), direction)) {
                        count++;
                    }
                }
            }
            return count;
        }

        private boolean drift(int square, int direction) {
            int piece = pieceAt(square);
            int target = ahead(square, direction, 1);
            if (piece == EMPTY || target == OFF || pieceAt(target) != EMPTY || isClosed(target)) {
                return false;
            }
            setPiece(square, EMPTY);
            setPiece(target, piece);
            return true;
        }

        private int signOf(int square) {
            int piece = pieceAt(square);
            if (piece != EMPTY) {
                char sign = isTug(piece) ? 't' : 'b';
                return ownerOf(piece) == 0 ? sign : sign - 'a' + 'A';
            }
            if (lockAt(square) == NO_LOCK) {
                return '.';
            }
            return isClosed(square) ? '#' : '=';
        }

        /** Answers a number that tells what stands on half of the squares, in three bits each. */
        private long halfKey(int first) {
            long key = 0;
            for (int square = first; square < first + SQUARES / 2; square++) {
                key = key * 8 + pieceAt(square) + 1;
            }
            return key;
        }

        private int closedKey() {
            int key = 0;
            for (int lock = 0; lock < MOST_LOCKS; lock++) {
                key = key * 2 + (lockClosed[lock] ? 1 : 0);
            }
            return key;
        }
    }

    /** The positions of a game in the order in which they came, each told by two keys. */
    private static final class History {
        private static final int MOST_POSITIONS = LAST_TURN + 1;
        private int count;
        private final long[] lowKeys = new long[MOST_POSITIONS];
        private final long[] highKeys = new long[MOST_POSITIONS];

        private void copyHistory(History other) {
            count = other.count;
            for (int index = 0; index < count && index < MOST_POSITIONS; index++) {
                lowKeys[index] = other.lowKeys[index];
                highKeys[index] = other.highKeys[index];
            }
        }

        private void addPosition(long lowKey, long highKey) {
            if (count >= 0 && count < MOST_POSITIONS) {
                lowKeys[count] = lowKey;
                highKeys[count] = highKey;
                count++;
            }
        }

        private int timesOfLatest() {
            return timesUpTo(count - 1);
        }

        /** Answers how often the position at an index has come from the first one up to there. */
        private int timesUpTo(int latest) {
            int times = 0;
            for (int index = 0; index <= latest && latest < MOST_POSITIONS; index++) {
                if (lowKeys[index] == lowKeys[latest] && highKeys[index] == highKeys[latest]) {
                    times++;
                }
            }
            return times;
        }

        private int mostTimes() {
            int most = 0;
            for (int index = 0; index < count; index++) {
                most = Math.max(most, timesUpTo(index));
            }
            return most;
        }

        private int different() {
            int firsts = 0;
            for (int index = 0; index < count; index++) {
                if (timesUpTo(index) == 1) {
                    firsts++;
                }
            }
            return firsts;
        }
    }

    /** All that changes can change. The side whose turn it is, the hour and the tide follow from the turn. */
    private static final class Game {
        private final Board board = new Board();
        private final History history = new History();
        private boolean begun;
        private int ending;
        private int turn;
        private int carried;
        private final int[] gone = new int[SIDES];
        private final int[] pushed = new int[SIDES];
        private final int[] becameTugs = new int[SIDES];

        private void copyFrom(Game other) {
            board.copyBoard(other.board);
            history.copyHistory(other.history);
            begun = other.begun;
            ending = other.ending;
            turn = other.turn;
            carried = other.carried;
            for (int side = 0; side < SIDES; side++) {
                gone[side] = other.gone[side];
                pushed[side] = other.pushed[side];
                becameTugs[side] = other.becameTugs[side];
            }
        }

        private int sideToMove() {
            return turn % SIDES;
        }

        private int tide() {
            return turn / HOUR % TIDES;
        }

        private boolean goesOn() {
            return begun && ending == GOES_ON;
        }

        private int openMoves() {
            return goesOn() ? board.countMoves(sideToMove()) : 0;
        }

        private boolean allows(int square, int direction) {
            return goesOn()
                && ownerOf(board.pieceAt(square)) == sideToMove()
                && board.causeAgainst(square, direction) == NO_CAUSE;
        }

        private void startPlay() {
            begun = true;
            recordPosition();
            settleEnding();
        }

        /** Makes a move that nothing speaks against, and what comes behind it; answers as move does. */
        private int carryOut(int square, int direction) {
            int side = sideToMove();
            if (!isSide(side)) {
                return 0;
            }
            pushed[side] += board.standing(square, direction);
            if (board.promote(square, direction)) {
                becameTugs[side]++;
            }
            int loser = ownerOf(board.shift(square, direction));
            if (isSide(loser)) {
                gone[loser]++;
            }
            turn++;
            board.turnLocks(turn);
            if (turn % HOUR == 0) {
                carryByTide();
            }
            recordPosition();
            return settleEnding();
        }

        private void carryByTide() {
            if (tide() == TIDE_UP) {
                carried += board.carryRiver(UP);
            } else if (tide() == TIDE_DOWN) {
                carried += board.carryRiver(DOWN);
            }
        }

        private void recordPosition() {
            int sideAndLocks = board.closedKey() * SIDES + sideToMove();
            history.addPosition(board.halfKey(0), board.halfKey(SQUARES / 2) * 32 + sideAndLocks);
        }

        /** Answers how often the position has come, or 0 if the game ended otherwise than by that. */
        private int settleEnding() {
            int times = history.timesOfLatest();
            if (board.countOf(0) == 0) {
                ending = SIDE_1_WON;
            } else if (board.countOf(1) == 0) {
                ending = SIDE_0_WON;
            } else if (times >= MOST_TIMES) {
                ending = DRAWN;
                return times;
            } else if (board.countMoves(sideToMove()) == 0) {
                ending = sideToMove() == 0 ? SIDE_1_WON : SIDE_0_WON;
            } else if (turn >= LAST_TURN) {
                ending = DRAWN;
            }
            return ending == GOES_ON ? times : 0;
        }
    }

    /** The games as they were ahead of the latest changes, in a ring. */
    private static final class Past {
        private final Game[] games = new Game[MOST_UNDOS];
        private int next;
        private int count;

        private Past() {
            for (int index = 0; index < MOST_UNDOS; index++) {
                games[index] = new Game();
            }
        }

        private Game gameAt(int index) {
            return index >= 0 && index < MOST_UNDOS ? games[index] : null;
        }

        private void keep(Game game) {
            Game slot = gameAt(next);
            if (slot != null) {
                slot.copyFrom(game);
            }
            next = (next + 1) % MOST_UNDOS;
            count = Math.min(count + 1, MOST_UNDOS);
        }

        /** Makes a game what it was ahead of the latest change; answers whether there was one. */
        private boolean bringBack(Game game) {
            int latest = (next + MOST_UNDOS - 1) % MOST_UNDOS;
            Game slot = gameAt(latest);
            if (count == 0 || slot == null) {
                return false;
            }
            game.copyFrom(slot);
            next = latest;
            count--;
            return true;
        }

        private void forget() {
            count = 0;
        }
    }

    /** The text of moves, and the moves that were found in it. */
    private static final class MoveText {
        private int length;
        private final int[] codes = new int[MOST_CHARACTERS];
        private int moveCount;
        private final int[] squares = new int[MOST_TEXT_MOVES];
        private final int[] directions = new int[MOST_TEXT_MOVES];

        private boolean addCharacter(int code) {
            if (code < 32 || code > 126 || length < 0 || length >= MOST_CHARACTERS) {
                return false;
            }
            codes[length] = code;
            length++;
            return true;
        }

        private void clear() {
            length = 0;
        }

        /** Finds the moves of the text; answers its fault position, or NO_FAULT. */
        private int parse() {
            moveCount = 0;
            int square = 0;
            int digits = 0;
            boolean complete = false;
            for (int index = 0; index < length && index < MOST_CHARACTERS; index++) {
                int code = codes[index];
                int direction = directionOf(code);
                if (complete && code == ';') {
                    complete = false;
                    square = 0;
                    digits = 0;
                } else if (!complete && digits < 2 && code >= '0' && code <= '9') {
                    square = square * 10 + code - '0';
                    digits++;
                } else if (!complete && digits > 0 && direction != NO_DIRECTION) {
                    addMove(square, direction);
                    complete = true;
                } else {
                    return index;
                }
            }
            return complete ? NO_FAULT : length;
        }

        private void addMove(int square, int direction) {
            if (moveCount >= 0 && moveCount < MOST_TEXT_MOVES) {
                squares[moveCount] = square;
                directions[moveCount] = direction;
                moveCount++;
            }
        }

        private static int directionOf(int code) {
            switch (code) {
                case 'u':
                    return UP;
                case 'r':
                    return RIGHT;
                case 'd':
                    return DOWN;
                case 'l':
                    return LEFT;
                default:
                    return NO_DIRECTION;
            }
        }
    }

    /** What was refused last, and why. */
    private static final class Refusal {
        private int reason = NOTHING;
        private int detail = NOTHING;
        private int moveNumber = NOTHING;
        private int cause = NOTHING;
        private int causeDetail = NOTHING;

        private void note(int newReason, int newDetail, int newMoveNumber) {
            reason = newReason;
            detail = newDetail;
            moveNumber = newMoveNumber;
            noteCause(NOTHING, NOTHING);
        }

        private void noteCause(int newCause, int newDetail) {
            cause = newCause;
            causeDetail = newDetail;
        }
    }
}
