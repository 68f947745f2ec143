import java.util.NoSuchElementException;

/**
 * A board on which captured pieces turn to walls. What each call does is told by the document of
 * the class; the comments here tell why the code is as it is.
 */
public final class SealedBoard {

    private static final int SIDES = 2;
    private static final int KINDS = 4;
    private static final int COLUMNS = 6;
    private static final int SQUARES = 36;
    private static final int NONE = -1;

    private static final int RUNNER = 0;
    private static final int RIDER = 1;
    private static final int WALKER = 2;
    private static final int KEEPER = 3;

    private static final int NOTHING_THERE = 0;
    private static final int PIECE_THERE = 1;
    private static final int WALL_THERE = 2;
    private static final int DOOR_THERE = 3;

    private static final int SQUARE_NUMBERS = 4;
    private static final int ROOM_NUMBERS = 6;
    private static final int ACCOUNTS = 11;
    private static final int WORTH_OF_CAPTURE = 10;

    private static final int NO_REFUSAL = 0;
    // A reason and its detail travel in one number: no detail reaches this.
    private static final int DETAILS = 100;

    private final Position board = new Position();
    private final Position trial = new Position();
    private final Position saved = new Position();
    private final History history = new History();
    private final Input input = new Input();
    private boolean isSaved;
    private int keptError = NONE;
    private int keptRefusal = NO_REFUSAL;

    /** Creates a board with nothing on it, before the first turn. */
    public SealedBoard() {
    }

    // ---- setting up

    /** Starts a game; returns the number of pieces. */
    public int start() {
        history.remember(board);
        board.setUp();
        return Sets.size(board.allPieces());
    }

    /** Clears the board; returns the number of pieces that there were. */
    public int clear() {
        history.remember(board);
        int pieces = Sets.size(board.allPieces());
        board.reset();
        return pieces;
    }

    /** Lays a piece; returns the number of pieces of its side. */
    public int lay(int side, int kind, int square)
            throws IndexOutOfBoundsException, IllegalArgumentException, IllegalStateException {
        requireSide(side);
        requireSquare(square);
        if (kind < 0 || kind >= KINDS) {
            throw new IllegalArgumentException("no such kind");
        }
        requireFreeForLaying(square);
        if (kind == KEEPER && board.keeperOf(side) != NONE) {
            throw new IllegalStateException("the side has a keeper");
        }
        history.remember(board);
        board.putPiece(side, kind, Sets.of(square));
        return Sets.size(board.piecesOf(side));
    }

    /** Lays a wall that remembers nothing; returns the number of walls. */
    public int wall(int square) throws IndexOutOfBoundsException, IllegalStateException {
        requireSquare(square);
        requireFreeForLaying(square);
        history.remember(board);
        board.putWall(Sets.of(square));
        return Sets.size(board.walls());
    }

    // ---- turns

    /** Moves a piece of the side whose turn it is; returns the number of captured pieces. */
    public int move(int from, int to)
            throws IndexOutOfBoundsException, UnsupportedOperationException {
        requireSquare(from);
        requireSquare(to);
        requireTaken(board.refusalOfMove(from, to));
        history.remember(board);
        return board.takeMove(from, to);
    }

    /** Buys a door for the side whose turn it is; returns the number of its coins then. */
    public int door(int square) throws IndexOutOfBoundsException, UnsupportedOperationException {
        requireSquare(square);
        requireTaken(board.refusalOfPurchase(square, false));
        history.remember(board);
        return board.takeDoor(square);
    }

    /** Buys back a piece for the side whose turn it is; returns the number of its coins then. */
    public int buy(int square) throws IndexOutOfBoundsException, UnsupportedOperationException {
        requireSquare(square);
        requireTaken(board.refusalOfPurchase(square, true));
        history.remember(board);
        return board.takePiece(square);
    }

    /** Returns a number of a square: what is on it, its side, its kind, or if there is a door. */
    public int square(int square, int what)
            throws IndexOutOfBoundsException, IllegalArgumentException {
        requireSquare(square);
        if (what < 0 || what >= SQUARE_NUMBERS) {
            throw new IllegalArgumentException("no such number of a square");
        }
        switch (what) {
            case 0:
                return board.whatOn(square);
            case 1:
                return board.sideOn(square);
            case 2:
                return board.kindOn(square);
            default:
                return Sets.has(board.allDoors(), square) ? 1 : 0;
        }
    }

    /** Returns whether the piece on a square can move to another one, whichever turn it is. */
    public boolean canMove(int from, int to)
            throws IndexOutOfBoundsException, NoSuchElementException {
        requireSquare(from);
        requireSquare(to);
        requirePiece(from);
        return Sets.has(board.targetsOf(from), to);
    }

    /** Returns how many squares a piece can move to. */
    public int moves(int from) throws IndexOutOfBoundsException, NoSuchElementException {
        requireSquare(from);
        requirePiece(from);
        return Sets.size(board.targetsOf(from));
    }

    /** Returns how many pieces a move would capture. */
    public int captures(int from, int to)
            throws IndexOutOfBoundsException, NoSuchElementException {
        requireSquare(from);
        requireSquare(to);
        requirePiece(from);
        requireTarget(from, to);
        trial.copyFrom(board);
        return trial.movePiece(from, to);
    }

    /** Returns the best move: the square from which it is made times 36 plus the other one. */
    public int best() throws NoSuchElementException {
        if (board.isOver()) {
            throw new NoSuchElementException("the game is over");
        }
        int move = bestMove();
        if (move == NONE) {
            throw new NoSuchElementException("there is no move");
        }
        return move;
    }

    /** Returns the worth of a move of the side whose turn it is. */
    public int worth(int from, int to) throws IndexOutOfBoundsException, NoSuchElementException {
        requireSquare(from);
        requireSquare(to);
        if (!Sets.has(board.piecesOf(board.mover()), from)) {
            throw new NoSuchElementException("no piece of the side whose turn it is");
        }
        requireTarget(from, to);
        return worthOfMove(from, to);
    }

    // ---- rooms

    /** Returns how many rooms a side has. */
    public int rooms(int side) throws IndexOutOfBoundsException {
        requireSide(side);
        return board.countRooms(side);
    }

    /** Returns the room of a side in which a square is. */
    public int room(int side, int square)
            throws IndexOutOfBoundsException, NoSuchElementException {
        requireSide(side);
        requireSquare(square);
        int number = board.roomNumberOf(side, square);
        if (number == NONE) {
            throw new NoSuchElementException("the square is not open to the side");
        }
        return number;
    }

    /** Returns a number of a room. */
    public int roomOf(int side, int room, int what)
            throws IndexOutOfBoundsException, IllegalArgumentException {
        requireSide(side);
        long squares = board.roomNumbered(side, room);
        if (squares == Sets.EMPTY) {
            throw new IndexOutOfBoundsException("no such room");
        }
        if (what < 0 || what >= ROOM_NUMBERS) {
            throw new IllegalArgumentException("no such number of a room");
        }
        switch (what) {
            case 0:
                return Sets.size(squares);
            case 1:
                return Sets.size(squares & board.piecesOf(side));
            case 2:
                return Sets.size(squares & board.piecesOf(otherSide(side)));
            case 3:
                return Sets.size(squares & board.allDoors());
            case 4:
                return Sets.lowest(squares);
            default:
                return (squares & board.piecesOf(side)) == Sets.EMPTY ? 1 : 0;
        }
    }

    /** Returns how many squares are in rooms that are sealed from a side. */
    public int sealed(int side) throws IndexOutOfBoundsException {
        requireSide(side);
        return board.countSealedByRooms(side);
    }

    /** Returns how many squares that are open to a side cannot be reached from its pieces. */
    public int sealedAgain(int side) throws IndexOutOfBoundsException {
        requireSide(side);
        return board.countSealedByReach(side);
    }

    /** Returns the fewest steps by which one comes from a piece of a side to a square. */
    public int steps(int side, int square)
            throws IndexOutOfBoundsException, NoSuchElementException {
        requireSide(side);
        requireSquare(square);
        int count = board.countStepsTo(side, square);
        if (count == NONE) {
            throw new NoSuchElementException("the square cannot be reached");
        }
        return count;
    }

    /** Returns the share of the squares open to a side that are sealed from it. */
    public double sealedShare(int side) throws IndexOutOfBoundsException, ArithmeticException {
        requireSide(side);
        int open = Sets.size(board.openTo(side));
        if (open == 0) {
            throw new ArithmeticException("no square is open to the side");
        }
        return (double) board.countSealedByRooms(side) / (double) open;
    }

    // ---- texts, accounts, history and saving

    /** Appends a character to the input; returns its new length. */
    public int append(char character) throws IllegalArgumentException, IllegalStateException {
        if (character < Input.FIRST_CODE || character > Input.LAST_CODE) {
            throw new IllegalArgumentException("the character code is out of range");
        }
        if (input.isFull()) {
            throw new IllegalStateException("the input is full");
        }
        return input.put(character);
    }

    /** Takes all turns that the input tells, or none; returns their number. */
    public int read() throws IllegalArgumentException, UnsupportedOperationException {
        int error = input.firstError();
        if (error != NONE) {
            input.empty();
            keptError = error;
            throw new IllegalArgumentException("the input is malformed");
        }
        trial.copyFrom(board);
        int refusal = NO_REFUSAL;
        for (int index = 0; index < input.length() && refusal == NO_REFUSAL; index++) {
            if (input.isTurnAt(index)) {
                refusal = takeTurnOnTrial(index);
            }
        }
        input.empty();
        requireTaken(refusal);
        int turns = trial.turns() - board.turns();
        history.remember(board);
        board.copyFrom(trial);
        return turns;
    }

    /** Returns the error position that was kept last. */
    public int errorPosition() throws NoSuchElementException {
        if (keptError == NONE) {
            throw new NoSuchElementException("no error position was kept");
        }
        return keptError;
    }

    /** Returns the reason that was kept last, or its detail. */
    public int reason(boolean isDetail) throws NoSuchElementException {
        if (keptRefusal == NO_REFUSAL) {
            throw new NoSuchElementException("no reason was kept");
        }
        return isDetail ? keptRefusal % DETAILS : keptRefusal / DETAILS;
    }

    /** Returns a character of the board as a picture. */
    public char picture(int index) throws IndexOutOfBoundsException {
        requireSquare(index);
        int side = board.sideOn(index);
        switch (board.whatOn(index)) {
            case PIECE_THERE:
                return signOfPiece(side, board.kindOn(index));
            case WALL_THERE:
                return '#';
            case DOOR_THERE:
                return side == 0 ? '(' : ')';
            default:
                return '.';
        }
    }

    /** Returns an account. */
    public int account(int account) throws IllegalArgumentException {
        if (account < 0 || account >= ACCOUNTS) {
            throw new IllegalArgumentException("no such account");
        }
        switch (account) {
            case 0:
            case 1:
                return Sets.size(board.piecesOf(account));
            case 2:
                return Sets.size(board.walls());
            case 3:
                return Sets.size(board.allDoors());
            case 4:
            case 5:
                return board.coinsOf(account - 4);
            case 6:
                return board.turns();
            case 7:
                return board.mover();
            case 8:
                return board.ending();
            case 9:
                return input.length();
            default:
                return history.count();
        }
    }

    /** Undoes the latest remembered change; returns how many are still remembered. */
    public int undo() throws NoSuchElementException {
        if (history.count() == 0) {
            throw new NoSuchElementException("no change is remembered");
        }
        history.bringBack(board);
        return history.count();
    }

    /** Saves the board, the coins and the turns; returns the number of pieces. */
    public int save() {
        saved.copyFrom(board);
        isSaved = true;
        return Sets.size(saved.allPieces());
    }

    /** Restores what was saved and forgets all changes; returns the number of pieces. */
    public int restore() throws IllegalStateException {
        if (!isSaved) {
            throw new IllegalStateException("nothing was saved");
        }
        board.copyFrom(saved);
        history.forget();
        return Sets.size(board.allPieces());
    }

    // ---- what the calls share

    private static int otherSide(int side) {
        return 1 - side;
    }

    private static void requireSide(int side) {
        if (side < 0 || side >= SIDES) {
            throw new IndexOutOfBoundsException("no such side");
        }
    }

    private static void requireSquare(int square) {
        if (square < 0 || square >= SQUARES) {
            throw new IndexOutOfBoundsException("no such square");
        }
    }

    private void requireFreeForLaying(int square) {
        if (board.turns() > 0) {
            throw new IllegalStateException("a turn was taken");
        }
        if (board.whatOn(square) != NOTHING_THERE) {
            throw new IllegalStateException("something is on the square");
        }
    }

    private void requirePiece(int square) {
        if (board.whatOn(square) != PIECE_THERE) {
            throw new NoSuchElementException("no piece on the square");
        }
    }

    private void requireTarget(int from, int to) {
        if (!Sets.has(board.targetsOf(from), to)) {
            throw new NoSuchElementException("the piece cannot move there");
        }
    }

    private void requireTaken(int refusal) {
        if (refusal != NO_REFUSAL) {
            keptRefusal = refusal;
            throw new UnsupportedOperationException("the turn is refused");
        }
    }

    private int bestMove() {
        long pieces = board.piecesOf(board.mover());
        int greatest = NONE;
        int move = NONE;
        for (int from = 0; from < SQUARES; from++) {
            long targets = Sets.has(pieces, from) ? board.targetsOf(from) : Sets.EMPTY;
            for (int to = 0; to < SQUARES && targets != Sets.EMPTY; to++) {
                int worth = Sets.has(targets, to) ? worthOfMove(from, to) : NONE;
                // Only a greater worth replaces a move, so that of equals the lowest squares stay.
                if (worth > greatest) {
                    greatest = worth;
                    move = from * SQUARES + to;
                }
            }
        }
        return move;
    }

    private int worthOfMove(int from, int to) {
        trial.copyFrom(board);
        int captured = trial.movePiece(from, to);
        return WORTH_OF_CAPTURE * captured + trial.countSealedByRooms(otherSide(board.mover()));
    }

    private int takeTurnOnTrial(int index) {
        char sign = input.characterAt(index);
        if (sign == Input.DOOR_SIGN || sign == Input.PIECE_SIGN) {
            return buyOnTrial(input.squareAt(index + 1), sign == Input.PIECE_SIGN);
        }
        int from = input.squareAt(index);
        int to = input.squareAt(index + 3);
        int refusal = trial.refusalOfMove(from, to);
        if (refusal == NO_REFUSAL) {
            trial.takeMove(from, to);
        }
        return refusal;
    }

    private int buyOnTrial(int square, boolean isPiece) {
        int refusal = trial.refusalOfPurchase(square, isPiece);
        if (refusal == NO_REFUSAL && isPiece) {
            trial.takePiece(square);
        } else if (refusal == NO_REFUSAL) {
            trial.takeDoor(square);
        }
        return refusal;
    }

    private static char signOfPiece(int side, int kind) {
        char sign;
        switch (kind) {
            case RUNNER:
                sign = 'U';
                break;
            case RIDER:
                sign = 'I';
                break;
            case WALKER:
                sign = 'W';
                break;
            default:
                sign = 'K';
                break;
        }
        return side == 0 ? sign : (char) (sign - 'A' + 'a');
    }

    /** Sets of squares: bit s of a set stands for square s. */
    private static final class Sets {

        static final long EMPTY = 0L;
        static final long ALL = (1L << SQUARES) - 1L;
        static final long FIRST_COLUMN = 0x41041041L;
        static final long LAST_COLUMN = FIRST_COLUMN << (COLUMNS - 1);
        static final int DIRECTIONS = 4;

        static long of(int square) {
            return square >= 0 && square < SQUARES ? 1L << square : EMPTY;
        }

        static boolean has(long set, int square) {
            return square >= 0 && square < SQUARES && ((set >>> square) & 1L) != 0L;
        }

        static int size(long set) {
            return Long.bitCount(set);
        }

        static int lowest(long set) {
            // The lowest bit less one has as many bits as there are squares ahead of it.
            return set == EMPTY ? NONE : Long.bitCount((set & -set) - 1L);
        }

        /** All squares of a set to which one comes from its lowest one. */
        static long lowestRoom(long set) {
            return reached(set & -set, set);
        }

        /** The squares one step away in a direction; what would leave the board is left out. */
        static long stepped(long set, int direction) {
            switch (direction) {
                case 0:
                    return set >>> COLUMNS;
                case 1:
                    return (set & ~FIRST_COLUMN) >>> 1;
                case 2:
                    return (set & ~LAST_COLUMN) << 1;
                default:
                    return (set << COLUMNS) & ALL;
            }
        }

        static long around(long set) {
            long above = set >>> COLUMNS;
            long before = (set & ~FIRST_COLUMN) >>> 1;
            long behind = (set & ~LAST_COLUMN) << 1;
            long below = (set << COLUMNS) & ALL;
            return above | before | behind | below;
        }

        /** All squares of a set to which one comes from a seed by steps within the set. */
        static long reached(long seed, long within) {
            long reached = seed & within;
            for (int step = 0; step < SQUARES; step++) {
                long next = (reached | around(reached)) & within;
                if (next == reached) {
                    return reached;
                }
                reached = next;
            }
            return reached;
        }

        static long alongLines(long from, long free) {
            long reached = EMPTY;
            for (int direction = 0; direction < DIRECTIONS; direction++) {
                long next = stepped(from, direction) & free;
                for (int step = 1; step < COLUMNS && next != EMPTY; step++) {
                    reached |= next;
                    next = stepped(next, direction) & free;
                }
            }
            return reached;
        }

        static long byWalking(long from, long free, int steps) {
            long reached = around(from) & free;
            for (int step = 1; step < steps; step++) {
                reached |= around(reached) & free;
            }
            return reached;
        }
    }

    /** All that the history remembers: the board, the coins, the turns and the ending. */
    private static final class Position {

        // All of it stands in one row of numbers, so that it is kept and brought back at once.
        // Places that there are for each side or kind follow one another in their order.
        static final int PIECES = 0;
        static final int DOORS = PIECES + SIDES;
        static final int MEMORIES = DOORS + SIDES;
        // A square counts to the kind of its piece, or of the piece that its wall remembers.
        static final int KINDS_THERE = MEMORIES + SIDES;
        static final int WALLS = KINDS_THERE + KINDS;
        static final int COINS = WALLS + 1;
        static final int TURNS = COINS + SIDES;
        static final int ENDING = TURNS + 1;
        static final int PLACES = ENDING + 1;

        static final int FIRST_COINS = 3;
        static final int COINS_OF_CAPTURE = 2;
        static final int PRICE_OF_DOOR = 3;
        static final int PRICE_OF_RUNNER = 2;
        static final int LAST_TURN = 60;
        static final int WALKER_STEPS = 3;
        static final int NOT_OVER = 0;
        static final int DRAW = 3;

        static final int IS_OVER = 1;
        static final int NO_PIECE = 2;
        static final int CANNOT_MOVE = 3;
        static final int NO_WALL = 4;
        static final int NO_MEMORY = 5;
        static final int NO_NEIGHBOUR = 6;
        static final int HAS_KEEPER = 7;
        static final int FEW_COINS = 8;

        private static final int[] FIRST_ROW = {RUNNER, RIDER, KEEPER, WALKER, RIDER, RUNNER};

        private final long[] row = new long[PLACES];

        Position() {
            reset();
        }

        private long at(int place) {
            return place >= 0 && place < PLACES ? row[place] : 0L;
        }

        private void include(int place, long squares) {
            if (place >= 0 && place < PLACES) {
                row[place] |= squares;
            }
        }

        private void exclude(int place, long squares) {
            if (place >= 0 && place < PLACES) {
                row[place] &= ~squares;
            }
        }

        // ---- as a whole

        void reset() {
            for (int place = 0; place < PLACES; place++) {
                row[place] = 0L;
            }
            row[COINS] = FIRST_COINS;
            row[COINS + 1] = FIRST_COINS;
        }

        void setUp() {
            reset();
            for (int column = 0; column < COLUMNS && column < FIRST_ROW.length; column++) {
                int kind = FIRST_ROW[column];
                putPiece(0, kind, Sets.of(column));
                putPiece(1, kind, Sets.of(SQUARES - COLUMNS + column));
            }
        }

        void copyFrom(Position other) {
            for (int place = 0; place < PLACES; place++) {
                row[place] = other.row[place];
            }
        }

        void writeTo(long[] rows, int start) {
            for (int place = 0; place < PLACES; place++) {
                int index = start + place;
                if (index >= 0 && index < rows.length) {
                    rows[index] = row[place];
                }
            }
        }

        void readFrom(long[] rows, int start) {
            for (int place = 0; place < PLACES; place++) {
                int index = start + place;
                if (index >= 0 && index < rows.length) {
                    row[place] = rows[index];
                }
            }
        }

        // ---- what is on the board

        long piecesOf(int side) {
            return side == 0 ? row[PIECES] : row[PIECES + 1];
        }

        long allPieces() {
            return row[PIECES] | row[PIECES + 1];
        }

        long doorsOf(int side) {
            return side == 0 ? row[DOORS] : row[DOORS + 1];
        }

        long allDoors() {
            return row[DOORS] | row[DOORS + 1];
        }

        long memoriesOf(int side) {
            return side == 0 ? row[MEMORIES] : row[MEMORIES + 1];
        }

        long walls() {
            return row[WALLS];
        }

        long openTo(int side) {
            long shut = side == 0 ? row[DOORS + 1] : row[DOORS];
            return Sets.ALL & ~row[WALLS] & ~shut;
        }

        int coinsOf(int side) {
            return (int) (side == 0 ? row[COINS] : row[COINS + 1]);
        }

        int turns() {
            return (int) row[TURNS];
        }

        int ending() {
            return (int) row[ENDING];
        }

        boolean isOver() {
            return row[ENDING] != NOT_OVER;
        }

        int mover() {
            return turns() & 1;
        }

        int whatOn(int square) {
            if (Sets.has(allPieces(), square)) {
                return PIECE_THERE;
            }
            if (Sets.has(walls(), square)) {
                return WALL_THERE;
            }
            return Sets.has(allDoors(), square) ? DOOR_THERE : NOTHING_THERE;
        }

        int sideOn(int square) {
            for (int side = 0; side < SIDES; side++) {
                // A piece never stands in a door of the other side, so the sides can't differ.
                if (Sets.has(piecesOf(side) | doorsOf(side) | memoriesOf(side), square)) {
                    return side;
                }
            }
            return NONE;
        }

        int kindOn(int square) {
            for (int kind = 0; kind < KINDS; kind++) {
                if (Sets.has(at(KINDS_THERE + kind), square)) {
                    return kind;
                }
            }
            return NONE;
        }

        int keeperOf(int side) {
            return Sets.lowest(piecesOf(side) & row[KINDS_THERE + KEEPER]);
        }

        void putPiece(int side, int kind, long square) {
            include(PIECES + side, square);
            include(KINDS_THERE + kind, square);
        }

        void putWall(long square) {
            include(WALLS, square);
        }

        // ---- moves

        long targetsOf(int from) {
            int side = sideOn(from);
            if (side == NONE) {
                return Sets.EMPTY;
            }
            long start = Sets.of(from);
            long free = openTo(side) & ~allPieces();
            switch (kindOn(from)) {
                case RIDER:
                    return Sets.alongLines(start, free);
                case WALKER:
                    return Sets.byWalking(start, free, WALKER_STEPS);
                default:
                    return Sets.around(start) & free;
            }
        }

        boolean hasMove(int side) {
            // Whatever its kind, a piece can move just if it can go one step.
            return (Sets.around(piecesOf(side)) & openTo(side) & ~allPieces()) != Sets.EMPTY;
        }

        /** Moves a piece and makes the captures, but takes no turn; returns their number. */
        int movePiece(int from, int to) {
            int side = sideOn(from);
            int kind = kindOn(from);
            if (side == NONE || kind == NONE) {
                return 0;
            }
            exclude(PIECES + side, Sets.of(from));
            exclude(KINDS_THERE + kind, Sets.of(from));
            putPiece(side, kind, Sets.of(to));
            long captured = capturedFrom(side, Sets.of(to));
            turnToWalls(otherSide(side), captured);
            return Sets.size(captured);
        }

        private long capturedFrom(int side, long square) {
            long captured = Sets.EMPTY;
            for (int direction = 0; direction < Sets.DIRECTIONS; direction++) {
                long next = Sets.stepped(square, direction) & piecesOf(otherSide(side));
                if ((Sets.stepped(next, direction) & piecesOf(side)) != Sets.EMPTY) {
                    captured |= next;
                }
            }
            return captured;
        }

        private void turnToWalls(int side, long captured) {
            exclude(PIECES + side, captured);
            exclude(DOORS + side, captured);
            include(MEMORIES + side, captured);
            include(WALLS, captured);
        }

        // ---- turns

        int takeMove(int from, int to) {
            int side = mover();
            int other = otherSide(side);
            boolean hadKeeper = keeperOf(other) != NONE;
            int captured = movePiece(from, to);
            earn(side, COINS_OF_CAPTURE * captured);
            endTurn(hadKeeper && keeperOf(other) == NONE);
            return captured;
        }

        int takeDoor(int square) {
            int side = mover();
            long wall = Sets.of(square);
            exclude(WALLS, wall);
            for (int any = 0; any < SIDES; any++) {
                exclude(MEMORIES + any, wall);
            }
            for (int kind = 0; kind < KINDS; kind++) {
                exclude(KINDS_THERE + kind, wall);
            }
            include(DOORS + side, wall);
            earn(side, -PRICE_OF_DOOR);
            endTurn(false);
            return coinsOf(side);
        }

        int takePiece(int square) {
            int side = mover();
            long wall = Sets.of(square);
            exclude(WALLS, wall);
            exclude(MEMORIES + side, wall);
            include(PIECES + side, wall);
            earn(side, -priceOfPiece(square));
            endTurn(false);
            return coinsOf(side);
        }

        private int priceOfPiece(int square) {
            return PRICE_OF_RUNNER + kindOn(square);
        }

        private void earn(int side, int coins) {
            if (side == 0) {
                row[COINS] += coins;
            } else {
                row[COINS + 1] += coins;
            }
        }

        private void endTurn(boolean isKeeperCaptured) {
            int side = mover();
            row[TURNS]++;
            if (isKeeperCaptured || !hasMove(otherSide(side))) {
                row[ENDING] = side + 1;
            } else if (turns() >= LAST_TURN) {
                row[ENDING] = DRAW;
            }
        }

        // ---- refusals

        private static int refusal(int reason, int detail) {
            return reason * DETAILS + detail;
        }

        int refusalOfMove(int from, int to) {
            if (isOver()) {
                return refusal(IS_OVER, turns());
            }
            if (!Sets.has(piecesOf(mover()), from)) {
                return refusal(NO_PIECE, from);
            }
            if (!Sets.has(targetsOf(from), to)) {
                return refusal(CANNOT_MOVE, to);
            }
            return NO_REFUSAL;
        }

        int refusalOfPurchase(int square, boolean isPiece) {
            int side = mover();
            if (isOver()) {
                return refusal(IS_OVER, turns());
            }
            if (!Sets.has(walls(), square)) {
                return refusal(NO_WALL, square);
            }
            if (isPiece && !Sets.has(memoriesOf(side), square)) {
                return refusal(NO_MEMORY, square);
            }
            if ((Sets.around(Sets.of(square)) & piecesOf(side)) == Sets.EMPTY) {
                return refusal(NO_NEIGHBOUR, square);
            }
            if (isPiece && kindOn(square) == KEEPER && keeperOf(side) != NONE) {
                return refusal(HAS_KEEPER, keeperOf(side));
            }
            int price = isPiece ? priceOfPiece(square) : PRICE_OF_DOOR;
            int missing = price - coinsOf(side);
            return missing > 0 ? refusal(FEW_COINS, missing) : NO_REFUSAL;
        }

        // ---- rooms

        int countRooms(int side) {
            long left = openTo(side);
            int count = 0;
            while (left != Sets.EMPTY && count < SQUARES) {
                left &= ~Sets.lowestRoom(left);
                count++;
            }
            return count;
        }

        /** The squares of a room, none if there is no such room. */
        long roomNumbered(int side, int number) {
            long left = openTo(side);
            for (int passed = 0; passed < number && left != Sets.EMPTY; passed++) {
                left &= ~Sets.lowestRoom(left);
            }
            return number < 0 ? Sets.EMPTY : Sets.lowestRoom(left);
        }

        int roomNumberOf(int side, int square) {
            long left = openTo(side);
            for (int number = 0; number < SQUARES && Sets.has(left, square); number++) {
                left &= ~Sets.lowestRoom(left);
                if (!Sets.has(left, square)) {
                    return number;
                }
            }
            return NONE;
        }

        int countSealedByRooms(int side) {
            long left = openTo(side);
            int count = 0;
            for (int number = 0; number < SQUARES && left != Sets.EMPTY; number++) {
                long room = Sets.lowestRoom(left);
                if ((room & piecesOf(side)) == Sets.EMPTY) {
                    count += Sets.size(room);
                }
                left &= ~room;
            }
            return count;
        }

        int countSealedByReach(int side) {
            long open = openTo(side);
            return Sets.size(open & ~Sets.reached(piecesOf(side), open));
        }

        int countStepsTo(int side, int square) {
            long open = openTo(side);
            long reached = piecesOf(side) & open;
            for (int steps = 0; steps < SQUARES; steps++) {
                if (Sets.has(reached, square)) {
                    return steps;
                }
                reached |= Sets.around(reached) & open;
            }
            return NONE;
        }
    }

    /** The latest changes: positions as they were just before them, in a ring of rows. */
    private static final class History {

        static final int CHANGES = 6;

        private final long[] rows = new long[CHANGES * Position.PLACES];
        private int next;
        private int count;

        int count() {
            return count;
        }

        void remember(Position position) {
            position.writeTo(rows, next * Position.PLACES);
            next = (next + 1) % CHANGES;
            count = Math.min(count + 1, CHANGES);
        }

        void bringBack(Position position) {
            if (count > 0) {
                next = (next + CHANGES - 1) % CHANGES;
                count--;
                position.readFrom(rows, next * Position.PLACES);
            }
        }

        void forget() {
            count = 0;
        }
    }

    /** The input: a buffer for one text, which tells turns. */
    private static final class Input {

        static final int LONGEST = 60;
        static final char FIRST_CODE = 32;
        static final char LAST_CODE = 126;
        static final char DOOR_SIGN = '+';
        static final char PIECE_SIGN = '*';
        static final char TURN_END = ';';
        static final char MOVE_SIGN = '-';

        // What a text may go on with.
        private static final int TURN = 0;
        private static final int FIRST_ROW_DIGIT = 1;
        private static final int DASH = 2;
        private static final int LAST_SQUARE = 3;
        private static final int LAST_ROW_DIGIT = 4;
        private static final int SEMICOLON = 5;

        private final char[] characters = new char[LONGEST];
        private int length;

        int length() {
            return length;
        }

        boolean isFull() {
            return length >= LONGEST;
        }

        int put(char character) {
            if (length >= 0 && length < LONGEST) {
                characters[length] = character;
                length++;
            }
            return length;
        }

        void empty() {
            length = 0;
        }

        char characterAt(int index) {
            return index >= 0 && index < length && index < LONGEST ? characters[index] : 0;
        }

        boolean isTurnAt(int index) {
            return index == 0 || characterAt(index - 1) == TURN_END;
        }

        int squareAt(int index) {
            char column = characterAt(index);
            char row = characterAt(index + 1);
            return isColumn(column) && isRow(row) ? (row - '1') * COLUMNS + (column - 'a') : NONE;
        }

        /** The error position, or NONE if the input is a text. */
        int firstError() {
            int expected = TURN;
            for (int index = 0; index < length; index++) {
                expected = expectedAfter(expected, characterAt(index));
                if (expected == NONE) {
                    return index;
                }
            }
            // Only where a semicolon may follow a turn is whole.
            return expected == SEMICOLON ? NONE : length;
        }

        private static int expectedAfter(int expected, char character) {
            switch (expected) {
                case TURN:
                    if (character == DOOR_SIGN || character == PIECE_SIGN) {
                        return LAST_SQUARE;
                    }
                    return isColumn(character) ? FIRST_ROW_DIGIT : NONE;
                case FIRST_ROW_DIGIT:
                    return isRow(character) ? DASH : NONE;
                case DASH:
                    return character == MOVE_SIGN ? LAST_SQUARE : NONE;
                case LAST_SQUARE:
                    return isColumn(character) ? LAST_ROW_DIGIT : NONE;
                case LAST_ROW_DIGIT:
                    return isRow(character) ? SEMICOLON : NONE;
                default:
                    return character == TURN_END ? TURN : NONE;
            }
        }

        private static boolean isColumn(char character) {
            return character >= 'a' && character <= 'f';
        }

        private static boolean isRow(char character) {
            return character >= '1' && character <= '6';
        }
    }
}
