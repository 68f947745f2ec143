/**
 * The sentences of the document's promises, each with the cases at its edges: the number of the
 * promise, the words that are quoted, what the run shows of them, and its calls.
 */
final class PromiseSentences {

    private static final String NO_SQUARE = "Throws `IndexOutOfBoundsException` if there is no such square";
    private static final String NO_SIDE = "Throws `IndexOutOfBoundsException` if there is no such side";
    private static final String NO_SIDE_OR_SQUARE = "Throws `IndexOutOfBoundsException` if there is no such side or"
            + " square";
    private static final String REFUSED = "Throws `UnsupportedOperationException` if it is refused; the reason is"
            + " then kept";
    private static final String NO_PIECE = "Throws `NoSuchElementException` if there is no piece on the square";

    static final String[][] RUNS = {
        {"1", "Creates a board with nothing on it, before the first turn.",
            "the first square, the last one, all accounts",
            "square(0, 0) = 0; square(35, 0) = 0; picture(0) = .; picture(35) = .; account(0) = 0; account(1) = 0;"
            + " account(2) = 0; account(3) = 0; account(4) = 3; account(5) = 3; account(6) = 0; account(7) = 0;"
            + " account(8) = 0; account(9) = 0; account(10) = 0; lay(1, 3, 35) = 1; wall(0) = 1"},
        {"1", "Creates a board with nothing on it, before the first turn.", "nothing is kept, saved, remembered",
            "undo() throws NoSuchElement; restore() throws IllegalState; errorPosition() throws NoSuchElement;"
            + " reason(false) throws NoSuchElement; reason(true) throws NoSuchElement; best() throws NoSuchElement;"
            + " read() malformed 0"},

        {"2", "Starts a game.", "anew during a game, after its end, and twice",
            "start() = 12; start() = 12; account(0) = 6; move(0, 6) = 0; start() = 12; account(6) = 0;"
            + " account(7) = 0; picture(0) = U; picture(6) = .; clear() = 12; lay(0, 0, 0) = 1; move(0, 1) = 0;"
            + " account(8) = 1; start() = 12; account(8) = 0; move(0, 6) = 0; move(35, 29) = 0"},
        {"2", "Returns the number of pieces.", "also over a full board",
            "start() = 12; clear() = 12; " + Boards.full(0) + "start() = 12; account(0) = 6; account(1) = 6;"
            + " clear() = 12; "
            + Boards.walls(36) + "start() = 12; account(2) = 0"},

        {"3", "Clears the board; coins and turns are as at first.", "an empty board, walls, and after the end",
            "clear() = 0; account(10) = 1; " + Boards.walls(36) + "clear() = 0; account(2) = 0; wall(1) = 1;"
            + " lay(0, 0, 0) = 1; door(1) = 0; account(8) = 1; clear() = 1; account(3) = 0; account(4) = 3;"
            + " account(6) = 0; account(7) = 0; account(8) = 0; square(1, 1) = -1; lay(0, 3, 1) = 1"},
        {"3", "Returns the number of pieces that there were.", "none, one, twelve, 36",
            "clear() = 0; lay(1, 0, 5) = 1; clear() = 1; clear() = 0; start() = 12; clear() = 12; " + Boards.full(1)
            + "clear() = 36; account(1) = 0"},

        {"4", "Lays a piece on the board.", "on the first and on the last square",
            "lay(0, 0, 0) = 1; lay(1, 3, 35) = 1; square(0, 0) = 1; square(0, 1) = 0; square(0, 2) = 0;"
            + " square(35, 0) = 1; square(35, 1) = 1; square(35, 2) = 3; square(1, 0) = 0; square(34, 0) = 0;"
            + " account(10) = 2"},
        {"4", "Returns the number of pieces of this side.", "from one to 36, and each side alone",
            Boards.full(0) + "clear() = 36; lay(0, 0, 0) = 1; lay(1, 0, 1) = 1; lay(0, 1, 2) = 2; lay(1, 2, 3) = 2"},
        {"4", NO_SIDE_OR_SQUARE, "one below and one above",
            "lay(-1, 0, 0) throws IndexOutOfBounds; lay(2, 0, 0) throws IndexOutOfBounds;"
            + " lay(0, 0, -1) throws IndexOutOfBounds; lay(0, 0, 36) throws IndexOutOfBounds; account(10) = 0"},
        {"4", "Throws `IllegalArgumentException` if there is no such kind", "one below and one above",
            "lay(0, -1, 0) throws IllegalArgument; lay(0, 4, 0) throws IllegalArgument; account(0) = 0;"
            + " account(10) = 0; lay(0, 3, 0) = 1; lay(0, 0, 1) = 2"},
        {"4", "Throws `IllegalStateException` if a turn was taken,", "by a move, by a text, and taken back",
            "lay(0, 0, 0) = 1; lay(1, 0, 35) = 1; move(0, 1) = 0; lay(0, 0, 20) throws IllegalState; undo() = 2;"
            + " lay(0, 0, 20) = 2; text(\"a1-b1\") = 5; read() = 1; lay(0, 0, 21) throws IllegalState;"
            + " account(10) = 4"},
        {"4", "something is on the square,", "a piece of either side, a wall",
            "lay(0, 0, 0) = 1; lay(1, 0, 1) = 1; wall(2) = 1; lay(0, 1, 0) throws IllegalState;"
            + " lay(0, 1, 1) throws IllegalState; lay(0, 1, 2) throws IllegalState; square(0, 2) = 0;"
            + " square(1, 1) = 1; account(10) = 3; clear() = 2; " + Boards.full(0)
            + "lay(1, 0, 0) throws IllegalState; lay(1, 0, 35) throws IllegalState"},
        {"4", "or the side would have a second keeper", "each side has its own",
            "lay(0, 3, 0) = 1; lay(1, 3, 1) = 1; lay(0, 3, 2) throws IllegalState; lay(1, 3, 2) throws IllegalState;"
            + " undo() = 1; lay(1, 3, 2) = 1; square(2, 2) = 3; account(10) = 2"},

        {"5", "Lays a wall on the board.", "on the first and on the last square",
            "wall(0) = 1; wall(35) = 2; square(0, 0) = 2; square(35, 0) = 2; square(1, 0) = 0; picture(0) = #;"
            + " picture(35) = #; account(10) = 2"},
        {"5", "Returns the number of walls.", "from one to 36", Boards.walls(36) + "account(2) = 36"},
        {"5", NO_SQUARE, "one below and one above",
            "wall(-1) throws IndexOutOfBounds; wall(36) throws IndexOutOfBounds; account(2) = 0; account(10) = 0"},
        {"5", "Throws `IllegalStateException` if a turn was taken,", "by a move, by a door, and taken back",
            "lay(0, 0, 0) = 1; lay(1, 0, 35) = 1; wall(1) = 1; move(0, 6) = 0; wall(20) throws IllegalState;"
            + " undo() = 3; door(1) = 0; wall(20) throws IllegalState; undo() = 3; wall(20) = 2"},
        {"5", "or something is on the square", "a piece, a wall, a board full of them",
            "lay(1, 0, 0) = 1; wall(1) = 1; wall(0) throws IllegalState; wall(1) throws IllegalState; account(2) = 1;"
            + " account(10) = 2; clear() = 1; " + Boards.walls(36) + "wall(0) throws IllegalState;"
            + " wall(35) throws IllegalState"},

        {"6", "Moves a piece of the side whose turn it is.", "from and to the first and the last square",
            "lay(0, 1, 0) = 1; lay(1, 1, 35) = 1; move(0, 5) = 0; picture(0) = .; picture(5) = I; move(35, 30) = 0;"
            + " picture(30) = i; move(5, 35) = 0; move(30, 0) = 0; picture(35) = I; picture(0) = i; account(6) = 4"},
        {"6", "Returns the number of pieces that are captured.", "none, one, two, three",
            "lay(0, 0, 20) = 1; lay(0, 0, 12) = 2; lay(0, 0, 16) = 3; lay(0, 0, 2) = 4; lay(1, 0, 35) = 1;"
            + " move(20, 14) = 0; undo() = 5; lay(1, 0, 13) = 2; move(20, 14) = 1; undo() = 5; lay(1, 0, 15) = 3;"
            + " move(20, 14) = 2; undo() = 5; lay(1, 0, 8) = 4; move(20, 14) = 3"},
        {"6", NO_SQUARE, "one below and one above, each of the two",
            "lay(0, 0, 0) = 1; lay(0, 0, 35) = 2; move(-1, 0) throws IndexOutOfBounds;"
            + " move(36, 35) throws IndexOutOfBounds; move(0, -1) throws IndexOutOfBounds;"
            + " move(35, 36) throws IndexOutOfBounds; account(6) = 0; reason(false) throws NoSuchElement"},
        {"6", REFUSED, "each of the reasons that a move can have",
            "lay(0, 0, 0) = 1; move(35, 34) refused 2 35; move(0, 0) refused 3 0; account(6) = 0; account(10) = 1;"
            + " move(0, 1) = 0; move(1, 0) refused 1 1"},

        {"7", "Buys a door for the side whose turn it is.", "each side one, on the first and on the last square",
            "wall(0) = 1; wall(35) = 2; lay(0, 0, 1) = 1; lay(1, 0, 34) = 1; door(0) = 0; square(0, 0) = 3;"
            + " square(0, 1) = 0; account(7) = 1; door(35) = 0; square(35, 0) = 3; square(35, 1) = 1; account(2) = 0;"
            + " account(3) = 2"},
        {"7", "Returns the number of its coins then.", "none, and two that are left; of its own",
            "wall(12) = 1; lay(0, 0, 13) = 1; lay(0, 1, 3) = 2; lay(1, 2, 14) = 1; lay(1, 0, 35) = 2; door(12) = 0;"
            + " account(5) = 3; undo() = 5; move(3, 15) = 1; move(35, 34) = 0; door(12) = 2; account(4) = 2;"
            + " account(5) = 3"},
        {"7", NO_SQUARE, "one below and one above",
            "lay(0, 0, 0) = 1; lay(0, 0, 35) = 2; door(-1) throws IndexOutOfBounds; door(36) throws IndexOutOfBounds;"
            + " account(6) = 0; reason(false) throws NoSuchElement"},
        {"7", REFUSED, "each of the reasons that a door can have",
            "wall(1) = 1; wall(6) = 2; wall(20) = 3; lay(0, 0, 0) = 1; lay(1, 0, 35) = 1; door(2) refused 4 2;"
            + " door(20) refused 6 20; door(1) = 0; move(35, 34) = 0; door(6) refused 8 3; account(6) = 2;"
            + " account(4) = 0; clear() = 2; lay(0, 0, 0) = 1; wall(7) = 1; move(0, 1) = 0; door(7) refused 1 1"},

        {"8", "Buys back a piece for the side whose turn it is.", "side 0, and side 1",
            Boards.LOST_RUNNER + "buy(14) = 1; square(14, 0) = 1; square(14, 1) = 0; square(14, 2) = 0;"
            + " account(7) = 1; account(2) = 0; clear() = 5; lay(1, 0, 14) = 1; lay(1, 0, 20) = 2; lay(0, 0, 13) = 1;"
            + " lay(0, 1, 3) = 2; move(3, 15) = 1; buy(14) = 1; square(14, 1) = 1; account(7) = 0"},
        {"8", "Returns the number of its coins then.", "one, and none; of its own",
            Boards.LOST_RUNNER + "buy(14) = 1; account(4) = 1; account(5) = 5; clear() = 5; lay(0, 1, 14) = 1;"
            + " lay(0, 0, 20) = 2; lay(0, 0, 35) = 3; lay(1, 0, 13) = 1; lay(1, 1, 3) = 2; move(35, 34) = 0;"
            + " move(3, 15) = 1; buy(14) = 0"},
        {"8", NO_SQUARE, "one below and one above",
            "lay(0, 0, 0) = 1; lay(0, 0, 35) = 2; buy(-1) throws IndexOutOfBounds; buy(36) throws IndexOutOfBounds;"
            + " account(6) = 0; reason(false) throws NoSuchElement"},
        {"8", REFUSED, "each of the reasons that a piece can have",
            "wall(26) = 1; wall(34) = 2; lay(0, 2, 14) = 1; lay(0, 0, 20) = 2; lay(0, 0, 35) = 3; lay(1, 0, 13) = 1;"
            + " lay(1, 1, 3) = 2; move(20, 21) = 0; move(13, 12) = 0; move(35, 29) = 0; move(12, 13) = 0;"
            + " move(29, 28) = 0; move(3, 9) = 0; move(21, 22) = 0; move(9, 15) = 1; buy(8) refused 4 8;"
            + " buy(26) refused 5 26; buy(14) refused 6 14; move(22, 21) = 0; move(15, 16) = 0; move(21, 20) = 0;"
            + " move(13, 12) = 0; buy(14) refused 8 1; account(6) = 12"},

        {"9", "Returns a number of a square.", "the first square, the last one, each of their numbers",
            "lay(1, 2, 0) = 1; wall(35) = 1; square(0, 0) = 1; square(0, 1) = 1; square(0, 2) = 2; square(0, 3) = 0;"
            + " square(35, 0) = 2; square(35, 1) = -1; square(35, 2) = -1; square(35, 3) = 0"},
        {"9", "Returns the number.", "the least and the greatest of each",
            "square(0, 0) = 0; square(0, 1) = -1; square(0, 2) = -1; square(0, 3) = 0; lay(1, 3, 35) = 1;"
            + " wall(1) = 1; lay(0, 0, 0) = 1; door(1) = 0; square(1, 0) = 3; square(35, 1) = 1; square(35, 2) = 3;"
            + " square(1, 3) = 1"},
        {"9", "0 for 1 if a piece is on it, 2 for a wall, 3 for a door without a piece, and 0 for nothing,",
            "all of them",
            Boards.GATE + "square(11, 0) = 1; square(12, 0) = 2; square(17, 0) = 3; square(0, 0) = 0;"
            + " square(35, 0) = 1; move(35, 34) = 0; move(11, 17) = 0; square(17, 0) = 1; square(11, 0) = 0"},
        {"9",
            "1 for the side of the piece, of the door without a piece or of the piece that the wall"
            + " remembers, or -1,",
            "all of them",
            Boards.GATE + "square(11, 1) = 0; square(35, 1) = 1; square(17, 1) = 0; square(12, 1) = -1;"
            + " square(0, 1) = -1; clear() = 2; " + Boards.LOST_RUNNER + "square(14, 1) = 0; square(13, 1) = 1;"
            + " square(3, 1) = -1"},
        {"9", "2 for the kind of the piece or of the one that the wall remembers, or -1,", "all of them",
            Boards.GATE + "square(11, 2) = 0; square(17, 2) = -1; square(12, 2) = -1; square(0, 2) = -1; clear() = 2;"
            + " "
            + Boards.LOST_RUNNER + "square(14, 2) = 0; square(15, 2) = 1; square(3, 2) = -1; clear() = 4;"
            + " start() = 12; square(2, 2) = 3; square(33, 2) = 2"},
        {"9", "3 for 1 if there is a door on it, and 0 otherwise", "with and without a piece",
            Boards.GATE + "square(17, 3) = 1; square(16, 3) = 0; square(11, 3) = 0; square(0, 3) = 0;"
            + " move(35, 34) = 0; move(11, 17) = 0; square(17, 3) = 1; move(34, 35) = 0; move(17, 23) = 0;"
            + " square(17, 3) = 1; square(23, 3) = 0"},
        {"9", NO_SQUARE, "one below and one above",
            "square(-1, 0) throws IndexOutOfBounds; square(36, 0) throws IndexOutOfBounds; square(0, 3) = 0;"
            + " square(35, 3) = 0"},
        {"9", "Throws `IllegalArgumentException` if what is not 0 to 3", "one below and one above",
            "square(0, -1) throws IllegalArgument; square(0, 4) throws IllegalArgument; square(0, 0) = 0;"
            + " square(0, 3) = 0"},

        {"10",
            "Returns whether the piece on a square can move to another one, as the board is, whichever turn it is.",
            "before a turn, in the turn of the other side, after the end",
            "lay(0, 0, 0) = 1; lay(1, 0, 35) = 1; canMove(0, 1) = true; canMove(35, 34) = true;"
            + " canMove(35, 28) = false; move(0, 1) = 0; canMove(1, 0) = true; canMove(35, 34) = true; clear() = 2;"
            + " lay(0, 0, 0) = 1; move(0, 6) = 0; account(8) = 1; canMove(6, 0) = true; canMove(6, 6) = false"},
        {"10", "Returns whether it can.", "to the first and the last square",
            "lay(0, 1, 5) = 1; canMove(5, 0) = true; canMove(5, 35) = true; canMove(5, 5) = false;"
            + " canMove(5, 34) = false"},
        {"10", NO_SQUARE, "one below and one above, each of the two",
            "lay(0, 0, 0) = 1; lay(0, 0, 35) = 2; canMove(-1, 0) throws IndexOutOfBounds;"
            + " canMove(36, 35) throws IndexOutOfBounds; canMove(0, -1) throws IndexOutOfBounds;"
            + " canMove(35, 36) throws IndexOutOfBounds"},
        {"10", NO_PIECE, "nothing, a wall, a wall that remembers one, a door",
            "canMove(0, 1) throws NoSuchElement; " + Boards.GATE + "canMove(12, 6) throws NoSuchElement;"
            + " canMove(17, 11) throws NoSuchElement; canMove(17, 23) throws NoSuchElement; clear() = 2; "
            + Boards.LOST_RUNNER
            + "canMove(14, 8) throws NoSuchElement; canMove(3, 2) throws NoSuchElement"},

        {"11", "Returns how many squares a piece can move to, as the board is.",
            "whichever turn it is, and after the end",
            "lay(0, 0, 0) = 1; lay(1, 3, 35) = 1; moves(0) = 2; moves(35) = 2; move(0, 1) = 0; moves(1) = 3;"
            + " moves(35) = 2; clear() = 2; lay(0, 2, 0) = 1; move(0, 14) refused 3 14; move(0, 13) = 0;"
            + " account(8) = 1; moves(13) = 19"},
        {"11", "Returns the number of squares.", "none, and the most of each kind",
            "lay(0, 0, 0) = 1; wall(1) = 1; moves(0) = 1; wall(6) = 2; moves(0) = 0; clear() = 1; lay(0, 0, 14) = 1;"
            + " moves(14) = 4; clear() = 1; lay(0, 1, 14) = 1; moves(14) = 10; clear() = 1; lay(0, 2, 14) = 1;"
            + " moves(14) = 22; clear() = 1; lay(0, 3, 14) = 1; moves(14) = 4; clear() = 1; " + Boards.full(1)
            + "moves(0) = 0; moves(35) = 0"},
        {"11", NO_SQUARE, "one below and one above",
            "moves(-1) throws IndexOutOfBounds; moves(36) throws IndexOutOfBounds"},
        {"11", NO_PIECE, "nothing, a wall, a wall that remembers one, a door",
            "moves(0) throws NoSuchElement; moves(35) throws NoSuchElement; " + Boards.GATE
            + "moves(12) throws NoSuchElement; moves(17) throws NoSuchElement; clear() = 2; " + Boards.LOST_RUNNER
            + "moves(14) throws NoSuchElement"},

        {"12", "Returns how many pieces a move would capture, as the board is.",
            "whichever turn it is, and after the end",
            "lay(0, 0, 13) = 1; lay(0, 1, 3) = 2; lay(1, 2, 14) = 1; lay(1, 0, 35) = 2; captures(3, 15) = 1;"
            + " move(13, 12) = 0; captures(3, 15) = 0; move(35, 34) = 0; move(12, 13) = 0; captures(3, 15) = 1;"
            + " account(2) = 0; clear() = 4; lay(0, 0, 13) = 1; lay(0, 1, 9) = 2; lay(1, 3, 14) = 1;"
            + " lay(1, 0, 10) = 2; lay(1, 0, 35) = 3; lay(0, 0, 11) = 3; move(9, 15) = 1; account(8) = 1;"
            + " captures(15, 9) = 1; account(1) = 2"},
        {"12", "Returns the number of pieces.", "none, one, two, three",
            "lay(0, 0, 20) = 1; lay(0, 0, 12) = 2; lay(0, 0, 16) = 3; lay(0, 0, 2) = 4; captures(20, 14) = 0;"
            + " lay(1, 0, 13) = 1; captures(20, 14) = 1; lay(1, 0, 15) = 2; captures(20, 14) = 2; lay(1, 0, 8) = 3;"
            + " captures(20, 14) = 3; account(1) = 3; account(4) = 3"},
        {"12", NO_SQUARE, "one below and one above, each of the two",
            "lay(0, 0, 0) = 1; lay(0, 0, 35) = 2; captures(-1, 0) throws IndexOutOfBounds;"
            + " captures(36, 35) throws IndexOutOfBounds; captures(0, -1) throws IndexOutOfBounds;"
            + " captures(35, 36) throws IndexOutOfBounds"},
        {"12", "Throws `NoSuchElementException` if there is no piece on the square, or it cannot move there",
            "nothing, a wall, a door, its own square, one too far",
            "captures(0, 1) throws NoSuchElement; " + Boards.GATE + "captures(12, 6) throws NoSuchElement;"
            + " captures(17, 23) throws NoSuchElement; captures(11, 11) throws NoSuchElement;"
            + " captures(11, 9) throws NoSuchElement; captures(11, 16) throws NoSuchElement; captures(11, 17) = 0;"
            + " captures(35, 17) throws NoSuchElement; captures(35, 34) = 0"},

        {"13", "Returns the best move.", "for the side whose turn it is, and nothing is moved",
            "start() = 12; best() = 6; best() = 6; picture(0) = U; account(10) = 1; account(6) = 0; move(0, 6) = 0;"
            + " best() = 1104; account(7) = 1; picture(30) = u"},
        {"13", "Returns the square from which it is made times 36 plus that to which it is made.",
            "the least number and the greatest one that there can be",
            "lay(0, 0, 0) = 1; best() = 1; clear() = 1; wall(29) = 1; lay(0, 0, 35) = 1; best() = 1294"},
        {"13", "Throws `NoSuchElementException` if the game is over,", "won and drawn",
            "lay(0, 0, 0) = 1; best() = 1; move(0, 1) = 0; account(8) = 1; best() throws NoSuchElement; clear() = 1; "
            + Boards.SIXTY_TURNS + "account(8) = 3; best() throws NoSuchElement; undo() = 5; best() = 1252"},
        {"13", "or there is no move", "no piece at all, none of the side, all shut in",
            "best() throws NoSuchElement; lay(1, 0, 35) = 1; best() throws NoSuchElement; wall(1) = 1; wall(6) = 2;"
            + " lay(0, 1, 0) = 1; best() throws NoSuchElement; lay(0, 0, 20) = 2; best() = 734; clear() = 3; "
            + Boards.full(0)
            + "best() throws NoSuchElement"},

        {"14", "Returns the worth of a move of the side whose turn it is.", "nothing is moved by that",
            "lay(0, 0, 13) = 1; lay(0, 1, 3) = 2; lay(1, 2, 14) = 1; lay(1, 3, 35) = 2; worth(3, 15) = 10;"
            + " picture(3) = I; picture(14) = w; account(4) = 3; account(6) = 0; account(10) = 4; worth(3, 15) = 10"},
        {"14", "Returns the worth.", "nought, a capture, and with sealed squares",
            "lay(0, 0, 13) = 1; lay(0, 1, 3) = 2; lay(1, 2, 14) = 1; worth(3, 9) = 0; worth(3, 15) = 45;"
            + " lay(1, 3, 35) = 2; worth(3, 15) = 10; clear() = 4; lay(0, 0, 0) = 1; worth(0, 1) = 36; wall(35) = 1;"
            + " worth(0, 1) = 35"},
        {"14", NO_SQUARE, "one below and one above, each of the two",
            "lay(0, 0, 0) = 1; lay(0, 0, 35) = 2; worth(-1, 0) throws IndexOutOfBounds;"
            + " worth(36, 35) throws IndexOutOfBounds; worth(0, -1) throws IndexOutOfBounds;"
            + " worth(35, 36) throws IndexOutOfBounds"},
        {"14",
            "Throws `NoSuchElementException` if there is no piece of this side on the square, or it cannot move"
            + " there",
            "nothing, the other side's turn, a wall, a door, its own square, one too far",
            "worth(0, 1) throws NoSuchElement; " + Boards.GATE + "worth(11, 17) throws NoSuchElement;"
            + " worth(35, 34) = 0; worth(35, 35) throws NoSuchElement; worth(35, 33) throws NoSuchElement;"
            + " worth(12, 6) throws NoSuchElement; move(35, 34) = 0; worth(34, 35) throws NoSuchElement;"
            + " worth(17, 23) throws NoSuchElement; worth(11, 17) = 12"},

        {"15", "Returns how many rooms a side has.", "each side its own",
            "rooms(0) = 1; " + Boards.GATE + "rooms(0) = 1; rooms(1) = 2"},
        {"15", "Returns the number of rooms.", "none, one, two, 18",
            "rooms(1) = 1; wall(1) = 1; wall(6) = 2; rooms(1) = 2; clear() = 0; " + Boards.oddWalls()
            + "rooms(0) = 18; clear() = 0; "
            + Boards.walls(35) + "rooms(0) = 1; wall(35) = 36; rooms(0) = 0; rooms(1) = 0"},
        {"15", NO_SIDE, "one below and one above",
            "rooms(-1) throws IndexOutOfBounds; rooms(2) throws IndexOutOfBounds"},

        {"16", "Returns the room of a side in which a square is.", "each side its own",
            Boards.GATE + "room(0, 35) = 0; room(1, 35) = 1; room(0, 17) = 0; room(1, 0) = 0; room(1, 11) = 0;"
            + " room(0, 11) = 0"},
        {"16", "Returns the number of the room.", "the first and the last one that there can be",
            Boards.oddWalls() + "room(0, 0) = 0; room(1, 2) = 1; room(0, 33) = 16; room(1, 35) = 17"},
        {"16", NO_SIDE_OR_SQUARE, "one below and one above, each of the two",
            "room(-1, 0) throws IndexOutOfBounds; room(2, 0) throws IndexOutOfBounds;"
            + " room(0, -1) throws IndexOutOfBounds; room(0, 36) throws IndexOutOfBounds; room(0, 0) = 0;"
            + " room(1, 35) = 0"},
        {"16", "Throws `NoSuchElementException` if the square is not open to the side",
            "a wall, a door of the other side, with and without a piece",
            Boards.GATE + "room(0, 12) throws NoSuchElement; room(1, 12) throws NoSuchElement;"
            + " room(1, 17) throws NoSuchElement; move(35, 34) = 0; move(11, 17) = 0;"
            + " room(1, 17) throws NoSuchElement; room(0, 17) = 0; room(1, 11) = 0"},

        {"17", "Returns a number of a room.", "each side its own rooms",
            Boards.GATE + "roomOf(0, 0, 0) = 31; roomOf(1, 0, 0) = 12; roomOf(1, 1, 0) = 18; roomOf(1, 1, 4) = 18;"
            + " roomOf(0, 1, 0) throws IndexOutOfBounds; roomOf(1, 2, 0) throws IndexOutOfBounds"},
        {"17", "Returns the number.", "the least and the greatest of each",
            "roomOf(0, 0, 0) = 36; roomOf(0, 0, 1) = 0; roomOf(0, 0, 2) = 0; roomOf(0, 0, 3) = 0;"
            + " roomOf(0, 0, 4) = 0; roomOf(0, 0, 5) = 1; " + Boards.walls(35) + "lay(0, 0, 35) = 1;"
            + " roomOf(0, 0, 0) = 1; roomOf(0, 0, 1) = 1; roomOf(1, 0, 2) = 1; roomOf(0, 0, 4) = 35;"
            + " roomOf(0, 0, 5) = 0; roomOf(1, 0, 5) = 1"},
        {"17", "0 for its squares,", "one, and all 36",
            "roomOf(0, 0, 0) = 36; wall(1) = 1; wall(6) = 2; roomOf(0, 0, 0) = 1; roomOf(0, 1, 0) = 33"},
        {"17", "1 for the pieces of the side in it, 2 for those of the other side in it,",
            "none, all, and both sides",
            Boards.GATE + "roomOf(0, 0, 1) = 1; roomOf(0, 0, 2) = 1; roomOf(1, 0, 1) = 0; roomOf(1, 0, 2) = 1;"
            + " roomOf(1, 1, 1) = 1; roomOf(1, 1, 2) = 0; move(35, 34) = 0; move(11, 17) = 0; roomOf(1, 0, 2) = 0;"
            + " roomOf(1, 1, 2) = 0; roomOf(0, 0, 1) = 1; clear() = 2; " + Boards.full(0) + "roomOf(0, 0, 1) = 36;"
            + " roomOf(1, 0, 2) = 36; roomOf(1, 0, 1) = 0; roomOf(0, 0, 2) = 0"},
        {"17", "3 for the doors in it, also those with pieces,", "none, one without a piece and with one",
            "roomOf(0, 0, 3) = 0; " + Boards.GATE + "roomOf(0, 0, 3) = 1; roomOf(1, 0, 3) = 0; roomOf(1, 1, 3) = 0;"
            + " move(35, 34) = 0; move(11, 17) = 0; roomOf(0, 0, 3) = 1; roomOf(1, 1, 3) = 0"},
        {"17", "4 for its lowest square,", "the first and the last square",
            "roomOf(0, 0, 4) = 0; " + Boards.walls(35) + "roomOf(0, 0, 4) = 35; roomOf(1, 0, 0) = 1"},
        {"17", "5 for 1 if it is sealed from the side, and 0 otherwise", "both",
            Boards.GATE + "roomOf(0, 0, 5) = 0; roomOf(1, 0, 5) = 1; roomOf(1, 1, 5) = 0"},
        {"17", "Throws `IndexOutOfBoundsException` if there is no such side or room",
            "one below and one above, and no room at all",
            "roomOf(-1, 0, 0) throws IndexOutOfBounds; roomOf(2, 0, 0) throws IndexOutOfBounds;"
            + " roomOf(0, -1, 0) throws IndexOutOfBounds; roomOf(0, 1, 0) throws IndexOutOfBounds; wall(1) = 1;"
            + " wall(6) = 2; roomOf(0, 1, 0) = 33; roomOf(0, 2, 0) throws IndexOutOfBounds; clear() = 0; "
            + Boards.oddWalls()
            + "roomOf(1, 17, 0) = 1; roomOf(1, 18, 0) throws IndexOutOfBounds; clear() = 0; " + Boards.walls(36)
            + "roomOf(0, 0, 0) throws IndexOutOfBounds; roomOf(0, -1, 0) throws IndexOutOfBounds"},
        {"17", "Throws `IllegalArgumentException` if what is not 0 to 5", "one below and one above",
            "roomOf(0, 0, -1) throws IllegalArgument; roomOf(0, 0, 6) throws IllegalArgument; roomOf(0, 0, 0) = 36;"
            + " roomOf(0, 0, 5) = 1"},

        {"18", "Returns how many squares are in rooms that are sealed from a side.", "one room, several, none",
            Boards.GATE + "sealed(0) = 0; sealed(1) = 12; clear() = 2; wall(1) = 1; wall(6) = 2; wall(4) = 3;"
            + " wall(11) = 4; lay(0, 0, 14) = 1; lay(1, 0, 0) = 1; sealed(0) = 2; sealed(1) = 31; clear() = 2;"
            + " start() = 12; sealed(0) = 0"},
        {"18", "Returns the number of squares.", "none, one, all 36, and no square at all",
            "sealed(0) = 36; sealed(1) = 36; " + Boards.walls(35) + "sealed(0) = 1; lay(0, 0, 35) = 1; sealed(0) = 0;"
            + " sealed(1) = 1; undo() = 5; wall(35) = 36; sealed(0) = 0; sealed(1) = 0"},
        {"18", NO_SIDE, "one below and one above",
            "sealed(-1) throws IndexOutOfBounds; sealed(2) throws IndexOutOfBounds"},

        {"19",
            "how many squares that are open to a side cannot be reached from its pieces by steps over squares that"
            + " are open to it.", "one room, several, none",
            Boards.GATE + "sealedAgain(0) = 0; sealedAgain(1) = 12; clear() = 2; wall(1) = 1; wall(6) = 2;"
            + " wall(4) = 3; wall(11) = 4; lay(0, 0, 14) = 1; lay(1, 0, 0) = 1; sealedAgain(0) = 2;"
            + " sealedAgain(1) = 31; clear() = 2; start() = 12; sealedAgain(0) = 0"},
        {"19",
            "how many squares that are open to a side cannot be reached from its pieces by steps over squares that"
            + " are open to it.", "the longest way there can be",
            Boards.LONGEST_WAY + "lay(0, 0, 0) = 1; sealedAgain(0) = 0; sealed(0) = 0; sealedAgain(1) = 24; undo() = 5;"
            + " lay(1, 1, 29) = 1; sealedAgain(1) = 0; sealedAgain(0) = 24; rooms(0) = 1; room(0, 0) = 0;"
            + " room(0, 29) = 0"},
        {"19", "Returns the number of squares.", "none, one, all 36, and no square at all",
            "sealedAgain(0) = 36; sealedAgain(1) = 36; " + Boards.walls(35) + "sealedAgain(0) = 1; lay(0, 0, 35) = 1;"
            + " sealedAgain(0) = 0; sealedAgain(1) = 1; undo() = 5; wall(35) = 36; sealedAgain(0) = 0;"
            + " sealedAgain(1) = 0"},
        {"19", NO_SIDE, "one below and one above",
            "sealedAgain(-1) throws IndexOutOfBounds; sealedAgain(2) throws IndexOutOfBounds"},

        {"20",
            "Returns the fewest steps to neighbours over squares that are open to a side, pieces or not, by which one"
            + " comes from a piece of it to a square.", "over pieces, from the nearest, through its doors alone",
            Boards.GATE + "steps(0, 35) = 4; steps(0, 17) = 1; steps(0, 23) = 2; steps(0, 30) = 9; steps(1, 23) = 2;"
            + " steps(1, 18) = 7; clear() = 2; " + Boards.runners(1, 0, 6, 0) + "lay(0, 0, 7) = 1; steps(0, 0) = 2;"
            + " steps(0, 1) = 1; steps(1, 35) = 5; steps(1, 30) = 5; steps(1, 7) = 1"},
        {"20", "Returns the number of steps.", "none, one, across the board, and the longest way there can be",
            "lay(0, 0, 0) = 1; steps(0, 0) = 0; steps(0, 1) = 1; steps(0, 35) = 10; clear() = 1; "
            + Boards.LONGEST_WAY + "lay(1, 0, 0) = 1; steps(1, 29) = 23; steps(1, 35) = 22; steps(1, 17) = 7;"
            + " steps(1, 12) = 14; steps(1, 23) throws NoSuchElement"},
        {"20", NO_SIDE_OR_SQUARE, "one below and one above, each of the two",
            "lay(0, 0, 0) = 1; steps(-1, 0) throws IndexOutOfBounds; steps(2, 0) throws IndexOutOfBounds;"
            + " steps(0, -1) throws IndexOutOfBounds; steps(0, 36) throws IndexOutOfBounds"},
        {"20", "Throws `NoSuchElementException` if the square is not open to the side, or cannot be reached",
            "a wall, a door of the other side, a sealed room, a side without pieces",
            "steps(0, 0) throws NoSuchElement; " + Boards.GATE + "steps(0, 12) throws NoSuchElement;"
            + " steps(1, 17) throws NoSuchElement; steps(1, 11) throws NoSuchElement;"
            + " steps(1, 0) throws NoSuchElement; steps(0, 11) = 0; steps(1, 35) = 0"},

        {"21", "their number divided by that of the squares that are open to it, both converted to double.",
            "of the squares that are open to this side",
            Boards.GATE + "sealedShare(1) = 12/30; sealedShare(0) = 0/31; clear() = 2; wall(1) = 1; wall(6) = 2;"
            + " wall(7) = 3; lay(0, 0, 0) = 1; lay(1, 0, 35) = 1; sealedShare(0) = 32/33; sealedShare(1) = 1/33"},
        {"21", "Returns the share.", "nought and one",
            "sealedShare(0) = 1.0; sealedShare(1) = 1.0; lay(0, 0, 0) = 1; sealedShare(0) = 0.0;"
            + " sealedShare(1) = 1.0; clear() = 1; " + Boards.walls(35) + "sealedShare(0) = 1.0; lay(1, 0, 35) = 1;"
            + " sealedShare(1) = 0.0"},
        {"21", NO_SIDE, "one below and one above",
            "sealedShare(-1) throws IndexOutOfBounds; sealedShare(2) throws IndexOutOfBounds"},
        {"21", "Throws `ArithmeticException` if no square is open to it",
            "a board full of walls, and one square less",
            Boards.walls(35) + "sealedShare(0) = 1.0; wall(35) = 36; sealedShare(0) throws Arithmetic;"
            + " sealedShare(1) throws Arithmetic; undo() = 5; sealedShare(1) = 1.0"},

        {"22", "Appends a character to the input.", "in their order, and it is no change",
            "append('a') = 1; append('1') = 2; append('-') = 3; append('a') = 4; append('2') = 5; account(10) = 0;"
            + " read() refused 2 0"},
        {"22", "the character, with a code from 32 to 126", "the first and the last one",
            "append(32) = 1; append(126) = 2; append(33) = 3; append(125) = 4; account(9) = 4; read() malformed 0"},
        {"22", "Returns the new length of the input.", "from one to 60", lengths()},
        {"22", "Throws `IllegalArgumentException` if the character code is out of range",
            "one below, one above, the ends",
            "append(31) throws IllegalArgument; append(127) throws IllegalArgument; append(0) throws IllegalArgument;"
            + " append(255) throws IllegalArgument; append(65535) throws IllegalArgument;"
            + " append(10) throws IllegalArgument; append(353) throws IllegalArgument; account(9) = 0"},
        {"22", "Throws `IllegalStateException` if the input has 60 characters",
            "at 59 not yet, and after a read no longer",
            "text(\"" + "x".repeat(59) + "\") = 59; append('x') = 60; append('x') throws IllegalState;"
            + " append('a') throws IllegalState; account(9) = 60; read() malformed 0; append('x') = 1"},

        {"23", "Takes the turns that the text in the input tells, one after the other,", "a move, a door, a piece",
            "lay(0, 1, 14) = 1; lay(0, 0, 20) = 2; lay(0, 0, 35) = 3; lay(1, 0, 13) = 1; lay(1, 1, 3) = 2;"
            + " wall(12) = 1; text(\"f6-e6;d1-d3;*c3;+a3\") = 19; read() = 4; picture(34) = U; picture(15) = i;"
            + " picture(14) = I; picture(12) = ); account(6) = 4; account(4) = 0; account(5) = 2"},
        {"23", "or none of them.", "the first, the second, the last one is refused",
            "start() = 12; text(\"a1-a3;a6-a5\") = 11; read() refused 3 12; text(\"a1-a2;a6-a4;b1-b2\") = 17;"
            + " read() refused 3 18; account(6) = 0; picture(0) = U; text(\"a1-a2;a6-a5;b1-b6\") = 17;"
            + " read() refused 3 31; account(6) = 0; account(7) = 0; account(10) = 1; picture(0) = U; picture(6) = .;"
            + " picture(30) = u"},
        {"23", "The input is empty afterwards, whatever happens.", "empty, malformed, refused, taken",
            "read() malformed 0; account(9) = 0; text(\"a1-\") = 3; read() malformed 3; account(9) = 0;"
            + " text(\"a1-a2\") = 5; read() refused 2 0; account(9) = 0; start() = 12; text(\"a1-a2\") = 5;"
            + " read() = 1; account(9) = 0; read() malformed 0; text(\"" + "x".repeat(60) + "\") = 60;"
            + " read() malformed 0; account(9) = 0"},
        {"23", "It is one change.", "whether it takes one turn or ten",
            "lay(0, 0, 0) = 1; lay(1, 0, 35) = 1; text(\"a1-a2\") = 5; read() = 1; account(10) = 3;"
            + " text(\"f6-f5;a2-a1;f5-f6;a1-a2;f6-f5;a2-a1;f5-f6;a1-a2;f6-f5;a2-a1\") = 59; read() = 10;"
            + " account(10) = 4; account(6) = 11; undo() = 3; account(6) = 1; undo() = 2; account(6) = 0;"
            + " picture(0) = U"},
        {"23", "Returns the number of turns.", "one, two, ten",
            "start() = 12; text(\"a1-a2\") = 5; read() = 1; text(\"a6-a5;a2-a1\") = 11; read() = 2;"
            + " text(\"a5-a6;a1-a2;a6-a5;a2-a1;a5-a6;a1-a2;a6-a5;a2-a1;a5-a6;a1-a2\") = 59; read() = 10;"
            + " account(6) = 13"},
        {"23",
            "Throws `IllegalArgumentException` if the input is malformed;"
            + " the error position is then kept for errorPosition",
            "empty, too short, too long, and nothing is taken of it",
            "start() = 12; read() malformed 0; text(\"a1-a2;a\") = 7; read() malformed 7; text(\"a1-a2a\") = 6;"
            + " read() malformed 5; account(6) = 0; account(10) = 1; reason(false) throws NoSuchElement"},
        {"23",
            "Throws `UnsupportedOperationException` if a turn is refused behind those ahead of it;"
            + " the reason is then kept",
            "one that could be taken first, and one that is only refused first",
            "start() = 12; text(\"a6-a5;a1-a2\") = 11; read() refused 2 30; text(\"a1-a2;a1-a2\") = 11;"
            + " read() refused 2 0; text(\"a1-a2;a6-a5;a2-a3\") = 17; read() = 3; account(6) = 3"},
        {"23",
            "Throws `UnsupportedOperationException` if a turn is refused behind those ahead of it;"
            + " the reason is then kept",
            "behind the end, with the turns of the text counted",
            "lay(0, 0, 0) = 1; text(\"a1-a2;a2-a1\") = 11; read() refused 1 1; account(8) = 0; account(6) = 0;"
            + " text(\"a1-a2\") = 5; read() = 1; account(8) = 1; text(\"a2-a1\") = 5; read() refused 1 1;"
            + " clear() = 1; "
            + Boards.SIXTY_TURNS + "undo() = 5; undo() = 4; text(\"a2-a1;e6-f6;a1-a2\") = 17; account(6) = 58;"
            + " read() refused 1 60; account(6) = 58; text(\"a2-a1;e6-f6\") = 11; read() = 2; account(8) = 3"},
        {"23",
            "Throws `UnsupportedOperationException` if a turn is refused behind those ahead of it;"
            + " the reason is then kept",
            "the coins that the turns ahead of it have left",
            "lay(0, 0, 0) = 1; lay(1, 0, 35) = 1; wall(1) = 1; wall(6) = 2; text(\"+b1;f6-f5;+a2\") = 13;"
            + " read() refused 8 3; account(4) = 3; text(\"+b1;f6-f5;b1-c1\") = 15; read() refused 2 1;"
            + " text(\"+b1;f6-f5;a1-b1;*a2\") = 19; read() refused 5 6; account(10) = 4"},

        {"24",
            "Returns the error position that was kept last; it stays until the next text that is malformed is read.",
            "over texts that are taken or refused, and all else",
            "text(\"a1-\") = 3; read() malformed 3; start() = 12; text(\"a1-a2\") = 5; errorPosition() = 3;"
            + " read() = 1; errorPosition() = 3; text(\"a1-a2\") = 5; read() refused 2 0; errorPosition() = 3;"
            + " undo() = 1; save() = 12; restore() = 12; clear() = 12; errorPosition() = 3; errorPosition() = 3;"
            + " read() malformed 0; errorPosition() = 0"},
        {"24", "Returns the error position.", "nought and 60",
            "text(\"x\") = 1; read() malformed 0; text(\"" + "+a1;".repeat(15) + "\") = 60; read() malformed 60;"
            + " text(\"" + "a1-a2;".repeat(10) + "\") = 60; read() malformed 60"},
        {"24", "Throws `NoSuchElementException` if none was kept", "also after texts that are no malformed ones",
            "errorPosition() throws NoSuchElement; text(\"a1-a2\") = 5; errorPosition() throws NoSuchElement;"
            + " read() refused 2 0; errorPosition() throws NoSuchElement; start() = 12; text(\"a1-a2\") = 5;"
            + " read() = 1; errorPosition() throws NoSuchElement"},

        {"25", "Returns the reason that was kept last, or its detail.", "over turns that are taken, and all else",
            "start() = 12; move(0, 12) refused 3 12; move(0, 6) = 0; reason(false) = 3; reason(true) = 12;"
            + " undo() = 1; reason(true) = 12; save() = 12; restore() = 12; clear() = 12; reason(false) = 3;"
            + " read() malformed 0; reason(false) = 3; buy(35) refused 4 35; reason(false) = 4; reason(false) = 4;"
            + " reason(true) = 35"},
        {"25", "Returns the reason or the detail.", "the detail can be nought, and the greatest one is 60",
            "door(0) refused 4 0; " + Boards.SIXTY_TURNS + "move(0, 1) refused 1 60; reason(true) = 60;"
            + " reason(false) = 1"},
        {"25", "Throws `NoSuchElementException` if none was kept", "also after other exceptions and questions",
            "reason(false) throws NoSuchElement; reason(true) throws NoSuchElement; lay(0, 0, 0) = 1;"
            + " move(0, 36) throws IndexOutOfBounds; door(36) throws IndexOutOfBounds;"
            + " buy(-1) throws IndexOutOfBounds; lay(0, 0, 0) throws IllegalState; canMove(0, 7) = false;"
            + " captures(0, 7) throws NoSuchElement; worth(0, 7) throws NoSuchElement; read() malformed 0;"
            + " move(0, 1) = 0; reason(false) throws NoSuchElement; reason(true) throws NoSuchElement"},

        {"26", "Returns a character of the board as a picture: row after row from row 0 on, each from column 0 on.",
            "the first and the last one of the first and the last row",
            "lay(0, 0, 0) = 1; lay(0, 1, 5) = 2; lay(0, 2, 30) = 3; lay(0, 3, 35) = 4; wall(6) = 1; wall(29) = 2;"
            + " picture(0) = U; picture(5) = I; picture(6) = #; picture(29) = #; picture(30) = W; picture(35) = K;"
            + " picture(1) = .; picture(34) = ."},
        {"26", "A piece is U, I, W or K, in this order of the kinds, for side 0, and the small letter for side 1;",
            "each kind of each side",
            "lay(0, 0, 0) = 1; lay(0, 1, 1) = 2; lay(0, 2, 2) = 3; lay(0, 3, 3) = 4; lay(1, 0, 30) = 1;"
            + " lay(1, 1, 31) = 2; lay(1, 2, 32) = 3; lay(1, 3, 33) = 4; picture(0) = U; picture(1) = I;"
            + " picture(2) = W; picture(3) = K; picture(30) = u; picture(31) = i; picture(32) = w; picture(33) = k"},
        {"26", "a wall is #, a door without a piece is ( for side 0 and ) for side 1, and nothing is a full stop.",
            "also a wall that remembers, and a door with a piece",
            "wall(1) = 1; wall(34) = 2; lay(0, 0, 0) = 1; lay(1, 0, 35) = 1; picture(1) = #; picture(2) = .;"
            + " door(1) = 0; door(34) = 0; picture(1) = (; picture(34) = ); move(0, 1) = 0; move(35, 34) = 0;"
            + " picture(1) = U; picture(34) = u; picture(0) = .; clear() = 2; " + Boards.LOST_RUNNER
            + "picture(14) = #"},
        {"26", "Returns the character.", "a full board of walls, of pieces",
            Boards.walls(36) + "picture(0) = #; picture(35) = #; clear() = 0; " + Boards.full(1) + "picture(0) = u;"
            + " picture(35) = u"},
        {"26", "Throws `IndexOutOfBoundsException` if there is no such index", "one below and one above",
            "picture(-1) throws IndexOutOfBounds; picture(36) throws IndexOutOfBounds; picture(0) = .;"
            + " picture(35) = ."},

        {"27", "Returns an account.", "the first and the last one",
            "lay(0, 0, 0) = 1; account(0) = 1; account(10) = 1; account(1) = 0; account(9) = 0"},
        {"27", "0 for the pieces of side 0, 1 for those of side 1, 2 for the walls,", "none and 36 of each",
            "account(0) = 0; account(1) = 0; account(2) = 0; " + Boards.full(0) + "account(0) = 36; account(1) = 0;"
            + " clear() = 36; "
            + Boards.full(1) + "account(0) = 0; account(1) = 36; clear() = 36; " + Boards.walls(36)
            + "account(2) = 36; account(1) = 0"},
        {"27", "3 for the doors, also those with pieces,", "none, one of a side, one of each, with a piece",
            "wall(1) = 1; wall(34) = 2; lay(0, 0, 0) = 1; lay(1, 0, 35) = 1; account(3) = 0; door(1) = 0;"
            + " account(3) = 1; door(34) = 0; account(3) = 2; move(0, 1) = 0; account(3) = 2; account(2) = 0"},
        {"27", "4 and 5 for the coins of side 0 and of side 1,", "each its own, from none to nine",
            "account(4) = 3; account(5) = 3; wall(1) = 1; lay(0, 0, 0) = 1; lay(1, 0, 35) = 1; door(1) = 0;"
            + " account(4) = 0; account(5) = 3; clear() = 2; " + Boards.LOST_RUNNER + "account(4) = 3;"
            + " account(5) = 5; clear() = 4; lay(0, 0, 20) = 1; lay(0, 0, 12) = 2; lay(0, 0, 16) = 3;"
            + " lay(0, 0, 2) = 4; lay(1, 0, 35) = 1; lay(1, 0, 13) = 2; lay(1, 0, 15) = 3; lay(1, 0, 8) = 4;"
            + " move(20, 14) = 3; account(4) = 9; account(5) = 3"},
        {"27", "6 for the turns that were taken, 7 for the side whose turn it is,", "from none to 60",
            "account(6) = 0; account(7) = 0; " + Boards.SIXTY_TURNS + "account(6) = 60; account(7) = 0; undo() = 5;"
            + " account(6) = 59; account(7) = 1; clear() = 2; account(6) = 0; account(7) = 0"},
        {"27", "8 for 0 if the game is not over, 1 or 2 if side 0 or side 1 has won, and 3 for a draw,",
            "all of them",
            "account(8) = 0; lay(0, 0, 0) = 1; account(8) = 0; move(0, 1) = 0; account(8) = 1; clear() = 1;"
            + " lay(0, 0, 6) = 1; wall(1) = 1; lay(1, 0, 12) = 1; move(6, 0) = 0; account(8) = 0; move(12, 6) = 0;"
            + " account(8) = 2; clear() = 2; "
            + Boards.SIXTY_TURNS + "account(8) = 3; undo() = 5; account(8) = 0"},
        {"27", "9 for the characters of the input,", "none, one, 60",
            "account(9) = 0; append('x') = 1; account(9) = 1; append(31) throws IllegalArgument; account(9) = 1;"
            + " text(\"" + "x".repeat(59) + "\") = 60; account(9) = 60; clear() = 0; account(9) = 60;"
            + " read() malformed 0; account(9) = 0"},
        {"27", "10 for the changes that can be undone", "from none to six",
            "account(10) = 0; clear() = 0; account(10) = 1; clear() = 0; clear() = 0; clear() = 0; clear() = 0;"
            + " account(10) = 5; clear() = 0; account(10) = 6; clear() = 0; account(10) = 6; undo() = 5;"
            + " account(10) = 5"},
        {"27", "Throws `IllegalArgumentException` if account is not 0 to 10", "one below and one above",
            "account(-1) throws IllegalArgument; account(11) throws IllegalArgument; account(0) = 0;"
            + " account(10) = 0"},
        {"27", "Returns the account.", "asking changes none",
            "start() = 12; account(6) = 0; account(6) = 0; account(10) = 1; account(10) = 1"},

        {"28", "Undoes the latest change that is remembered.", "the latest first, and one after another",
            "lay(0, 0, 0) = 1; wall(1) = 1; lay(1, 0, 35) = 1; door(1) = 0; undo() = 3; picture(1) = #;"
            + " account(4) = 3; account(6) = 0; undo() = 2; account(1) = 0; undo() = 1; account(2) = 0;"
            + " account(0) = 1; undo() = 0; account(0) = 0"},
        {"28", "Undoes the latest change that is remembered.", "a change behind an undo takes its place",
            "lay(0, 0, 0) = 1; lay(0, 0, 1) = 2; undo() = 1; lay(0, 0, 2) = 2; account(10) = 2; undo() = 1;"
            + " picture(1) = .; picture(2) = .; undo() = 0; picture(0) = ."},
        {"28", "Returns the number of changes that are still remembered.", "from five to none",
            "clear() = 0; clear() = 0; clear() = 0; clear() = 0; clear() = 0; clear() = 0; clear() = 0; undo() = 5;"
            + " undo() = 4; undo() = 3; undo() = 2; undo() = 1; undo() = 0"},
        {"28", "Throws `NoSuchElementException` if no change is remembered",
            "at first, after as many undos, after restore",
            "undo() throws NoSuchElement; clear() = 0; undo() = 0; undo() throws NoSuchElement; save() = 0;"
            + " undo() throws NoSuchElement; lay(0, 0, 0) = 1; restore() = 0; undo() throws NoSuchElement;"
            + " account(0) = 0"},

        {"29", "Saves all that the history remembers for a change.", "the board, the coins, the turns and the end",
            "wall(1) = 1; lay(0, 0, 0) = 1; door(1) = 0; account(8) = 1; save() = 1; start() = 12; restore() = 1;"
            + " picture(1) = (; account(4) = 0; account(6) = 1; account(7) = 1; account(8) = 1; clear() = 1; "
            + Boards.LOST_RUNNER
            + "save() = 4; buy(14) = 1; move(13, 12) = 0; restore() = 4; square(14, 1) = 0; square(14, 2) = 0;"
            + " account(4) = 3; account(5) = 5; account(6) = 2"},
        {"29", "Saves all that the history remembers for a change.", "neither reason, nor error position, nor input",
            "start() = 12; text(\"ab\") = 2; save() = 12; append('c') = 3; move(0, 12) refused 3 12; restore() = 12;"
            + " account(9) = 3; reason(true) = 12; read() malformed 1; restore() = 12; account(9) = 0;"
            + " errorPosition() = 1"},
        {"29", "What was saved before is replaced.", "an empty board by a full one, and again",
            "save() = 0; start() = 12; restore() = 0; start() = 12; save() = 12; clear() = 12; restore() = 12;"
            + " clear() = 12; save() = 0; start() = 12; restore() = 0; account(0) = 0"},
        {"29", "Returns the number of pieces.", "none, one, twelve, 36",
            "save() = 0; lay(1, 0, 0) = 1; save() = 1; start() = 12; save() = 12; clear() = 12; " + Boards.full(0)
            + "save() = 36; clear() = 36; restore() = 36; account(0) = 36"},

        {"30", "Restores what was saved. It stays saved.", "again and again, whatever happened in between",
            "lay(0, 0, 0) = 1; lay(1, 0, 35) = 1; save() = 2; move(0, 1) = 0; restore() = 2; picture(0) = U;"
            + " account(6) = 0; move(0, 6) = 0; restore() = 2; picture(0) = U; picture(6) = .; clear() = 2;"
            + " undo() = 0; clear() = 2; restore() = 2; restore() = 2; account(0) = 1; account(10) = 0;"
            + " lay(0, 0, 20) = 2; undo() = 0; account(0) = 1"},
        {"30", "Returns the number of pieces.", "none and twelve",
            "save() = 0; start() = 12; restore() = 0; start() = 12; save() = 12; clear() = 12; restore() = 12"},
        {"30", "Throws `IllegalStateException` if nothing was saved", "and no change is forgotten by that",
            "restore() throws IllegalState; start() = 12; move(0, 6) = 0; restore() throws IllegalState;"
            + " account(10) = 2; account(6) = 1; undo() = 1; account(6) = 0; save() = 12; restore() = 12"},
    };

    private PromiseSentences() {
    }

    private static String lengths() {
        StringBuilder calls = new StringBuilder();
        for (int length = 1; length <= 60; length++) {
            calls.append("append('a') = ").append(length).append("; ");
        }
        return calls.append("append('a') throws IllegalState").toString();
    }
}
