/**
 * The sentences of the document's terms, each with the cases at its edges: the words that are
 * quoted, what the run shows of them, and its calls. What no run of calls can reach is left out:
 * a keeper's price, and reason 7 (who captures a keeper ends the game).
 */
final class TermSentences {

    private static final String NEIGHBOURS = "Two squares are neighbours if they are in one row and in columns next"
            + " to each other, or in one column and in rows next to each other.";
    private static final String IN_THE_WAY = "All squares to which and over which a piece moves have to be open to"
            + " its side and without pieces.";
    private static final String CAPTURED = "each piece of the other side on a neighbour of its square is captured if,"
            + " on the other side of that neighbour in the same direction, there is a square with another piece of"
            + " the mover.";
    private static final String TURNED_TO_WALL = "A piece that is captured turns to a wall, which remembers it, its"
            + " side and its kind;";
    private static final String ENDED = "When a turn was taken, the game is over, and the side that took it has won,";
    private static final String ENDED_WITHOUT_MOVE = "or if the other side has no move now;";
    private static final String TEXT = "A text consists of one or several turns with a semicolon between two of"
            + " them.";
    private static final String TURN = "A turn is a square, \"-\" and a square for a move, \"+\" and a square to buy"
            + " a door, or \"*\" and a square to buy back a piece; a square is its column and its row.";
    private static final String CHANGE = "A change is a call of start, clear, lay, wall, move, door, buy or read that"
            + " returns without an exception.";
    private static final String FIRST_DOCUMENTED = "If several exceptions apply, the one that is documented first is"
            + " thrown.";

    static final String[][] RUNS = {
        {"An object is used for at most 512 calls after it has been made", "the 512th call still answers",
            Script.repeat(500, "clear() = 0; ") + "lay(0, 0, 0) = 1; wall(1) = 1; lay(1, 0, 35) = 1; door(1) = 0;"
            + " move(35, 34) = 0; move(0, 1) = 0; save() = 2; undo() = 5; picture(0) = U; restore() = 2;"
            + " picture(1) = U; account(10) = 0"},

        // ---- the board

        {"All numbers are integers but one.", "the share is that one",
            "wall(1) = 1; wall(6) = 2; lay(0, 0, 0) = 1; sealed(0) = 33; sealedShare(0) = 33/34"},
        {"The squares are numbered from 0 to 35, as six rows of six columns:", "none below and none above",
            "square(0, 0) = 0; square(35, 0) = 0; square(-1, 0) throws IndexOutOfBounds;"
            + " square(36, 0) throws IndexOutOfBounds; wall(35) = 1; wall(0) = 2; square(0, 0) = 2;"
            + " square(35, 0) = 2"},
        {"square 0 is row 0 and column 0, square 1 is row 0 and column 1.",
            "the first squares and the last one in a text",
            "lay(0, 0, 0) = 1; lay(1, 0, 35) = 1; text(\"a1-b1;f6-f5;b1-b2\") = 17; read() = 3; picture(7) = U;"
            + " picture(29) = u; picture(0) = .; picture(1) = .; picture(35) = ."},
        {"In texts a column is a letter from a to f,", "all six columns",
            "lay(0, 1, 0) = 1; lay(1, 0, 35) = 1;"
            + " text(\"a1-b1;f6-f5;b1-c1;f5-f6;c1-d1;f6-f5;d1-e1;f5-f6;e1-f1\") = 53; read() = 9; picture(5) = I"},
        {"and a row a digit from 1 to 6.", "all six rows",
            "lay(0, 1, 0) = 1; lay(1, 0, 35) = 1;"
            + " text(\"a1-a2;f6-e6;a2-a3;e6-f6;a3-a4;f6-e6;a4-a5;e6-f6;a5-a6\") = 53; read() = 9; picture(30) = I"},
        {"In texts a column is a letter from a to f,", "the signs ahead of a and behind f, in each place",
            "text(\"`1-a2\") = 5; read() malformed 0; text(\"g1-a2\") = 5; read() malformed 0; text(\"a1-`2\") = 5;"
            + " read() malformed 3; text(\"a1-g2\") = 5; read() malformed 3; text(\"+`1\") = 3; read() malformed 1;"
            + " text(\"+g1\") = 3; read() malformed 1; text(\"*`1\") = 3; read() malformed 1; text(\"*g1\") = 3;"
            + " read() malformed 1; text(\"A1-a2\") = 5; read() malformed 0; text(\"a1-F2\") = 5;"
            + " read() malformed 3"},
        {"and a row a digit from 1 to 6.", "the signs ahead of 1 and behind 6, in each place",
            "text(\"a0-a2\") = 5; read() malformed 1; text(\"a7-a2\") = 5; read() malformed 1; text(\"a1-a0\") = 5;"
            + " read() malformed 4; text(\"a1-a7\") = 5; read() malformed 4; text(\"+a0\") = 3; read() malformed 2;"
            + " text(\"+a7\") = 3; read() malformed 2; text(\"*a0\") = 3; read() malformed 2; text(\"*a7\") = 3;"
            + " read() malformed 2; text(\"a10\") = 3; read() malformed 2"},
        {NEIGHBOURS, "steps do not go over the edges of the board",
            "lay(0, 0, 5) = 1; canMove(5, 4) = true; canMove(5, 11) = true; canMove(5, 6) = false;"
            + " canMove(5, 35) = false; moves(5) = 2; clear() = 1; lay(0, 3, 6) = 1; canMove(6, 0) = true;"
            + " canMove(6, 7) = true; canMove(6, 12) = true; canMove(6, 5) = false; moves(6) = 3; clear() = 1;"
            + " lay(1, 0, 30) = 1; canMove(30, 29) = false; canMove(30, 0) = false; canMove(30, 35) = false;"
            + " moves(30) = 2; clear() = 1; lay(1, 3, 35) = 1; canMove(35, 30) = false; canMove(35, 5) = false;"
            + " moves(35) = 2; clear() = 1; lay(1, 0, 0) = 1; canMove(0, 5) = false; canMove(0, 30) = false;"
            + " moves(0) = 2; clear() = 1; lay(0, 0, 14) = 1; moves(14) = 4"},
        {NEIGHBOURS, "a rider and a walker do not go on in the next row",
            "lay(0, 1, 4) = 1; canMove(4, 5) = true; canMove(4, 6) = false; canMove(4, 7) = false;"
            + " canMove(4, 0) = true; moves(4) = 10; clear() = 1; lay(0, 1, 6) = 1; canMove(6, 5) = false;"
            + " canMove(6, 11) = true; canMove(6, 12) = true; moves(6) = 10; clear() = 1; lay(0, 2, 5) = 1;"
            + " canMove(5, 6) = false; canMove(5, 7) = false; canMove(5, 2) = true; canMove(5, 23) = true;"
            + " moves(5) = 9; clear() = 1; lay(0, 2, 6) = 1; canMove(6, 5) = false; canMove(6, 4) = false;"
            + " moves(6) = 12; clear() = 1; lay(0, 2, 35) = 1; moves(35) = 9; clear() = 1; lay(0, 1, 33) = 1;"
            + " canMove(33, 3) = true; moves(33) = 10"},
        {NEIGHBOURS, "nothing is captured round the end of a row",
            "lay(0, 0, 3) = 1; lay(1, 0, 5) = 1; lay(0, 0, 6) = 2; captures(3, 4) = 0; clear() = 3;"
            + " lay(0, 0, 11) = 1; lay(1, 0, 6) = 1; lay(0, 0, 7) = 2; captures(11, 5) = 0; clear() = 3;"
            + " lay(0, 0, 12) = 1; lay(1, 0, 5) = 1; lay(0, 0, 4) = 2; captures(12, 6) = 0; clear() = 3;"
            + " lay(0, 0, 8) = 1; lay(1, 0, 6) = 1; lay(0, 0, 5) = 2; captures(8, 7) = 0; lay(1, 0, 35) = 2;"
            + " move(8, 7) = 0; picture(6) = u"},
        {NEIGHBOURS, "nothing is captured at the edge of the board",
            "lay(0, 0, 2) = 1; lay(1, 0, 0) = 1; lay(0, 0, 35) = 2; lay(0, 0, 30) = 3; captures(2, 1) = 0;"
            + " clear() = 4; lay(0, 0, 12) = 1; lay(1, 0, 0) = 1; lay(0, 0, 30) = 2; captures(12, 6) = 0;"
            + " clear() = 3; lay(0, 0, 18) = 1; lay(1, 0, 30) = 1; lay(0, 0, 0) = 2; captures(18, 24) = 0;"
            + " clear() = 3; lay(0, 0, 33) = 1; lay(1, 0, 35) = 1; lay(0, 0, 0) = 2; lay(0, 0, 30) = 3;"
            + " captures(33, 34) = 0"},
        {NEIGHBOURS, "no door round the edges of the board",
            "wall(6) = 1; wall(24) = 2; lay(0, 0, 5) = 1; lay(0, 0, 23) = 2; lay(1, 0, 35) = 1; door(6) refused 6 6;"
            + " door(24) refused 6 24; clear() = 3; wall(30) = 1; wall(5) = 2; lay(0, 0, 0) = 1; lay(0, 0, 35) = 2;"
            + " lay(1, 0, 14) = 1; door(30) refused 6 30; door(5) refused 6 5; clear() = 3; wall(0) = 1;"
            + " wall(11) = 2; lay(0, 0, 5) = 1; lay(0, 0, 12) = 2; lay(0, 0, 30) = 3; door(0) refused 6 0;"
            + " door(11) = 0"},
        {NEIGHBOURS, "no piece is bought back round the end of a row",
            "lay(0, 0, 12) = 1; lay(0, 0, 1) = 2; lay(1, 0, 6) = 1; lay(1, 0, 5) = 2; lay(1, 0, 35) = 3;"
            + " move(1, 0) = 1; buy(6) refused 6 6; square(6, 1) = 1"},
        {NEIGHBOURS, "rooms and steps do not go round the end of a row",
            "wall(4) = 1; wall(11) = 2; lay(0, 0, 5) = 1; room(0, 5) = 1; room(0, 6) = 0; rooms(0) = 2;"
            + " steps(0, 6) throws NoSuchElement; sealed(0) = 33; sealedAgain(0) = 33; clear() = 1; lay(0, 0, 5) = 1;"
            + " steps(0, 6) = 6; steps(0, 30) = 10; steps(0, 35) = 5; steps(0, 0) = 5"},
        {"On a square there is nothing, a piece, a wall, or a door; a piece can also stand in a door.",
            "each of them",
            "wall(1) = 1; lay(0, 0, 0) = 1; lay(1, 0, 35) = 1; square(2, 0) = 0; square(0, 0) = 1; square(1, 0) = 2;"
            + " door(1) = 0; square(1, 0) = 3; square(1, 3) = 1; move(35, 34) = 0; move(0, 1) = 0; square(1, 0) = 1;"
            + " square(1, 3) = 1; square(1, 1) = 0; square(1, 2) = 0; picture(1) = U; move(34, 35) = 0;"
            + " move(1, 2) = 0; square(1, 0) = 3; square(1, 3) = 1; square(2, 3) = 0; picture(1) = ("},

        // ---- pieces

        {"There are the sides 0 and 1.", "none below and none above",
            "lay(-1, 0, 0) throws IndexOutOfBounds; lay(2, 0, 0) throws IndexOutOfBounds; lay(0, 0, 0) = 1;"
            + " lay(1, 0, 1) = 1; rooms(-1) throws IndexOutOfBounds; rooms(2) throws IndexOutOfBounds; rooms(0) = 1;"
            + " rooms(1) = 1"},
        {"A piece belongs to a side and is of one of these kinds: 0, a runner; 1, a rider; 2, a walker; 3, a keeper.",
            "none below and none above",
            "lay(0, -1, 0) throws IllegalArgument; lay(0, 4, 0) throws IllegalArgument; lay(0, 0, 0) = 1;"
            + " lay(0, 1, 1) = 2; lay(0, 2, 2) = 3; lay(0, 3, 3) = 4; picture(0) = U; picture(1) = I; picture(2) = W;"
            + " picture(3) = K; lay(1, 0, 30) = 1; lay(1, 3, 33) = 2; square(30, 1) = 1; square(33, 2) = 3"},
        {"A side has at most one keeper on the board.", "a second one of each side, and one after clearing",
            "lay(0, 3, 0) = 1; lay(0, 3, 1) throws IllegalState; lay(1, 3, 1) = 1; lay(1, 3, 2) throws IllegalState;"
            + " account(0) = 1; account(1) = 1; clear() = 2; lay(0, 3, 1) = 1; lay(0, 3, 0) throws IllegalState;"
            + " start() = 12; lay(0, 3, 14) throws IllegalState; lay(1, 3, 14) throws IllegalState;"
            + " lay(0, 2, 14) = 7"},
        {"A door belongs to a side.", "a door of each side",
            "wall(1) = 1; wall(34) = 2; lay(0, 0, 0) = 1; lay(1, 0, 35) = 1; door(1) = 0; door(34) = 0;"
            + " square(1, 1) = 0; square(34, 1) = 1; picture(1) = (; picture(34) = ); account(3) = 2"},
        {"A square is open to a side if there is no wall on it and no door of the other side.",
            "a wall, a door, a piece of the other side",
            "wall(1) = 1; lay(0, 0, 0) = 1; lay(1, 0, 35) = 1; room(0, 1) throws NoSuchElement;"
            + " room(1, 1) throws NoSuchElement; door(1) = 0; room(0, 1) = 0; room(1, 1) throws NoSuchElement;"
            + " room(0, 35) = 0; room(1, 0) = 0; roomOf(0, 0, 0) = 36; roomOf(1, 0, 0) = 35; move(35, 34) = 0;"
            + " move(0, 1) = 0; room(0, 1) = 0; room(1, 1) throws NoSuchElement"},
        {"A square is open to a side if there is no wall on it and no door of the other side.",
            "a door of side 1",
            "wall(34) = 1; lay(0, 1, 30) = 1; lay(0, 0, 0) = 2; lay(1, 0, 35) = 1; move(0, 1) = 0; door(34) = 0;"
            + " room(0, 34) throws NoSuchElement; room(1, 34) = 0; roomOf(0, 0, 0) = 35; roomOf(1, 0, 0) = 36;"
            + " steps(0, 34) throws NoSuchElement; steps(1, 34) = 1; canMove(30, 33) = true; canMove(30, 34) = false;"
            + " canMove(35, 34) = true; move(30, 34) refused 3 34"},
        {"A square is open to a side if there is no wall on it and no door of the other side.",
            "a wall is shut to the side that it remembers, too",
            Boards.LOST_RUNNER + "room(0, 14) throws NoSuchElement; room(1, 14) throws NoSuchElement;"
            + " steps(0, 14) throws NoSuchElement; canMove(20, 14) = false"},
        {"A runner and a keeper move to a neighbour of their square,",
            "not to their own, one across a corner, or two steps",
            "lay(0, 0, 14) = 1; canMove(14, 14) = false; canMove(14, 8) = true; canMove(14, 13) = true;"
            + " canMove(14, 15) = true; canMove(14, 20) = true; canMove(14, 7) = false; canMove(14, 9) = false;"
            + " canMove(14, 19) = false; canMove(14, 21) = false; canMove(14, 2) = false; canMove(14, 12) = false;"
            + " canMove(14, 16) = false; canMove(14, 26) = false; moves(14) = 4; clear() = 1; lay(1, 3, 21) = 1;"
            + " canMove(21, 21) = false; canMove(21, 15) = true; canMove(21, 20) = true; canMove(21, 22) = true;"
            + " canMove(21, 27) = true; canMove(21, 14) = false; canMove(21, 9) = false; canMove(21, 33) = false;"
            + " moves(21) = 4"},
        {"a rider moves along its row or its column by one or more squares,",
            "from one square to five, and not to its own",
            "lay(0, 1, 0) = 1; canMove(0, 0) = false; canMove(0, 1) = true; canMove(0, 5) = true;"
            + " canMove(0, 6) = true; canMove(0, 30) = true; canMove(0, 7) = false; moves(0) = 10; clear() = 1;"
            + " lay(1, 1, 35) = 1; canMove(35, 35) = false; canMove(35, 34) = true; canMove(35, 30) = true;"
            + " canMove(35, 29) = true; canMove(35, 5) = true; canMove(35, 28) = false; moves(35) = 10"},
        {"and a walker moves by one to three steps, each to a neighbour, and not back to its own square.",
            "no step, three steps, and four",
            "lay(0, 2, 0) = 1; canMove(0, 0) = false; canMove(0, 1) = true; canMove(0, 2) = true;"
            + " canMove(0, 3) = true; canMove(0, 4) = false; canMove(0, 18) = true; canMove(0, 24) = false;"
            + " canMove(0, 7) = true; canMove(0, 13) = true; canMove(0, 14) = false; canMove(0, 8) = true;"
            + " canMove(0, 9) = false; moves(0) = 9; clear() = 1; lay(0, 2, 14) = 1; moves(14) = 22"},
        {"and not back to its own square.", "in a blind alley, too",
            "wall(6) = 1; wall(7) = 2; wall(2) = 3; lay(0, 2, 0) = 1; moves(0) = 1; canMove(0, 1) = true;"
            + " canMove(0, 0) = false; lay(1, 0, 35) = 1; move(0, 0) refused 3 0"},
        {IN_THE_WAY, "a runner and a keeper",
            "lay(0, 0, 14) = 1; lay(0, 0, 8) = 2; lay(1, 0, 15) = 1; wall(20) = 1; canMove(14, 8) = false;"
            + " canMove(14, 15) = false; canMove(14, 20) = false; canMove(14, 13) = true; moves(14) = 1; clear() = 3;"
            + " lay(0, 3, 14) = 1; lay(0, 0, 8) = 2; lay(1, 0, 15) = 1; wall(20) = 1; moves(14) = 1; wall(13) = 2;"
            + " moves(14) = 0"},
        {IN_THE_WAY, "a rider stops ahead of pieces of both sides and of walls",
            "lay(0, 1, 14) = 1; lay(0, 0, 13) = 2; lay(1, 0, 16) = 1; wall(20) = 1; canMove(14, 13) = false;"
            + " canMove(14, 12) = false; canMove(14, 15) = true; canMove(14, 16) = false; canMove(14, 17) = false;"
            + " canMove(14, 20) = false; canMove(14, 26) = false; canMove(14, 8) = true; canMove(14, 2) = true;"
            + " moves(14) = 3"},
        {IN_THE_WAY, "a walker in an alley stops ahead of pieces of both sides and of walls",
            "wall(6) = 1; wall(7) = 2; wall(8) = 3; wall(9) = 4; lay(0, 2, 0) = 1; moves(0) = 3; lay(0, 0, 2) = 2;"
            + " moves(0) = 1; undo() = 5; lay(1, 0, 2) = 1; moves(0) = 1; undo() = 5; wall(2) = 5; moves(0) = 1;"
            + " undo() = 5; lay(1, 0, 3) = 1; moves(0) = 2; undo() = 5; lay(1, 0, 1) = 1; moves(0) = 0"},
        {IN_THE_WAY, "a walker that has to go round needs its steps for it",
            "wall(1) = 1; wall(13) = 2; lay(0, 2, 0) = 1; canMove(0, 7) = true; canMove(0, 8) = true;"
            + " canMove(0, 2) = false; canMove(0, 18) = true; canMove(0, 19) = false; moves(0) = 5"},
        {IN_THE_WAY, "a door lets the pieces of its side through",
            "wall(1) = 1; wall(6) = 2; lay(0, 2, 0) = 1; lay(1, 1, 31) = 1; moves(0) = 0; door(1) = 0; moves(0) = 6;"
            + " canMove(0, 1) = true; canMove(0, 2) = true; canMove(0, 13) = true; canMove(31, 7) = true;"
            + " canMove(31, 1) = false"},
        {IN_THE_WAY, "a door stops the pieces of the other side",
            "wall(3) = 1; wall(10) = 2; wall(11) = 3; lay(0, 0, 9) = 1; lay(1, 2, 5) = 1; lay(1, 1, 33) = 2;"
            + " door(3) = 0; moves(5) = 1; canMove(5, 4) = true; canMove(5, 3) = false; canMove(5, 2) = false;"
            + " canMove(33, 15) = true; canMove(33, 9) = false; canMove(33, 3) = false"},
        {IN_THE_WAY, "the keeper and the runner of the other side do not step into a door",
            "wall(7) = 1; lay(0, 0, 6) = 1; lay(1, 3, 1) = 1; lay(1, 0, 13) = 2; door(7) = 0; canMove(6, 7) = true;"
            + " canMove(1, 7) = false; canMove(13, 7) = false; moves(1) = 2; moves(13) = 3"},

        // ---- captures

        {CAPTURED, "in each of the four directions",
            "lay(0, 0, 20) = 1; lay(1, 0, 8) = 1; lay(0, 0, 2) = 2; captures(20, 14) = 1; clear() = 3;"
            + " lay(0, 0, 8) = 1; lay(1, 1, 20) = 1; lay(0, 0, 26) = 2; captures(8, 14) = 1; clear() = 3;"
            + " lay(0, 0, 8) = 1; lay(1, 2, 13) = 1; lay(0, 0, 12) = 2; captures(8, 14) = 1; clear() = 3;"
            + " lay(0, 0, 8) = 1; lay(1, 3, 15) = 1; lay(0, 0, 16) = 2; captures(8, 14) = 1"},
        {CAPTURED, "not with nothing, a wall or a piece of the other side behind it",
            "lay(0, 0, 20) = 1; lay(1, 0, 8) = 1; captures(20, 14) = 0; wall(2) = 1; captures(20, 14) = 0;"
            + " undo() = 2; lay(1, 0, 2) = 2; captures(20, 14) = 0; undo() = 2; lay(0, 1, 2) = 2;"
            + " captures(20, 14) = 1"},
        {CAPTURED, "not with a door of the mover behind it",
            "wall(2) = 1; lay(0, 0, 20) = 1; lay(0, 0, 1) = 2; lay(1, 0, 8) = 1; door(2) = 0; captures(20, 14) = 0"},
        {CAPTURED, "not with a wall behind it that remembers a piece of the mover",
            "lay(0, 0, 20) = 1; lay(0, 0, 2) = 2; lay(0, 0, 35) = 3; lay(1, 0, 8) = 1; lay(1, 0, 1) = 2;"
            + " lay(1, 1, 33) = 3; move(35, 34) = 0; move(33, 3) = 1; square(2, 1) = 0; captures(20, 14) = 0;"
            + " move(20, 14) = 0"},
        {CAPTURED, "neither across a corner, nor two squares away, nor two pieces in a row",
            "lay(0, 0, 0) = 1; lay(1, 0, 7) = 1; lay(0, 0, 20) = 2; captures(20, 14) = 0; clear() = 3;"
            + " lay(0, 0, 20) = 1; lay(0, 0, 13) = 2; lay(1, 0, 12) = 1; captures(20, 14) = 0; clear() = 3;"
            + " lay(0, 0, 20) = 1; lay(1, 0, 15) = 1; lay(1, 0, 16) = 2; lay(0, 0, 17) = 2; captures(20, 14) = 0;"
            + " clear() = 4; lay(0, 0, 20) = 1; lay(1, 0, 16) = 1; lay(0, 0, 17) = 2; captures(20, 14) = 0"},
        {CAPTURED, "no piece of the mover",
            "lay(0, 0, 20) = 1; lay(0, 0, 8) = 2; lay(0, 0, 2) = 3; lay(1, 0, 35) = 1; captures(20, 14) = 0;"
            + " move(20, 14) = 0; account(0) = 3"},
        {"When a piece has moved,", "only round the piece that has moved",
            "lay(0, 0, 0) = 1; lay(1, 0, 1) = 1; lay(0, 0, 2) = 2; lay(0, 0, 34) = 3; move(34, 35) = 0;"
            + " picture(1) = u; account(4) = 3; move(1, 7) = 0; account(1) = 1"},
        {CAPTURED, "a piece in a door is another piece, too",
            "wall(2) = 1; lay(0, 0, 1) = 1; lay(0, 0, 20) = 2; lay(1, 0, 8) = 1; lay(1, 0, 35) = 2; door(2) = 0;"
            + " move(35, 34) = 0; move(1, 2) = 0; move(34, 35) = 0; captures(20, 14) = 1; move(20, 14) = 1"},
        {CAPTURED, "a piece that moves into a door captures, too",
            "wall(14) = 1; lay(0, 0, 20) = 1; lay(0, 0, 2) = 2; lay(1, 0, 8) = 1; lay(1, 0, 35) = 2; door(14) = 0;"
            + " move(35, 34) = 0; move(20, 14) = 1; square(14, 0) = 1; square(14, 3) = 1; square(8, 0) = 2"},
        {"All captures of a move are made at once.", "three of them, and one undo for all",
            "lay(0, 0, 20) = 1; lay(0, 0, 12) = 2; lay(0, 0, 16) = 3; lay(0, 0, 2) = 4; lay(1, 0, 13) = 1;"
            + " lay(1, 0, 15) = 2; lay(1, 0, 8) = 3; lay(1, 0, 35) = 4; move(20, 14) = 3; account(1) = 1;"
            + " account(2) = 3; account(6) = 1; undo() = 5; account(1) = 4; account(2) = 0"},
        {TURNED_TO_WALL, "a runner of each side", captureOf0(0) + captureOf1(0)},
        {TURNED_TO_WALL, "a rider of each side", captureOf0(1) + captureOf1(1)},
        {TURNED_TO_WALL, "a walker of each side", captureOf0(2) + captureOf1(2)},
        {TURNED_TO_WALL, "a keeper of each side", captureOf0(3) + captureOf1(3)},
        {"a door on its square is gone.", "a piece that is captured in its door",
            "lay(0, 0, 0) = 1; lay(0, 0, 30) = 2; wall(1) = 1; lay(1, 0, 2) = 1; lay(1, 1, 18) = 2;"
            + " lay(1, 0, 35) = 3; door(1) = 0; move(35, 34) = 0; move(0, 1) = 0; move(18, 0) = 1; square(1, 0) = 2;"
            + " square(1, 1) = 0; square(1, 2) = 0; square(1, 3) = 0; account(3) = 0; picture(1) = #;"
            + " room(0, 1) throws NoSuchElement; undo() = 5; square(1, 3) = 1; picture(1) = U"},
        {"a door on its square is gone.", "one of side 1",
            "lay(1, 0, 0) = 1; lay(1, 0, 30) = 2; wall(1) = 1; lay(0, 0, 2) = 1; lay(0, 1, 18) = 2;"
            + " lay(0, 0, 35) = 3; move(35, 34) = 0; door(1) = 0; move(34, 35) = 0; move(0, 1) = 0; move(18, 0) = 1;"
            + " square(1, 0) = 2; square(1, 1) = 1; square(1, 2) = 0; square(1, 3) = 0; account(3) = 0;"
            + " picture(1) = #; room(1, 1) throws NoSuchElement"},
        {"The mover gets 2 coins for each of them.", "for none, one, two, three",
            "lay(0, 0, 20) = 1; lay(0, 0, 12) = 2; lay(0, 0, 16) = 3; lay(0, 0, 2) = 4; lay(1, 0, 35) = 1;"
            + " move(20, 14) = 0; account(4) = 3; undo() = 5; lay(1, 0, 13) = 2; move(20, 14) = 1; account(4) = 5;"
            + " undo() = 5; lay(1, 0, 15) = 3; move(20, 14) = 2; account(4) = 7; undo() = 5; lay(1, 0, 8) = 4;"
            + " move(20, 14) = 3; account(4) = 9; account(5) = 3"},
        {"The mover gets 2 coins for each of them.", "side 1, too, and nothing is lost by the other side",
            Boards.LOST_RUNNER + "account(5) = 5; account(4) = 3"},

        // ---- turns

        {"The sides take turns; side 0 begins.", "no piece of the other side moves",
            "lay(0, 0, 0) = 1; lay(1, 0, 35) = 1; account(7) = 0; move(35, 34) refused 2 35; move(0, 1) = 0;"
            + " account(7) = 1; move(1, 0) refused 2 1; move(35, 34) = 0; account(7) = 0; move(34, 35) refused 2 34;"
            + " move(1, 0) = 0"},
        {"A turn is a move, or to buy a door, or to buy back a piece.",
            "each is one turn, and what is refused is none",
            "lay(0, 0, 14) = 1; lay(0, 0, 20) = 2; lay(0, 0, 35) = 3; lay(1, 0, 13) = 1; lay(1, 1, 3) = 2;"
            + " wall(12) = 1; account(6) = 0; move(35, 35) refused 3 35; account(6) = 0; account(7) = 0;"
            + " move(35, 34) = 0; account(6) = 1; account(7) = 1; move(3, 15) = 1; account(6) = 2; account(7) = 0;"
            + " buy(14) = 1; account(6) = 3; account(7) = 1; door(12) = 2; account(6) = 4; account(7) = 0"},
        {"A side has 3 coins at first.", "on a new board, after start, after clear",
            "account(4) = 3; account(5) = 3; start() = 12; account(4) = 3; account(5) = 3; clear() = 12; wall(1) = 1;"
            + " wall(34) = 2; lay(0, 0, 0) = 1; lay(1, 0, 35) = 1; door(1) = 0; door(34) = 0; account(4) = 0;"
            + " account(5) = 0; clear() = 2; account(4) = 3; account(5) = 3; undo() = 5; account(4) = 0;"
            + " start() = 12; account(4) = 3; account(5) = 3"},
        {"A door costs 3 coins:", "just enough, and three missing",
            "wall(1) = 1; wall(6) = 2; lay(0, 0, 0) = 1; lay(1, 0, 35) = 1; door(1) = 0; move(35, 34) = 0;"
            + " door(6) refused 8 3; account(4) = 0"},
        {"A door costs 3 coins:", "two missing",
            "wall(26) = 1; " + Boards.LOST_RUNNER + "buy(14) = 1; move(13, 12) = 0; door(26) refused 8 2"},
        {"A door costs 3 coins:", "one missing",
            "lay(0, 0, 13) = 1; lay(0, 1, 3) = 2; lay(1, 2, 14) = 1; lay(1, 3, 35) = 2; wall(12) = 1;"
            + " move(3, 15) = 1; move(35, 34) = 0; door(14) = 2; move(34, 35) = 0; door(12) refused 8 1"},
        {"a wall on a neighbour of a square with a piece of the side becomes a door of the side,",
            "each of the neighbours",
            "wall(2) = 1; wall(7) = 2; wall(9) = 3; wall(14) = 4; lay(0, 0, 8) = 1; lay(1, 0, 35) = 1; door(2) = 0;"
            + " undo() = 5; door(7) = 0; undo() = 5; door(9) = 0; undo() = 5; door(14) = 0; picture(14) = (;"
            + " account(2) = 3"},
        {"a wall on a neighbour of a square with a piece of the side becomes a door of the side,",
            "neither across a corner nor beside a piece of the other side",
            "wall(7) = 1; lay(0, 0, 0) = 1; lay(1, 0, 8) = 1; door(7) refused 6 7; move(0, 1) = 0; door(7) = 0;"
            + " picture(7) = )"},
        {"which remembers nothing.", "a door where a piece was remembered",
            "lay(0, 0, 13) = 1; lay(0, 1, 3) = 2; lay(1, 2, 14) = 1; lay(1, 0, 20) = 2; move(3, 15) = 1;"
            + " square(14, 2) = 2; square(14, 1) = 1; move(20, 19) = 0; door(14) = 2; square(14, 2) = -1;"
            + " square(14, 1) = 0; buy(14) refused 4 14"},
        {"which remembers nothing.", "of the piece's own side, and of the other side",
            Boards.LOST_RUNNER + "door(14) = 0; square(14, 1) = 0; square(14, 2) = -1; picture(14) = (; undo() = 5;"
            + " move(34, 35) = 0; door(14) = 2; square(14, 1) = 1; square(14, 2) = -1; picture(14) = );"
            + " move(35, 34) = 0; move(13, 14) = 0; square(14, 1) = 1; square(14, 2) = 0; square(13, 1) = -1;"
            + " square(13, 2) = -1"},
        {"which remembers nothing.", "when a piece is captured in the door later, only that one is remembered",
            "lay(0, 0, 13) = 1; lay(0, 1, 3) = 2; lay(1, 2, 14) = 1; lay(1, 0, 8) = 2; lay(1, 1, 23) = 3;"
            + " move(3, 15) = 1; move(23, 22) = 0; door(14) = 2; move(22, 23) = 0; move(13, 14) = 0;"
            + " move(23, 20) = 1; square(14, 1) = 0; square(14, 2) = 0; square(14, 3) = 0; move(15, 16) = 0;"
            + " buy(14) refused 5 14; door(14) = 2; square(14, 1) = 1"},
        {"To buy back a piece costs 2 coins plus the number of its kind:",
            "a runner for 2, and one coin missing for the next",
            "lay(0, 0, 14) = 1; lay(0, 0, 16) = 2; lay(0, 0, 20) = 3; lay(0, 0, 22) = 4; lay(0, 0, 35) = 5;"
            + " lay(1, 0, 13) = 1; lay(1, 0, 17) = 2; lay(1, 1, 3) = 3; move(35, 34) = 0; move(3, 15) = 2;"
            + " account(5) = 7; buy(14) = 1; move(13, 12) = 0; buy(16) refused 8 1"},
        {"To buy back a piece costs 2 coins plus the number of its kind:", "a rider for 3, all that there is",
            Boards.lost(1) + "buy(14) = 0; square(14, 2) = 1; canMove(14, 2) = true"},
        {"To buy back a piece costs 2 coins plus the number of its kind:", "a walker for 4: one is missing",
            Boards.lost(2) + "buy(14) refused 8 1"},
        {"To buy back a piece costs 2 coins plus the number of its kind:", "without a coin, each kind",
            Boards.lostWithoutCoins(0) + "buy(14) refused 8 2; clear() = 4; " + Boards.lostWithoutCoins(1)
            + "buy(14) refused 8 3; clear() = 4; "
            + Boards.lostWithoutCoins(2) + "buy(14) refused 8 4"},
        {"To buy back a piece costs 2 coins plus the number of its kind:", "a walker for the last 4",
            "lay(0, 0, 20) = 1; lay(0, 0, 12) = 2; lay(0, 0, 16) = 3; lay(0, 2, 34) = 4; lay(0, 0, 28) = 5;"
            + " lay(1, 0, 13) = 1; lay(1, 0, 15) = 2; lay(1, 0, 33) = 3; lay(1, 1, 5) = 4; move(20, 14) = 2;"
            + " account(4) = 7; move(5, 35) = 1; door(13) = 4; move(35, 29) = 0; buy(34) = 0; picture(34) = W;"
            + " account(0) = 5"},
        {"a wall that remembers a piece of the side, on a neighbour of a square with a piece of the side,",
            "neither a wall of nothing, nor of the other side, nor across a corner",
            "wall(26) = 1; " + Boards.LOST_RUNNER + "buy(26) refused 5 26; clear() = 4; lay(0, 0, 14) = 1;"
            + " lay(0, 0, 27) = 2; lay(1, 0, 13) = 1; lay(1, 1, 3) = 2; move(27, 21) = 0; move(3, 15) = 1;"
            + " buy(14) refused 6 14; move(21, 20) = 0; buy(14) refused 5 14; move(13, 12) = 0; buy(14) = 1;"
            + " picture(14) = U; moves(14) = 2"},
        {"becomes this piece;", "nothing of the wall is left, as it goes on",
            Boards.LOST_RUNNER + "buy(14) = 1; move(15, 16) = 0; move(14, 8) = 0; square(14, 0) = 0;"
            + " square(14, 1) = -1; square(14, 2) = -1; picture(8) = U; account(2) = 0; clear() = 5;"
            + " lay(1, 0, 14) = 1; lay(1, 0, 20) = 2; lay(0, 0, 13) = 1; lay(0, 1, 3) = 2; move(3, 15) = 1;"
            + " buy(14) = 1; move(15, 16) = 0; move(14, 8) = 0; square(14, 0) = 0; square(14, 1) = -1;"
            + " square(14, 2) = -1; picture(8) = u; account(2) = 0"},
        {"a keeper cannot be bought back while the side has one.", "nor ever, as the game is over then",
            "lay(0, 3, 14) = 1; lay(0, 0, 20) = 2; lay(0, 0, 35) = 3; lay(1, 0, 13) = 1; lay(1, 1, 3) = 2;"
            + " move(35, 34) = 0; move(3, 15) = 1; account(8) = 2; square(14, 2) = 3; buy(14) refused 1 2;"
            + " door(14) refused 1 2"},
        {"Nothing is captured by buying.", "a piece that comes back between two of the other side, and beside others",
            "lay(0, 0, 12) = 1; lay(0, 0, 14) = 2; lay(0, 0, 20) = 3; lay(0, 0, 35) = 4; lay(0, 0, 16) = 5;"
            + " lay(1, 0, 13) = 1; lay(1, 1, 3) = 2; move(35, 34) = 0; move(3, 15) = 1; buy(14) = 1; account(0) = 5;"
            + " account(1) = 2; account(2) = 0; picture(13) = u; picture(14) = U; picture(15) = i"},
        {"Nothing is captured by buying.", "a door beside a piece between two others",
            "lay(0, 0, 0) = 1; lay(1, 0, 1) = 1; lay(0, 0, 2) = 2; wall(6) = 1; lay(1, 0, 35) = 2; door(6) = 0;"
            + " picture(1) = u; account(1) = 2"},

        // ---- endings

        {ENDED, "not ahead of the first turn, whatever is on the board",
            "account(8) = 0; lay(0, 3, 0) = 1; account(8) = 0; wall(1) = 1; wall(6) = 2; account(8) = 0;"
            + " lay(1, 3, 35) = 1; account(8) = 0; clear() = 2; account(8) = 0; start() = 12; account(8) = 0"},
        {"if it captured the keeper of the other side in it,", "by side 0, with other pieces left",
            "lay(0, 0, 13) = 1; lay(0, 1, 3) = 2; lay(1, 3, 14) = 1; lay(1, 0, 35) = 2; move(3, 15) = 1;"
            + " account(8) = 1; account(6) = 1; account(1) = 1"},
        {"if it captured the keeper of the other side in it,", "by side 1, with other pieces left",
            Boards.lost(3) + "account(8) = 2; account(0) = 2"},
        {"if it captured the keeper of the other side in it,", "not if it captured others, and not without keepers",
            "lay(0, 0, 13) = 1; lay(0, 1, 3) = 2; lay(1, 2, 14) = 1; lay(1, 3, 35) = 2; move(3, 15) = 1;"
            + " account(8) = 0; clear() = 3; lay(0, 0, 13) = 1; lay(0, 1, 3) = 2; lay(1, 2, 14) = 1;"
            + " lay(1, 0, 35) = 2; move(3, 15) = 1; account(8) = 0"},
        {"if it captured the keeper of the other side in it,", "together with another piece",
            "lay(0, 0, 20) = 1; lay(0, 0, 12) = 2; lay(0, 0, 16) = 3; lay(1, 0, 13) = 1; lay(1, 3, 15) = 2;"
            + " lay(1, 0, 35) = 3; move(20, 14) = 2; account(8) = 1; account(4) = 7"},
        {ENDED_WITHOUT_MOVE, "it has no piece",
            "lay(0, 0, 0) = 1; move(0, 1) = 0; account(8) = 1; account(7) = 1"},
        {ENDED_WITHOUT_MOVE, "its last piece was captured",
            "lay(0, 0, 13) = 1; lay(0, 1, 3) = 2; lay(1, 2, 14) = 1; move(3, 15) = 1; account(8) = 1;"
            + " account(1) = 0"},
        {ENDED_WITHOUT_MOVE, "its pieces are shut in, and one free square is enough",
            "wall(34) = 1; lay(1, 1, 35) = 1; lay(0, 0, 22) = 1; move(22, 28) = 0; account(8) = 0; clear() = 2;"
            + " wall(34) = 1; lay(1, 2, 35) = 1; lay(0, 0, 23) = 1; move(23, 29) = 0; account(8) = 1"},
        {ENDED_WITHOUT_MOVE, "by side 1, too",
            "lay(0, 0, 6) = 1; lay(1, 0, 12) = 1; move(6, 0) = 0; move(12, 6) = 0; account(8) = 0; clear() = 2;"
            + " wall(1) = 1; lay(0, 0, 6) = 1; lay(1, 0, 12) = 1; move(6, 0) = 0; account(8) = 0; move(12, 6) = 0;"
            + " account(8) = 2; account(7) = 0"},
        {"otherwise it is over as a draw when 60 turns were taken.", "59 turns and 60",
            "lay(0, 0, 0) = 1; lay(1, 0, 35) = 1; " + Boards.SHUTTLE + Boards.THREE_MORE + "account(6) = 59;"
            + " account(8) = 0; move(34, 35) = 0; account(6) = 60; account(8) = 3; move(0, 6) refused 1 60;"
            + " account(6) = 60; undo() = 5; account(6) = 59; account(8) = 0; move(34, 28) = 0; account(8) = 3"},
        {"otherwise it is over as a draw when 60 turns were taken.", "a refused turn is none of them",
            "lay(0, 0, 0) = 1; lay(1, 0, 35) = 1; move(0, 35) refused 3 35; door(1) refused 4 1; " + Boards.SHUTTLE
            + Boards.THREE_MORE
            + "account(8) = 0; move(34, 0) refused 3 0; account(8) = 0; move(34, 35) = 0; account(8) = 3"},
        {"otherwise it is over as a draw when 60 turns were taken.",
            "turn 60 wins, if the other side has no move then",
            "lay(0, 0, 0) = 1; wall(1) = 1; lay(1, 0, 35) = 1; lay(1, 0, 12) = 2; " + Boards.SHUTTLE
            + Boards.THREE_MORE
            + "account(8) = 0; move(12, 6) = 0; account(6) = 60; account(8) = 2; move(0, 6) refused 1 60"},
        {"otherwise it is over as a draw when 60 turns were taken.", "turn 60 wins, if it captures the keeper",
            "lay(0, 3, 7) = 1; lay(0, 0, 35) = 2; lay(1, 0, 6) = 1; lay(1, 1, 26) = 2; "
            + Script.repeat(14, "move(7, 13) = 0; move(26, 20) = 0; move(13, 7) = 0; move(20, 26) = 0; ")
            + "move(7, 13) = 0; move(26, 20) = 0; move(13, 7) = 0; account(8) = 0; move(20, 8) = 1; account(6) = 60;"
            + " account(8) = 2"},
        {"otherwise it is over as a draw when 60 turns were taken.", "turn 60 can be a door or a piece",
            "wall(28) = 1; lay(0, 0, 0) = 1; lay(1, 0, 35) = 1; " + Boards.SHUTTLE + Boards.THREE_MORE
            + "account(8) = 0; door(28) = 0; account(6) = 60; account(8) = 3; clear() = 2; lay(1, 0, 14) = 1;"
            + " lay(1, 0, 20) = 2; lay(1, 0, 35) = 3; lay(0, 0, 13) = 1; lay(0, 1, 3) = 2; lay(0, 0, 0) = 3;"
            + " move(3, 15) = 1; "
            + Script.repeat(14, "move(35, 34) = 0; move(0, 6) = 0; move(34, 35) = 0; move(6, 0) = 0; ")
            + "move(35, 34) = 0; move(0, 6) = 0; account(6) = 59; account(8) = 0; buy(14) = 1; account(6) = 60;"
            + " account(8) = 3; move(6, 0) refused 1 60"},
        {"The turns are counted from the last call of start or clear.", "from clear: 59 turns and 60",
            "lay(0, 0, 0) = 1; lay(1, 0, 35) = 1; move(0, 6) = 0; move(35, 34) = 0; move(6, 0) = 0; account(6) = 3;"
            + " clear() = 2; account(6) = 0; account(7) = 0; lay(0, 0, 0) = 1; lay(1, 0, 35) = 1; " + Boards.SHUTTLE
            + Boards.THREE_MORE
            + "account(6) = 59; account(8) = 0; move(34, 35) = 0; account(8) = 3"},
        {"The turns are counted from the last call of start or clear.", "from start: 59 turns and 60",
            "start() = 12; move(0, 6) = 0; move(35, 29) = 0; move(6, 12) = 0; start() = 12; account(6) = 0;"
            + " account(7) = 0; "
            + Script.repeat(14, "move(0, 6) = 0; move(35, 29) = 0; move(6, 0) = 0; move(29, 35) = 0; ")
            + "move(0, 6) = 0; move(35, 29) = 0; move(6, 0) = 0; account(6) = 59; account(8) = 0; move(29, 35) = 0;"
            + " account(8) = 3; start() = 12; account(6) = 0; account(8) = 0"},

        // ---- setting up

        {"Before the first turn, pieces and walls can be laid on the board.",
            "and never behind a move, a door, a text",
            "wall(1) = 1; lay(0, 0, 0) = 1; lay(1, 0, 35) = 1; door(1) = 0; lay(0, 0, 20) throws IllegalState;"
            + " wall(20) throws IllegalState; undo() = 3; lay(0, 0, 20) = 2; wall(21) = 2; move(0, 6) = 0;"
            + " lay(0, 0, 0) throws IllegalState; wall(22) throws IllegalState; undo() = 5; text(\"a1-a2\") = 5;"
            + " read() = 1; lay(0, 0, 0) throws IllegalState; wall(22) throws IllegalState"},
        {"Before the first turn, pieces and walls can be laid on the board.",
            "behind a piece that was bought back neither",
            Boards.LOST_RUNNER + "lay(0, 0, 0) throws IllegalState; buy(14) = 1; lay(0, 0, 0) throws IllegalState;"
            + " wall(0) throws IllegalState"},
        {"Before the first turn, pieces and walls can be laid on the board.", "after start, clear and restore again",
            "lay(0, 0, 0) = 1; lay(1, 0, 35) = 1; save() = 2; move(0, 1) = 0; wall(20) throws IllegalState;"
            + " restore() = 2; wall(20) = 1; move(0, 1) = 0; clear() = 2; lay(0, 0, 20) = 1; wall(21) = 1;"
            + " move(20, 14) = 0; account(8) = 1; lay(1, 0, 0) throws IllegalState; start() = 12; wall(14) = 1;"
            + " lay(1, 2, 15) = 7"},
        {"A wall that is laid remembers nothing.", "also where a piece was",
            "wall(0) = 1; square(0, 1) = -1; square(0, 2) = -1; lay(0, 0, 1) = 1; lay(1, 0, 35) = 1;"
            + " buy(0) refused 5 0; clear() = 2; lay(0, 1, 0) = 1; undo() = 4; wall(0) = 1; square(0, 1) = -1;"
            + " square(0, 2) = -1; square(0, 3) = 0"},
        {"To start puts runners on the columns 0 and 5, riders on the columns 1 and 4, the keeper on the column 2 and"
            + " a walker on the column 3, for side 0 in row 0 and for side 1 in row 5,", "each of the twelve",
            "start() = 12; picture(0) = U; picture(1) = I; picture(2) = K; picture(3) = W; picture(4) = I;"
            + " picture(5) = U; picture(30) = u; picture(31) = i; picture(32) = k; picture(33) = w; picture(34) = i;"
            + " picture(35) = u"},
        {"on a board without anything else.", "over pieces, walls, doors and memories",
            "lay(0, 0, 13) = 1; lay(0, 1, 3) = 2; lay(1, 2, 14) = 1; lay(1, 0, 35) = 2; wall(12) = 1; wall(20) = 2;"
            + " move(3, 15) = 1; move(35, 34) = 0; door(12) = 2; start() = 12; account(0) = 6; account(1) = 6;"
            + " account(2) = 0; account(3) = 0; picture(13) = .; picture(14) = .; square(14, 1) = -1;"
            + " square(14, 2) = -1; picture(12) = .; picture(15) = .; rooms(1) = 1; sealed(0) = 0"},

        // ---- rooms

        {"A room of a side is a largest set of squares that are open to it,",
            "none, one, and the most that there can be",
            "rooms(0) = 1; roomOf(0, 0, 0) = 36; " + Boards.oddWalls() + "rooms(0) = 18; rooms(1) = 18;"
            + " roomOf(0, 0, 0) = 1; roomOf(0, 17, 0) = 1; roomOf(0, 18, 0) throws IndexOutOfBounds; clear() = 0; "
            + Boards.walls(36)
            + "rooms(0) = 0; rooms(1) = 0; roomOf(1, 0, 0) throws IndexOutOfBounds"},
        {"such that one comes from each to each other by steps to neighbours within the set;",
            "round corners, not across",
            "wall(1) = 1; wall(7) = 2; wall(13) = 3; wall(12) = 4; rooms(0) = 2; roomOf(0, 0, 0) = 2; undo() = 3;"
            + " rooms(0) = 1; roomOf(0, 0, 0) = 33; wall(18) = 4; rooms(0) = 2; roomOf(0, 0, 0) = 3;"
            + " roomOf(0, 1, 4) = 2"},
        {"pieces do not matter.", "a row full of them, and a full board",
            Boards.runners(0, 12, 18, 0) + "rooms(0) = 1; rooms(1) = 1; sealed(1) = 36; clear() = 6; "
            + Boards.full(1) + "rooms(0) = 1; rooms(1) = 1; roomOf(1, 0, 0) = 36; roomOf(1, 0, 1) = 36;"
            + " roomOf(0, 0, 2) = 36"},
        {"The rooms of a side are numbered from 0, in the order of their lowest squares.",
            "the first and the last one",
            Boards.oddWalls() + "room(0, 0) = 0; room(0, 2) = 1; room(0, 4) = 2; room(0, 7) = 3; room(0, 33) = 16;"
            + " room(0, 35) = 17; roomOf(0, 0, 4) = 0; roomOf(0, 3, 4) = 7; roomOf(1, 17, 4) = 35;"
            + " room(0, 1) throws NoSuchElement; roomOf(0, -1, 4) throws IndexOutOfBounds"},
        {"A room is sealed from a side if no piece of this side is in it.", "a piece of the other side does not help",
            "wall(1) = 1; wall(6) = 2; lay(1, 0, 0) = 1; lay(0, 0, 35) = 1; roomOf(0, 0, 5) = 1; roomOf(0, 1, 5) = 0;"
            + " roomOf(1, 0, 5) = 0; roomOf(1, 1, 5) = 1; sealed(0) = 1; sealed(1) = 33; sealedAgain(0) = 1;"
            + " sealedAgain(1) = 33"},

        // ---- best moves

        {"The worth of a move is 10 times the number of pieces that it captures,", "none, one, two, three",
            "lay(0, 0, 20) = 1; lay(0, 0, 12) = 2; lay(0, 0, 16) = 3; lay(0, 0, 2) = 4; lay(1, 0, 35) = 1;"
            + " worth(20, 14) = 0; lay(1, 0, 13) = 2; worth(20, 14) = 10; lay(1, 0, 15) = 3; worth(20, 14) = 20;"
            + " lay(1, 0, 8) = 4; worth(20, 14) = 30; worth(20, 21) = 0; best() = 734"},
        {"plus the number of squares that are sealed from the other side then.", "by the wall of the capture itself",
            "wall(6) = 1; lay(0, 0, 0) = 1; lay(0, 0, 3) = 2; lay(1, 0, 1) = 1; lay(1, 0, 35) = 2; worth(3, 2) = 11;"
            + " worth(3, 4) = 0; worth(3, 9) = 0; best() = 110; sealed(1) = 0"},
        {"plus the number of squares that are sealed from the other side then.", "as its last piece is captured",
            "lay(0, 0, 13) = 1; lay(0, 1, 3) = 2; lay(1, 2, 14) = 1; worth(3, 15) = 45; worth(3, 9) = 0"},
        {"The best move of the side whose turn it is has the greatest worth;",
            "from a higher square, to a higher one",
            "lay(0, 0, 0) = 1; lay(0, 0, 13) = 2; lay(0, 1, 33) = 3; lay(1, 2, 14) = 1; lay(1, 3, 35) = 2;"
            + " best() = 1203; move(0, 1) = 0; best() = 506"},
        {"of several the one from the lowest square,", "two that capture the same piece, and all worth nothing",
            "lay(0, 0, 13) = 1; lay(0, 0, 9) = 2; lay(0, 0, 21) = 3; lay(1, 0, 14) = 1; lay(1, 0, 35) = 2;"
            + " worth(9, 15) = 10; worth(21, 15) = 10; best() = 339; clear() = 5; lay(0, 0, 34) = 1;"
            + " lay(0, 0, 14) = 2; lay(1, 0, 35) = 1; best() = 512"},
        {"and of these the one to the lowest square.", "two that one piece captures, and all worth nothing",
            "lay(0, 0, 13) = 1; lay(0, 0, 8) = 2; lay(0, 2, 21) = 3; lay(1, 0, 14) = 1; lay(1, 0, 35) = 2;"
            + " worth(21, 15) = 10; worth(21, 20) = 10; best() = 771; clear() = 5; lay(0, 1, 35) = 1;"
            + " lay(1, 0, 0) = 1; best() = 1265"},

        // ---- refusals

        {"1, the game is over: the number of turns that were taken;", "after one turn, ahead of all other reasons",
            "wall(20) = 1; lay(0, 0, 0) = 1; move(0, 1) = 0; move(1, 0) refused 1 1; move(35, 34) refused 1 1;"
            + " move(1, 1) refused 1 1; door(35) refused 1 1; door(20) refused 1 1; buy(35) refused 1 1;"
            + " buy(20) refused 1 1"},
        {"1, the game is over: the number of turns that were taken;", "after two turns, and after 60",
            Boards.lost(3) + "move(20, 26) refused 1 2; door(14) refused 1 2; clear() = 4; lay(0, 0, 0) = 1;"
            + " lay(1, 0, 35) = 1; "
            + Boards.SHUTTLE + Boards.THREE_MORE + "move(34, 35) = 0; move(0, 6) refused 1 60; door(0) refused 1 60;"
            + " buy(35) refused 1 60"},
        {"2, there is no piece of the side whose turn it is on the square from which a move is made: the square;",
            "nothing, a wall, a piece of the other side, ahead of reason 3",
            "lay(1, 0, 35) = 1; lay(0, 0, 14) = 1; wall(20) = 1; move(0, 1) refused 2 0; move(35, 34) refused 2 35;"
            + " move(20, 21) refused 2 20; move(0, 35) refused 2 0; move(35, 35) refused 2 35;"
            + " move(34, 14) refused 2 34"},
        {"2, there is no piece of the side whose turn it is on the square from which a move is made: the square;",
            "a door of the side, and a wall that remembers a piece of it",
            "wall(1) = 1; lay(0, 0, 0) = 1; lay(1, 0, 35) = 1; door(1) = 0; move(35, 34) = 0; move(1, 2) refused 2 1;"
            + " clear() = 2; " + Boards.LOST_RUNNER + "move(14, 8) refused 2 14"},
        {"3, the piece cannot move to the other square: that square;",
            "its own, the first, the last, one that is taken",
            "lay(0, 0, 14) = 1; lay(1, 0, 8) = 1; wall(13) = 1; move(14, 14) refused 3 14; move(14, 0) refused 3 0;"
            + " move(14, 35) refused 3 35; move(14, 8) refused 3 8; move(14, 13) refused 3 13;"
            + " move(14, 2) refused 3 2"},
        {"4, there is no wall on the square that is bought: the square;",
            "nothing, pieces, a door, ahead of reasons 5 to 8",
            "lay(0, 0, 14) = 1; lay(1, 0, 35) = 1; door(0) refused 4 0; buy(0) refused 4 0; door(35) refused 4 35;"
            + " buy(35) refused 4 35; door(14) refused 4 14; buy(14) refused 4 14; door(13) refused 4 13;"
            + " wall(13) = 1; door(13) = 0; door(13) refused 4 13; buy(13) refused 4 13; move(35, 34) = 0;"
            + " door(13) refused 4 13; buy(13) refused 4 13; door(8) refused 4 8; buy(20) refused 4 20"},
        {"5, the wall does not remember a piece of the side, when a piece is bought back: the square;",
            "a wall of nothing, the first and the last square, ahead of reason 6",
            "wall(0) = 1; wall(35) = 2; lay(0, 0, 1) = 1; lay(1, 0, 34) = 1; buy(0) refused 5 0;"
            + " buy(35) refused 5 35; door(35) refused 6 35; door(0) = 0; buy(0) refused 4 0; buy(35) refused 5 35"},
        {"5, the wall does not remember a piece of the side, when a piece is bought back: the square;",
            "a piece of the other side, and ahead of reason 8",
            Boards.LOST_RUNNER + "move(20, 26) = 0; buy(14) refused 5 14; clear() = 4; wall(1) = 1; wall(6) = 2;"
            + " lay(0, 0, 0) = 1; lay(1, 0, 35) = 1; door(1) = 0; move(35, 34) = 0; buy(6) refused 5 6;"
            + " door(6) refused 8 3"},
        {"6, no neighbour of the square has a piece of the side: the square;",
            "the first and the last square, a door",
            "wall(0) = 1; wall(35) = 2; lay(0, 0, 7) = 1; lay(1, 0, 29) = 1; door(0) refused 6 0;"
            + " door(35) refused 6 35; move(7, 1) = 0; door(0) refused 6 0; door(35) = 0"},
        {"6, no neighbour of the square has a piece of the side: the square;", "ahead of reason 8",
            "wall(34) = 1; wall(26) = 2; lay(0, 0, 14) = 1; lay(0, 0, 35) = 2; lay(1, 0, 13) = 1; lay(1, 1, 3) = 2;"
            + " door(34) = 0; move(3, 15) = 1; buy(14) refused 6 14; door(26) refused 6 26; door(14) refused 6 14"},
        {"7, the side has a keeper, when one is bought back: its square;", "not when another kind is bought back",
            "lay(0, 3, 0) = 1; lay(0, 0, 14) = 2; lay(0, 0, 20) = 3; lay(0, 0, 35) = 4; lay(1, 0, 13) = 1;"
            + " lay(1, 1, 3) = 2; move(35, 34) = 0; move(3, 15) = 1; buy(14) = 1; account(0) = 4"},
        {"8, the coins are too few: how many are missing.", "from one to four, and none",
            Boards.lost(2) + "buy(14) refused 8 1; door(14) = 0; clear() = 4; " + Boards.lostWithoutCoins(0)
            + "buy(14) refused 8 2; door(14) refused 8 3; clear() = 4; " + Boards.lostWithoutCoins(2)
            + "buy(14) refused 8 4; account(6) = 2"},
        {"A move or a purchase is refused for the first of these reasons that applies, with a detail:",
            "what is kept is of the latest refusal",
            "wall(20) = 1; lay(0, 0, 0) = 1; lay(1, 0, 35) = 1; move(1, 2) refused 2 1; move(0, 7) refused 3 7;"
            + " door(1) refused 4 1; buy(20) refused 5 20; door(20) refused 6 20; move(0, 1) = 0; reason(false) = 6"},

        // ---- text

        {"The input is a buffer of at most 60 characters.", "59, 60, and one more",
            "text(\"" + "a1-a2;".repeat(9) + "a1-a2\") = 59; account(9) = 59; append('x') = 60; account(9) = 60;"
            + " append('x') throws IllegalState; account(9) = 60; read() malformed 59; account(9) = 0;"
            + " append('x') = 1"},
        {TEXT, "none, semicolons alone, ahead and behind",
            "read() malformed 0; text(\";\") = 1; read() malformed 0; text(\"a1-a2;\") = 6; read() malformed 6;"
            + " text(\";a1-a2\") = 6; read() malformed 0; text(\"a1-a2;;a1-a2\") = 12; read() malformed 6;"
            + " text(\"a1-a2a2-a3\") = 10; read() malformed 5; text(\"a1-a2,a2-a3\") = 11; read() malformed 5;"
            + " text(\"a1-a2 \") = 6; read() malformed 5; text(\" a1-a2\") = 6; read() malformed 0; text(\"a1-a2;"
            + " a2-a3\") = 12; read() malformed 6"},
        {TEXT, "one, two, and the most that fit",
            "lay(0, 0, 0) = 1; lay(1, 0, 35) = 1; text(\"a1-a2\") = 5; read() = 1; text(\"f6-f5;a2-a1\") = 11;"
            + " read() = 2; text(\"f5-f6;a1-a2;f6-f5;a2-a1;f5-f6;a1-a2;f6-f5;a2-a1;f5-f6;a1-a2\") = 59; read() = 10;"
            + " account(6) = 13"},
        {TURN, "each alone",
            "text(\"a1-a2\") = 5; read() refused 2 0; text(\"+a1\") = 3; read() refused 4 0; text(\"*f6\") = 3;"
            + " read() refused 4 35; text(\"f6-a1\") = 5; read() refused 2 35"},
        {TURN, "with something missing",
            "text(\"a\") = 1; read() malformed 1; text(\"a1\") = 2; read() malformed 2; text(\"a1-\") = 3;"
            + " read() malformed 3; text(\"a1-a\") = 4; read() malformed 4; text(\"+\") = 1; read() malformed 1;"
            + " text(\"+a\") = 2; read() malformed 2; text(\"*\") = 1; read() malformed 1; text(\"*a\") = 2;"
            + " read() malformed 2"},
        {TURN, "with something else instead",
            "text(\"a1a2\") = 4; read() malformed 2; text(\"a1+a2\") = 5; read() malformed 2; text(\"-a1\") = 3;"
            + " read() malformed 0; text(\"1a-a2\") = 5; read() malformed 0; text(\"aa-a2\") = 5; read() malformed 1;"
            + " text(\"a1--a2\") = 6; read() malformed 3; text(\"a1-2a\") = 5; read() malformed 3;"
            + " text(\"a1-a-\") = 5; read() malformed 4; text(\"++a1\") = 4; read() malformed 1; text(\"*1\") = 2;"
            + " read() malformed 1; text(\"+a;\") = 3; read() malformed 2; text(\"a1;\") = 3; read() malformed 2"},
        {TURN, "with something too much",
            "text(\"a1-a2-a3\") = 8; read() malformed 5; text(\"+a1-a2\") = 6; read() malformed 3;"
            + " text(\"*a1*\") = 4; read() malformed 3; text(\"a1-a22\") = 6; read() malformed 5;"
            + " text(\"a1-a2;+b1+\") = 10; read() malformed 9"},
        {"is the smallest index k such that no text starts with the first k + 1 characters of it;",
            "the first and the last place, and only the first of two",
            "text(\"x\") = 1; read() malformed 0; text(\"xx\") = 2; read() malformed 0; text(\"a1-a2;a1-aa\") = 11;"
            + " read() malformed 10; text(\"a9-a9\") = 5; read() malformed 1; text(\"" + "+a1;".repeat(14)
            + "+a1x\") = 60; read() malformed 59"},
        {"if there is no such index, it is the length of the text.", "each beginning of a text",
            "read() malformed 0; text(\"a\") = 1; read() malformed 1; text(\"a1\") = 2; read() malformed 2;"
            + " text(\"a1-\") = 3; read() malformed 3; text(\"a1-a\") = 4; read() malformed 4; text(\"a1-a2;\") = 6;"
            + " read() malformed 6; text(\"a1-a2;+\") = 7; read() malformed 7; text(\"a1-a2;+b\") = 8;"
            + " read() malformed 8; text(\"a1-a2;+b1;\") = 10; read() malformed 10; text(\"a1-a2;+b1;*\") = 11;"
            + " read() malformed 11; text(\"a1-a2;+b1;*c\") = 12; read() malformed 12; text(\"" + "+a1;".repeat(15)
            + "\") = 60; read() malformed 60"},

        // ---- history

        {CHANGE, "start, clear, lay, wall, door",
            "start() = 12; account(10) = 1; clear() = 12; account(10) = 2; lay(0, 0, 0) = 1; account(10) = 3;"
            + " wall(1) = 1; account(10) = 4; lay(1, 0, 35) = 1; account(10) = 5; door(1) = 0; account(10) = 6;"
            + " undo() = 5; account(6) = 0; undo() = 4; account(1) = 0; undo() = 3; account(2) = 0; undo() = 2;"
            + " account(0) = 0; undo() = 1; account(0) = 6; undo() = 0; account(0) = 0"},
        {CHANGE, "move, read, buy",
            "lay(0, 0, 0) = 1; lay(1, 0, 35) = 1; move(0, 1) = 0; account(10) = 3; text(\"f6-f5;b1-a1\") = 11;"
            + " account(10) = 3; read() = 2; account(10) = 4; undo() = 3; account(6) = 1; undo() = 2; account(6) = 0;"
            + " clear() = 2; " + Boards.LOST_RUNNER + "save() = 4; restore() = 4; account(10) = 0; buy(14) = 1;"
            + " account(10) = 1; undo() = 0; picture(14) = #; account(4) = 3"},
        {CHANGE, "what throws is none",
            "lay(0, 0, 0) = 1; lay(1, 0, 35) = 1; wall(1) = 1; lay(0, 0, 0) throws IllegalState;"
            + " lay(0, 4, 2) throws IllegalArgument; lay(2, 0, 2) throws IndexOutOfBounds;"
            + " wall(0) throws IllegalState; wall(36) throws IndexOutOfBounds; move(0, 35) refused 3 35;"
            + " move(0, 36) throws IndexOutOfBounds; door(35) refused 4 35; door(-1) throws IndexOutOfBounds;"
            + " buy(1) refused 5 1; buy(36) throws IndexOutOfBounds; read() malformed 0; text(\"a1-f6\") = 5;"
            + " read() refused 3 35; text(\"a1-a2;f6-f4\") = 11; read() refused 3 23; account(10) = 3; undo() = 2;"
            + " account(2) = 0"},
        {CHANGE, "questions, append, save and undo are none",
            "start() = 12; append('a') = 1; save() = 12; best() = 6; canMove(0, 6) = true; captures(0, 6) = 0;"
            + " worth(0, 6) = 0; rooms(0) = 1; sealedAgain(1) = 0; steps(0, 6) = 1; picture(0) = U; account(10) = 1;"
            + " undo() = 0; undo() throws NoSuchElement; account(10) = 0"},
        {"for at most 6 changes,", "five, six, and seven",
            "lay(0, 0, 0) = 1; lay(0, 0, 1) = 2; lay(0, 0, 2) = 3; lay(0, 0, 3) = 4; lay(0, 0, 4) = 5;"
            + " account(10) = 5; lay(0, 0, 5) = 6; account(10) = 6; lay(0, 0, 6) = 7; account(10) = 6; undo() = 5;"
            + " undo() = 4; undo() = 3; undo() = 2; undo() = 1; undo() = 0; account(0) = 1;"
            + " undo() throws NoSuchElement; account(0) = 1; picture(0) = U"},
        {"for at most 6 changes,", "all six come back",
            "lay(0, 0, 0) = 1; lay(0, 0, 1) = 2; lay(0, 0, 2) = 3; lay(0, 0, 3) = 4; lay(0, 0, 4) = 5;"
            + " lay(0, 0, 5) = 6; undo() = 5; account(0) = 5; undo() = 4; account(0) = 4; undo() = 3; undo() = 2;"
            + " undo() = 1; undo() = 0; account(0) = 0; undo() throws NoSuchElement"},
        {"of which the oldest one is forgotten for good when there would be more.", "it does not come back later",
            "lay(0, 0, 0) = 1; lay(0, 0, 1) = 2; lay(0, 0, 2) = 3; lay(0, 0, 3) = 4; lay(0, 0, 4) = 5;"
            + " lay(0, 0, 5) = 6; lay(0, 0, 6) = 7; undo() = 5; undo() = 4; undo() = 3; undo() = 2; undo() = 1;"
            + " undo() = 0; undo() throws NoSuchElement; lay(0, 0, 7) = 2; account(10) = 1; undo() = 0;"
            + " account(0) = 1; undo() throws NoSuchElement"},
        {"of which the oldest one is forgotten for good when there would be more.",
            "after many changes, again and again",
            Boards.runners(0, 0, 13, 0) + "undo() = 5; account(0) = 12; undo() = 4; undo() = 3; undo() = 2;"
            + " undo() = 1; undo() = 0; account(0) = 7; undo() throws NoSuchElement; wall(20) = 1; wall(21) = 2;"
            + " undo() = 1; account(2) = 1; wall(22) = 2; wall(23) = 3; wall(24) = 4; wall(25) = 5; wall(26) = 6;"
            + " wall(27) = 7; account(10) = 6; undo() = 5; undo() = 4; undo() = 3; undo() = 2; undo() = 1;"
            + " undo() = 0; account(2) = 1; account(0) = 7; undo() throws NoSuchElement"},
        {"The object remembers everything except the reason, the input, the error position and what was saved,",
            "undo leaves these four",
            "start() = 12; read() malformed 0; move(0, 12) refused 3 12; text(\"ab\") = 2; save() = 12;"
            + " move(0, 6) = 0; append('c') = 3; move(0, 6) refused 2 0; undo() = 1; reason(false) = 2;"
            + " reason(true) = 0; account(9) = 3; errorPosition() = 0; undo() = 0; reason(false) = 2; account(9) = 3;"
            + " errorPosition() = 0; account(0) = 0; restore() = 12; account(6) = 0; picture(0) = U"},
        {"The object remembers everything except", "the board, the coins, the turns and the end come back",
            "wall(12) = 1; lay(0, 0, 13) = 1; lay(0, 1, 3) = 2; lay(1, 3, 14) = 1; lay(1, 0, 35) = 2; door(12) = 0;"
            + " move(35, 34) = 0; move(3, 15) = 1; account(8) = 1; account(4) = 2; undo() = 5; account(8) = 0;"
            + " account(4) = 0; account(6) = 2; account(7) = 0; picture(14) = k; picture(3) = I; undo() = 4;"
            + " account(7) = 1; undo() = 3; account(4) = 3; account(3) = 0; account(2) = 1; square(12, 1) = -1"},
        {"restore forgets all of them.", "none, some, six",
            "save() = 0; restore() = 0; account(10) = 0; lay(0, 0, 0) = 1; restore() = 0; account(10) = 0;"
            + " undo() throws NoSuchElement; clear() = 0; clear() = 0; clear() = 0; clear() = 0; clear() = 0;"
            + " clear() = 0; account(10) = 6; restore() = 0; account(10) = 0; undo() throws NoSuchElement;"
            + " lay(0, 0, 1) = 1; undo() = 0; account(0) = 0; undo() throws NoSuchElement"},

        // ---- exceptions

        {FIRST_DOCUMENTED, "lay and wall",
            "wall(0) = 1; lay(2, 4, 0) throws IndexOutOfBounds; lay(0, 4, 36) throws IndexOutOfBounds;"
            + " lay(2, 0, 0) throws IndexOutOfBounds; lay(0, 4, 0) throws IllegalArgument;"
            + " lay(0, 0, 0) throws IllegalState; lay(0, 0, 1) = 1; lay(1, 0, 35) = 1; move(1, 2) = 0;"
            + " lay(0, 3, 36) throws IndexOutOfBounds; lay(0, -1, 20) throws IllegalArgument;"
            + " wall(36) throws IndexOutOfBounds; wall(-1) throws IndexOutOfBounds; wall(20) throws IllegalState"},
        {FIRST_DOCUMENTED, "move, door and buy, after the end",
            "lay(0, 0, 0) = 1; move(0, 1) = 0; account(8) = 1; move(36, 1) throws IndexOutOfBounds;"
            + " move(1, 36) throws IndexOutOfBounds; move(-1, 36) throws IndexOutOfBounds;"
            + " door(36) throws IndexOutOfBounds; buy(-1) throws IndexOutOfBounds;"
            + " reason(false) throws NoSuchElement; move(1, 0) refused 1 1"},
        {FIRST_DOCUMENTED, "square, canMove, moves, captures and worth",
            "square(36, 4) throws IndexOutOfBounds; square(-1, -1) throws IndexOutOfBounds;"
            + " canMove(1, 36) throws IndexOutOfBounds; canMove(36, 1) throws IndexOutOfBounds;"
            + " moves(36) throws IndexOutOfBounds; captures(1, -1) throws IndexOutOfBounds;"
            + " captures(-1, 1) throws IndexOutOfBounds; worth(1, 36) throws IndexOutOfBounds;"
            + " worth(36, 1) throws IndexOutOfBounds; worth(1, 2) throws NoSuchElement;"
            + " captures(1, 2) throws NoSuchElement"},
        {FIRST_DOCUMENTED, "room, roomOf, steps and sealedShare",
            Boards.walls(36) + "room(2, 0) throws IndexOutOfBounds; room(0, 36) throws IndexOutOfBounds;"
            + " room(0, 0) throws NoSuchElement; steps(2, 0) throws IndexOutOfBounds;"
            + " steps(0, 36) throws IndexOutOfBounds; steps(0, 0) throws NoSuchElement;"
            + " roomOf(0, 0, 6) throws IndexOutOfBounds; roomOf(2, 0, 6) throws IndexOutOfBounds;"
            + " sealedShare(2) throws IndexOutOfBounds; sealedShare(1) throws Arithmetic"},
        {FIRST_DOCUMENTED, "append and read",
            "text(\"" + "x".repeat(60) + "\") = 60; append(31) throws IllegalArgument;"
            + " append(127) throws IllegalArgument; append(32) throws IllegalState; read() malformed 0;"
            + " text(\"a1-a2;\") = 6; read() malformed 6; reason(false) throws NoSuchElement; text(\"a1-a2\") = 5;"
            + " read() refused 2 0"},

        // ---- more precisely

        {"A walker ends on another square than its own, and may come over a square twice.",
            "in alleys of one and two squares",
            "wall(6) = 1; wall(2) = 2; wall(7) = 3; lay(0, 2, 0) = 1; moves(0) = 1; undo() = 3; undo() = 2;"
            + " undo() = 1; wall(7) = 2; wall(8) = 3; wall(3) = 4; lay(0, 2, 0) = 1; moves(0) = 2;"
            + " canMove(0, 1) = true; canMove(0, 2) = true; canMove(0, 0) = false; undo() = 4; lay(0, 2, 1) = 1;"
            + " moves(1) = 2; canMove(1, 1) = false"},
        {"A purchase ends the game, too, if the other side has no move then, and only moves count for that.",
            "it could buy a door",
            "wall(34) = 1; wall(29) = 2; wall(1) = 3; lay(0, 0, 0) = 1; lay(1, 0, 35) = 1; door(1) = 0;"
            + " account(8) = 1; account(5) = 3; door(34) refused 1 1"},
        {"A purchase ends the game, too, if the other side has no move then, and only moves count for that.",
            "it has no piece; and not if it has a move",
            "wall(1) = 1; lay(0, 0, 0) = 1; door(1) = 0; account(8) = 1; undo() = 2; lay(1, 0, 35) = 1; door(1) = 0;"
            + " account(8) = 0"},
        {"A piece that moves between two of the other side is not captured by that.", "in a row and in a column",
            "lay(0, 0, 8) = 1; lay(1, 0, 13) = 1; lay(1, 0, 15) = 2; move(8, 14) = 0; picture(14) = U;"
            + " account(5) = 3; move(13, 12) = 0; account(0) = 1; clear() = 3; lay(0, 3, 13) = 1; lay(1, 0, 8) = 1;"
            + " lay(1, 0, 20) = 2; move(13, 14) = 0; picture(14) = K; account(8) = 0; account(7) = 1"},
        {"The worth of a move is told as the board is, also when the game is over.", "after a win and after a draw",
            "lay(0, 0, 13) = 1; lay(0, 1, 3) = 2; lay(1, 3, 14) = 1; lay(1, 0, 35) = 2; move(3, 15) = 1;"
            + " account(8) = 1; worth(35, 34) = 0; worth(13, 12) throws NoSuchElement; best() throws NoSuchElement;"
            + " clear() = 3; lay(0, 0, 0) = 1; lay(1, 0, 35) = 1; " + Boards.SHUTTLE + Boards.THREE_MORE
            + "move(34, 35) = 0; account(8) = 3; worth(0, 6) = 0; worth(0, 12) throws NoSuchElement;"
            + " best() throws NoSuchElement"},
        {"From a side without pieces all squares that are open to it are sealed.",
            "all 36, all but a wall, all but a door",
            "sealed(0) = 36; sealedAgain(0) = 36; sealed(1) = 36; sealedAgain(1) = 36; sealedShare(1) = 1.0;"
            + " wall(1) = 1; sealed(1) = 35; sealedAgain(1) = 35; lay(0, 0, 0) = 1; sealed(1) = 35; door(1) = 0;"
            + " sealed(1) = 35; sealedAgain(1) = 35; sealed(0) = 0; sealedAgain(0) = 0; rooms(1) = 1"},
        {"From a side without pieces all squares that are open to it are sealed.", "no square is open to it",
            Boards.walls(36) + "sealed(0) = 0; sealedAgain(0) = 0; sealed(1) = 0; sealedAgain(1) = 0"},
    };

    private TermSentences() {
    }

    // ---- boards

    /** A runner of side 0 captures a piece of this kind; the board is cleared then. */
    private static String captureOf0(int kind) {
        return "lay(0, 0, 8) = 1; lay(0, 0, 12) = 2; lay(1, " + kind + ", 13) = 1; lay(1, 0, 35) = 2; move(8,"
            + " 14) = 1; square(13, 0) = 2; square(13, 1) = 1; square(13, 2) = " + kind + "; square(13, 3) = 0;"
            + " picture(13) = #; account(1) = 1; account(2) = 1; clear() = 3; ";
    }

    private static String captureOf1(int kind) {
        return "lay(1, 0, 8) = 1; lay(1, 0, 12) = 2; lay(0, " + kind + ", 13) = 1; lay(0, 0, 35) = 2; move(35,"
            + " 34) = 0; move(8, 14) = 1; square(13, 0) = 2; square(13, 1) = 0; square(13, 2) = " + kind + ";"
            + " square(13, 3) = 0; picture(13) = #; account(0) = 1; account(2) = 1; clear() = 3; ";
    }
}
