/** Promises 6 to 14: moves, doors, pieces bought back, what moves are worth. */
final class TurnRuns {

    private static final String FULL_GAME = "lay(0, 0, 0) = 1; lay(1, 0, 35) = 1;"
            + Script.repeat(14, "text(\"a1-a2;f6-f5;a2-a1;f5-f6\") = 23; read() = 4;");

    private static final String LATE_WIN = "lay(0, 0, 7) = 1; lay(1, 0, 6) = 1; lay(1, 1, 26) = 2;"
            + Script.repeat(14, "text(\"b2-b3;c5-c4;b3-b2;c4-c5\") = 23; read() = 4;");

    static final String[][] RUNS = {
        {"6", "a capture between two pieces turns to a wall and brings coins",
            "lay(0, 0, 13) = 1; lay(0, 1, 3) = 2; lay(1, 2, 14) = 1; lay(1, 3, 35) = 2; move(3, 15) = 1;"
            + " square(14, 0) = 2; square(14, 1) = 1; square(14, 2) = 2; account(4) = 5; account(5) = 3;"
            + " account(1) = 1; account(2) = 1; account(6) = 1; account(7) = 1; account(8) = 0;"
            + " picture(3) = .; picture(15) = I; square(3, 1) = -1; square(3, 2) = -1"},
        {"6", "three captures at once, and neither one without a piece behind it nor one of the side",
            "lay(0, 0, 20) = 1; lay(0, 0, 12) = 2; lay(0, 0, 16) = 3; lay(0, 0, 2) = 4; lay(1, 0, 13) = 1;"
            + " lay(1, 1, 15) = 2; lay(1, 2, 8) = 3; lay(1, 0, 35) = 4; captures(20, 14) = 3; move(20, 14) = 3;"
            + " account(4) = 9; account(1) = 1; account(2) = 3; square(8, 2) = 2; square(13, 2) = 0;"
            + " square(15, 2) = 1; account(8) = 0"},
        {"6", "nothing is captured at an edge, behind a wall, or between two kinds of sides",
            "lay(0, 0, 12) = 1; lay(0, 0, 31) = 2; lay(1, 0, 6) = 1; lay(1, 0, 25) = 2; wall(13) = 1;"
            + " lay(1, 1, 35) = 3; lay(1, 0, 0) = 4; move(12, 18) = 0; move(35, 29) = 0; move(18, 24) = 0;"
            + " account(4) = 3; account(1) = 4"},
        {"6", "a piece that moves between two of the other side stays",
            "lay(0, 0, 8) = 1; lay(1, 0, 13) = 1; lay(1, 0, 15) = 2; move(8, 14) = 0; picture(14) = U;"
            + " move(13, 19) = 0; account(0) = 1; move(14, 13) = 0; account(8) = 0"},
        {"6", "the keeper's capture ends the game for the side that made it",
            "lay(0, 0, 13) = 1; lay(0, 1, 3) = 2; lay(1, 3, 14) = 1; lay(1, 0, 35) = 2; move(3, 15) = 1;"
            + " account(8) = 1; square(14, 2) = 3; move(35, 34) throws UnsupportedOperationException;"
            + " reason(false) = 1; reason(true) = 1; undo() = 4; account(8) = 0; account(4) = 3"},
        {"6", "side 1 wins, too",
            "lay(1, 0, 13) = 1; lay(1, 1, 3) = 2; lay(0, 3, 14) = 1; lay(0, 0, 35) = 2; move(35, 34) = 0;"
            + " move(3, 15) = 1; account(8) = 2; account(5) = 5; account(7) = 0"},
        {"6", "the other side has no move then",
            "lay(0, 0, 8) = 1; lay(0, 0, 12) = 2; lay(1, 0, 0) = 1; wall(1) = 1; move(12, 6) = 0; account(8) = 1"},
        {"6", "the side itself may have no move then",
            "lay(0, 0, 1) = 1; lay(1, 0, 12) = 1; wall(7) = 1; wall(2) = 2; lay(1, 0, 35) = 2; move(1, 0) = 0;"
            + " move(12, 6) = 0; account(8) = 0; move(0, 1) = 0; account(8) = 0"},
        {"6", "a draw after 60 turns and not before",
            FULL_GAME + "account(6) = 56; move(0, 6) = 0; move(35, 29) = 0; move(6, 0) = 0; account(6) = 59;"
            + " account(8) = 0; move(29, 35) = 0; account(8) = 3; account(6) = 60; account(7) = 0;"
            + " move(0, 6) throws UnsupportedOperationException; reason(false) = 1; reason(true) = 60;"
            + " best() throws NoSuchElementException; undo() = 5; account(8) = 0; clear() = 2; account(8) = 0"},
        {"6", "the side that takes turn 60 can still win",
            LATE_WIN + "move(7, 13) = 0; move(26, 20) = 0; move(13, 7) = 0; account(8) = 0; move(20, 8) = 1;"
            + " account(6) = 60; account(8) = 2"},
        {"6", "what is refused, the first reason first",
            "lay(0, 0, 0) = 1; lay(1, 0, 35) = 1; move(36, 0) throws IndexOutOfBoundsException;"
            + " move(0, 36) throws IndexOutOfBoundsException; move(-1, 0) throws IndexOutOfBoundsException;"
            + " move(0, -1) throws IndexOutOfBoundsException; reason(false) throws NoSuchElementException;"
            + " move(35, 34) throws UnsupportedOperationException; reason(false) = 2; reason(true) = 35;"
            + " move(3, 20) throws UnsupportedOperationException; reason(false) = 2; reason(true) = 3;"
            + " move(0, 7) throws UnsupportedOperationException; reason(false) = 3; reason(true) = 7;"
            + " move(0, 0) throws UnsupportedOperationException; reason(true) = 0; account(6) = 0;"
            + " account(10) = 2; move(0, 1) = 0; move(1, 0) throws UnsupportedOperationException; reason(false) = 2"},
        {"6", "a piece goes through a door and the door stays; captured in it, both are gone",
            "lay(0, 0, 0) = 1; lay(0, 0, 30) = 2; wall(1) = 1; lay(1, 0, 2) = 1; lay(1, 1, 18) = 2; lay(1, 0, 35) = 3;"
            + " door(1) = 0; move(35, 34) = 0; move(0, 1) = 0; picture(1) = U; square(1, 3) = 1; square(1, 1) = 0;"
            + " move(18, 0) = 1; square(1, 0) = 2; square(1, 1) = 0; square(1, 2) = 0; square(1, 3) = 0;"
            + " account(3) = 0; account(2) = 1; account(5) = 5; account(0) = 1; rooms(0) = 1"},
        {"6", "a piece of side 1 is captured in its door, too",
            "lay(1, 0, 0) = 1; lay(1, 0, 30) = 2; wall(1) = 1; lay(0, 0, 2) = 1; lay(0, 1, 18) = 2; lay(0, 0, 35) = 3;"
            + " move(35, 34) = 0; door(1) = 0; move(34, 35) = 0; move(0, 1) = 0; picture(1) = u; square(1, 3) = 1;"
            + " move(18, 0) = 1; square(1, 0) = 2; square(1, 1) = 1; square(1, 2) = 0; square(1, 3) = 0; account(3) = 0;"
            + " account(4) = 5; account(1) = 1; rooms(0) = 1"},
        {"6", "a door of the other side stops a move",
            "lay(0, 0, 0) = 1; lay(1, 0, 35) = 1; wall(34) = 1; lay(0, 1, 30) = 2; move(0, 1) = 0; door(34) = 0;"
            + " canMove(30, 33) = true; canMove(30, 34) = false; move(30, 34) throws UnsupportedOperationException;"
            + " reason(false) = 3; reason(true) = 34; room(0, 34) throws NoSuchElementException; room(1, 34) = 0;"
            + " steps(0, 34) throws NoSuchElementException; steps(1, 34) = 1; sealedShare(0) = 0.0; move(30, 33) = 0;"
            + " move(35, 34) = 0; picture(34) = u"},
        {"6", "the door is left behind",
            "lay(0, 0, 0) = 1; wall(1) = 1; lay(1, 0, 35) = 1; door(1) = 0; move(35, 34) = 0; move(0, 1) = 0;"
            + " move(34, 35) = 0; move(1, 2) = 0; picture(1) = (; square(1, 0) = 3; square(1, 1) = 0;"
            + " square(1, 2) = -1; square(1, 3) = 1; account(3) = 1"},

        {"7", "a wall becomes a door that remembers nothing",
            "lay(0, 0, 13) = 1; lay(0, 1, 3) = 2; lay(1, 2, 14) = 1; lay(1, 3, 35) = 2; move(3, 15) = 1;"
            + " move(35, 34) = 0; door(14) = 2; square(14, 0) = 3; square(14, 1) = 0; square(14, 2) = -1;"
            + " square(14, 3) = 1; account(2) = 0; account(3) = 1; account(6) = 3; account(7) = 1; rooms(1) = 1"},
        {"7", "a door of side 1",
            "lay(0, 0, 0) = 1; lay(1, 0, 35) = 1; wall(34) = 1; move(0, 1) = 0; door(34) = 0; picture(34) = );"
            + " square(34, 1) = 1; account(5) = 0; account(4) = 3; canMove(35, 34) = true; rooms(0) = 1"},
        {"7", "the wall of a piece that was captured is bought by its own side, too",
            "lay(0, 0, 14) = 1; lay(0, 0, 20) = 2; lay(0, 0, 35) = 3; lay(1, 0, 13) = 1; lay(1, 1, 3) = 2;"
            + " move(35, 34) = 0; move(3, 15) = 1; door(14) = 0; square(14, 1) = 0; square(14, 2) = -1;"
            + " move(13, 19) = 0; buy(14) throws UnsupportedOperationException; reason(false) = 4"},
        {"7", "side 1 buys the wall of a piece that it captured",
            "lay(0, 0, 14) = 1; lay(0, 0, 35) = 2; lay(1, 0, 13) = 1; lay(1, 1, 3) = 2; move(35, 34) = 0; move(3, 15) = 1;"
            + " move(34, 35) = 0; door(14) = 2; square(14, 1) = 1; square(14, 2) = -1; picture(14) = ); move(35, 34) = 0;"
            + " move(13, 14) = 0; picture(14) = u; square(14, 1) = 1; square(14, 2) = 0; square(13, 1) = -1"},
        {"7", "a purchase ends the game if the other side has no move",
            "lay(0, 0, 0) = 1; wall(1) = 1; door(1) = 0; account(8) = 1; account(6) = 1;"
            + " door(7) throws UnsupportedOperationException; reason(false) = 1; reason(true) = 1"},
        {"7", "turn 60 can be a purchase",
            "wall(28) = 1;" + FULL_GAME + "move(0, 6) = 0; move(35, 34) = 0; move(6, 0) = 0; door(28) = 0;"
            + " account(8) = 3; account(6) = 60"},
        {"7", "what is refused, the first reason first",
            "wall(1) = 1; wall(6) = 2; wall(20) = 3; lay(0, 0, 0) = 1; lay(1, 0, 21) = 1;"
            + " door(36) throws IndexOutOfBoundsException; door(-1) throws IndexOutOfBoundsException;"
            + " door(35) throws UnsupportedOperationException; reason(false) = 4; reason(true) = 35;"
            + " door(0) throws UnsupportedOperationException; reason(false) = 4; reason(true) = 0;"
            + " door(20) throws UnsupportedOperationException; reason(false) = 6; reason(true) = 20;"
            + " account(6) = 0; account(10) = 5; door(1) = 0; door(20) = 0;"
            + " door(20) throws UnsupportedOperationException; reason(false) = 4;"
            + " door(6) throws UnsupportedOperationException; reason(false) = 8; reason(true) = 3; account(4) = 0"},
        {"7", "a wall on the far edge is no neighbour",
            "wall(5) = 1; lay(0, 0, 6) = 1; lay(1, 0, 35) = 1; door(5) throws UnsupportedOperationException;"
            + " reason(false) = 6; reason(true) = 5"},
        {"7", "a piece in a door is a neighbour, too",
            "wall(1) = 1; wall(7) = 2; lay(0, 0, 0) = 1; lay(1, 0, 35) = 1; lay(0, 0, 18) = 2; lay(1, 0, 19) = 2;"
            + " lay(0, 0, 26) = 3; door(1) = 0; move(35, 34) = 0; move(0, 1) = 0; move(34, 35) = 0;"
            + " door(7) throws UnsupportedOperationException; reason(false) = 8; reason(true) = 3"},

        {"8", "a piece is bought back at the price of its kind",
            "lay(0, 1, 14) = 1; lay(0, 0, 20) = 2; lay(0, 0, 35) = 3; lay(1, 0, 13) = 1; lay(1, 1, 3) = 2;"
            + " move(35, 34) = 0; move(3, 15) = 1; account(0) = 2; account(5) = 5; buy(14) = 0; picture(14) = I;"
            + " square(14, 0) = 1; square(14, 1) = 0; square(14, 2) = 1; square(14, 3) = 0; account(0) = 3;"
            + " account(2) = 0; account(4) = 0; account(6) = 3; canMove(14, 8) = true; undo() = 5; picture(14) = #;"
            + " square(14, 2) = 1; account(4) = 3"},
        {"8", "a piece that was bought back leaves nothing behind",
            "lay(0, 1, 14) = 1; lay(0, 0, 20) = 2; lay(0, 0, 35) = 3; lay(1, 0, 13) = 1; lay(1, 1, 3) = 2;"
            + " move(35, 34) = 0; move(3, 15) = 1; buy(14) = 0; move(15, 16) = 0; move(14, 8) = 0; square(14, 0) = 0;"
            + " square(14, 1) = -1; square(14, 2) = -1; picture(14) = .; account(2) = 0"},
        {"8", "side 1 buys back, too",
            "lay(1, 0, 14) = 1; lay(1, 0, 20) = 2; lay(0, 0, 13) = 1; lay(0, 1, 3) = 2; move(3, 15) = 1; buy(14) = 1;"
            + " picture(14) = u; account(1) = 2; account(4) = 5; account(5) = 1; account(7) = 0"},
        {"8", "a runner costs 2, and nothing is captured by buying",
            "lay(0, 0, 14) = 1; lay(0, 0, 20) = 2; lay(0, 0, 35) = 3; lay(0, 0, 2) = 4; lay(1, 0, 13) = 1;"
            + " lay(1, 1, 3) = 2; move(35, 34) = 0; move(3, 15) = 1; move(2, 8) = 0; move(13, 12) = 0; move(34, 35) = 0;"
            + " move(12, 13) = 0; buy(14) = 1; picture(14) = U; picture(15) = i; account(1) = 2"},
        {"8", "a walker costs 4: one coin is missing",
            "lay(0, 2, 14) = 1; lay(0, 0, 20) = 2; lay(0, 0, 35) = 3; lay(1, 0, 13) = 1; lay(1, 1, 3) = 2;"
            + " move(35, 34) = 0; move(3, 15) = 1; buy(14) throws UnsupportedOperationException; reason(false) = 8;"
            + " reason(true) = 1; account(6) = 2"},
        {"8", "what is refused, the first reason first",
            "lay(0, 0, 14) = 1; lay(0, 0, 35) = 2; lay(1, 0, 13) = 1; lay(1, 1, 3) = 2; wall(29) = 1;"
            + " buy(36) throws IndexOutOfBoundsException; buy(-1) throws IndexOutOfBoundsException; move(35, 34) = 0;"
            + " move(3, 15) = 1; buy(20) throws UnsupportedOperationException; reason(false) = 4; reason(true) = 20;"
            + " buy(29) throws UnsupportedOperationException; reason(false) = 5; reason(true) = 29;"
            + " buy(14) throws UnsupportedOperationException; reason(false) = 6; reason(true) = 14; move(34, 35) = 0;"
            + " buy(14) throws UnsupportedOperationException; reason(false) = 5; reason(true) = 14; account(6) = 3"},
        {"8", "after the end nothing is bought",
            "lay(0, 0, 13) = 1; lay(0, 1, 3) = 2; lay(1, 3, 14) = 1; lay(1, 0, 20) = 2; move(3, 15) = 1;"
            + " buy(14) throws UnsupportedOperationException; reason(false) = 1; reason(true) = 1"},

        {"9", "nothing, a piece, a wall, a door",
            "lay(1, 2, 0) = 1; wall(1) = 1; lay(0, 0, 2) = 1; square(0, 0) = 1; square(0, 1) = 1; square(0, 2) = 2;"
            + " square(0, 3) = 0; square(1, 0) = 2; square(1, 1) = -1; square(1, 2) = -1; square(1, 3) = 0;"
            + " square(3, 0) = 0; square(3, 1) = -1; square(3, 2) = -1; square(3, 3) = 0; door(1) = 0;"
            + " square(1, 0) = 3; square(1, 1) = 0; square(1, 2) = -1; square(1, 3) = 1"},
        {"9", "wrong squares and numbers",
            "square(36, 0) throws IndexOutOfBoundsException; square(-1, 0) throws IndexOutOfBoundsException;"
            + " square(0, 4) throws IllegalArgumentException; square(0, -1) throws IllegalArgumentException;"
            + " square(36, 4) throws IndexOutOfBoundsException; account(10) = 0"},

        {"10", "a runner and a keeper step to neighbours, within their row and column",
            "lay(0, 0, 11) = 1; lay(1, 3, 24) = 1; canMove(11, 5) = true; canMove(11, 10) = true; canMove(11, 17) = true;"
            + " canMove(11, 12) = false; canMove(11, 11) = false; canMove(11, 4) = false; canMove(11, 23) = false;"
            + " canMove(24, 18) = true; canMove(24, 30) = true; canMove(24, 25) = true; canMove(24, 23) = false;"
            + " canMove(24, 26) = false"},
        {"10", "a rider goes along its lines as far as they are free",
            "lay(0, 1, 14) = 1; wall(16) = 1; lay(1, 0, 26) = 1; lay(0, 0, 12) = 2; canMove(14, 2) = true;"
            + " canMove(14, 8) = true; canMove(14, 15) = true; canMove(14, 16) = false; canMove(14, 17) = false;"
            + " canMove(14, 20) = true; canMove(14, 26) = false; canMove(14, 32) = false; canMove(14, 13) = true;"
            + " canMove(14, 12) = false; canMove(14, 21) = false; canMove(14, 14) = false"},
        {"10", "a walker goes round corners, not through walls and pieces, not back to its square",
            "lay(0, 2, 0) = 1; wall(1) = 1; lay(1, 0, 7) = 1; canMove(0, 6) = true; canMove(0, 12) = true;"
            + " canMove(0, 18) = true; canMove(0, 13) = true; canMove(0, 0) = false; canMove(0, 7) = false;"
            + " canMove(0, 2) = false; canMove(0, 24) = false; canMove(0, 14) = false"},
        {"10", "a door is open to its side alone",
            "lay(0, 1, 0) = 1; lay(1, 1, 5) = 1; wall(2) = 1; lay(0, 0, 8) = 2; door(2) = 0; canMove(0, 2) = true;"
            + " canMove(0, 4) = true; canMove(0, 5) = false; canMove(5, 3) = true; canMove(5, 2) = false;"
            + " canMove(5, 1) = false"},
        {"10", "wrong squares, no piece, after the end",
            "lay(0, 0, 0) = 1; canMove(36, 0) throws IndexOutOfBoundsException;"
            + " canMove(0, 36) throws IndexOutOfBoundsException; canMove(-1, 0) throws IndexOutOfBoundsException;"
            + " canMove(0, -1) throws IndexOutOfBoundsException; canMove(1, 36) throws IndexOutOfBoundsException;"
            + " canMove(1, 0) throws NoSuchElementException; wall(2) = 1; canMove(2, 3) throws NoSuchElementException;"
            + " move(0, 1) = 0; account(8) = 1; canMove(1, 0) = true; reason(false) throws NoSuchElementException"},

        {"11", "how many squares each kind can move to",
            "lay(0, 0, 14) = 1; moves(14) = 4; clear() = 1; lay(1, 1, 14) = 1; moves(14) = 10; clear() = 1;"
            + " lay(0, 2, 14) = 1; moves(14) = 22; clear() = 1; lay(1, 3, 0) = 1; moves(0) = 2; wall(1) = 1; wall(6) = 2;"
            + " moves(0) = 0"},
        {"11", "from the start on, for both sides",
            "start() = 12; moves(0) = 1; moves(1) = 4; moves(2) = 1; moves(3) = 9; moves(33) = 9; moves(35) = 1"},
        {"11", "wrong squares, no piece",
            "moves(36) throws IndexOutOfBoundsException; moves(-1) throws IndexOutOfBoundsException;"
            + " moves(0) throws NoSuchElementException; wall(0) = 1; moves(0) throws NoSuchElementException"},

        {"12", "how many pieces a move would capture, whichever turn it is",
            "lay(1, 0, 13) = 1; lay(1, 1, 3) = 2; lay(0, 2, 14) = 1; captures(3, 15) = 1; captures(3, 9) = 0;"
            + " captures(14, 8) = 0; account(0) = 1; account(10) = 3; picture(3) = i"},
        {"12", "neither a door nor a wall that remembers a piece is one",
            "lay(0, 0, 13) = 1; lay(0, 1, 3) = 2; lay(1, 2, 14) = 1; lay(1, 0, 35) = 2; wall(12) = 1; move(3, 15) = 1;"
            + " captures(14, 8) throws NoSuchElementException; canMove(14, 8) throws NoSuchElementException;"
            + " moves(14) throws NoSuchElementException; worth(14, 8) throws NoSuchElementException; move(35, 34) = 0;"
            + " door(12) = 2; captures(12, 6) throws NoSuchElementException; canMove(12, 6) throws NoSuchElementException;"
            + " moves(12) throws NoSuchElementException; move(34, 35) = 0; worth(12, 6) throws NoSuchElementException"},
        {"12", "wrong squares, no piece, a move that cannot be",
            "lay(0, 0, 0) = 1; captures(36, 0) throws IndexOutOfBoundsException;"
            + " captures(0, -1) throws IndexOutOfBoundsException; captures(0, 36) throws IndexOutOfBoundsException;"
            + " captures(-1, 1) throws IndexOutOfBoundsException; captures(1, 0) throws NoSuchElementException;"
            + " captures(0, 7) throws NoSuchElementException; captures(0, 0) throws NoSuchElementException;"
            + " captures(0, 1) = 0; captures(5, 36) throws IndexOutOfBoundsException"},

        {"13", "of equal moves the one from the lowest square to the lowest one",
            "lay(0, 0, 14) = 1; lay(0, 0, 20) = 2; lay(1, 0, 35) = 1; best() = 512; move(14, 8) = 0; best() = 1289"},
        {"13", "a capture is better, from a higher square, too",
            "lay(0, 0, 0) = 1; lay(0, 0, 13) = 2; lay(0, 1, 33) = 3; lay(1, 2, 14) = 1; lay(1, 3, 35) = 2;"
            + " best() = 1203; move(33, 15) = 1"},
        {"13", "squares that are sealed count, too",
            "wall(18) = 1; wall(19) = 2; wall(20) = 3; wall(21) = 4; wall(22) = 5; lay(0, 0, 17) = 1; lay(0, 1, 27) = 2;"
            + " lay(0, 0, 0) = 3; lay(0, 0, 8) = 4; lay(1, 0, 23) = 1; lay(1, 0, 7) = 2; lay(1, 0, 5) = 3;"
            + " worth(0, 6) = 10; worth(27, 26) = 0; worth(27, 29) = 22; best() = 1001"},
        {"13", "the game is over, or there is no move",
            "best() throws NoSuchElementException; lay(1, 0, 35) = 1; best() throws NoSuchElementException;"
            + " lay(0, 0, 0) = 1; best() = 1; wall(1) = 1; wall(6) = 2; best() throws NoSuchElementException; door(1) = 0;"
            + " best() = 1289; clear() = 2; lay(0, 0, 0) = 1; move(0, 1) = 0; best() throws NoSuchElementException"},

        {"14", "ten for each capture and one for each sealed square",
            "lay(0, 0, 13) = 1; lay(0, 1, 3) = 2; lay(1, 2, 14) = 1; worth(3, 15) = 45; worth(3, 9) = 0;"
            + " lay(1, 3, 35) = 2; worth(3, 15) = 10; account(4) = 3; picture(3) = I"},
        {"14", "also after the end, for the side whose turn it is",
            "lay(0, 0, 13) = 1; lay(0, 1, 3) = 2; lay(1, 3, 14) = 1; lay(1, 0, 35) = 2; move(3, 15) = 1; account(8) = 1;"
            + " worth(35, 34) = 0; worth(13, 12) throws NoSuchElementException"},
        {"14", "wrong squares, no piece of the side, a move that cannot be",
            "lay(0, 0, 0) = 1; lay(1, 0, 35) = 1; worth(36, 0) throws IndexOutOfBoundsException;"
            + " worth(0, 36) throws IndexOutOfBoundsException; worth(-1, 0) throws IndexOutOfBoundsException;"
            + " worth(0, -1) throws IndexOutOfBoundsException; worth(35, 34) throws NoSuchElementException;"
            + " worth(7, 8) throws NoSuchElementException; worth(0, 7) throws NoSuchElementException; worth(0, 1) = 0;"
            + " worth(7, 36) throws IndexOutOfBoundsException; move(0, 1) = 0; worth(1, 0) throws NoSuchElementException;"
            + " worth(35, 29) = 0"},
    };

    private TurnRuns() {
    }
}
