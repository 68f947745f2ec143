/** Promises 15 to 21: rooms, sealed squares in two ways, steps. */
final class RoomRuns {

    static final String[][] RUNS = {
        {"15", "walls and doors of the other side part rooms",
            "rooms(0) = 1; rooms(1) = 1;" + Boards.GATE + "rooms(0) = 1; rooms(1) = 2"},
        {"15", "pieces do not part rooms, and touching corners do not join them",
            "lay(0, 0, 1) = 1; lay(1, 0, 6) = 1; rooms(0) = 1; rooms(1) = 1; wall(2) = 1; wall(7) = 2; wall(12) = 3;"
            + " rooms(0) = 2; wall(14) = 4; wall(19) = 5; rooms(0) = 3; rooms(1) = 3"},
        {"15", "a row does not go on in the next one",
            "wall(4) = 1; wall(11) = 2; rooms(0) = 2; sealed(0) = 34; roomOf(0, 1, 0) = 1; roomOf(0, 1, 4) = 5"},
        {"15", "wrong sides",
            "rooms(2) throws IndexOutOfBoundsException; rooms(-1) throws IndexOutOfBoundsException"},

        {"16", "rooms are numbered in the order of their lowest squares",
            "wall(1) = 1; wall(6) = 2; wall(4) = 3; wall(11) = 4; wall(29) = 5; wall(34) = 6; room(0, 0) = 0;"
            + " room(0, 2) = 1; room(0, 7) = 1; room(0, 33) = 1; room(0, 5) = 2; room(0, 35) = 3; rooms(0) = 4"},
        {"16", "a door of the other side is not open; one with a piece is open to its side",
            Boards.GATE + "room(0, 17) = 0; room(1, 17) throws NoSuchElementException; room(1, 0) = 0; room(1, 18) = 1;"
            + " room(0, 18) = 0; move(35, 34) = 0; move(11, 17) = 0; room(0, 17) = 0;"
            + " room(1, 17) throws NoSuchElementException"},
        {"16", "wrong sides and squares, a wall",
            "room(2, 0) throws IndexOutOfBoundsException; room(-1, 0) throws IndexOutOfBoundsException;"
            + " room(0, 36) throws IndexOutOfBoundsException; room(0, -1) throws IndexOutOfBoundsException; wall(3) = 1;"
            + " room(0, 3) throws NoSuchElementException; room(1, 3) throws NoSuchElementException;"
            + " room(2, 3) throws IndexOutOfBoundsException"},

        {"17", "squares, pieces of both sides, doors, the lowest square, whether it is sealed",
            Boards.GATE + "roomOf(0, 0, 0) = 31; roomOf(0, 0, 1) = 1; roomOf(0, 0, 2) = 1; roomOf(0, 0, 3) = 1;"
            + " roomOf(0, 0, 4) = 0; roomOf(0, 0, 5) = 0; roomOf(1, 0, 0) = 12; roomOf(1, 0, 1) = 0; roomOf(1, 0, 2) = 1;"
            + " roomOf(1, 0, 3) = 0; roomOf(1, 0, 4) = 0; roomOf(1, 0, 5) = 1; roomOf(1, 1, 0) = 18; roomOf(1, 1, 1) = 1;"
            + " roomOf(1, 1, 2) = 0; roomOf(1, 1, 4) = 18; roomOf(1, 1, 5) = 0"},
        {"17", "a door with a piece counts, too",
            Boards.GATE + "move(35, 34) = 0; move(11, 17) = 0; roomOf(0, 0, 3) = 1; roomOf(0, 0, 0) = 31; roomOf(1, 0, 2) = 0"},
        {"17", "wrong sides, rooms and numbers",
            "roomOf(2, 0, 0) throws IndexOutOfBoundsException; roomOf(-1, 0, 0) throws IndexOutOfBoundsException;"
            + " roomOf(0, 1, 0) throws IndexOutOfBoundsException; roomOf(0, -1, 0) throws IndexOutOfBoundsException;"
            + " roomOf(0, 1, 9) throws IndexOutOfBoundsException; roomOf(0, 0, 6) throws IllegalArgumentException;"
            + " roomOf(0, 0, -1) throws IllegalArgumentException; roomOf(0, 2147483647, 0) throws IndexOutOfBoundsException;"
            + " roomOf(0, 0, 0) = 36"},

        {"18", "the squares of rooms without a piece of the side",
            Boards.GATE + "sealed(0) = 0; sealed(1) = 12"},
        {"18", "all squares are sealed from a side without pieces",
            "sealed(0) = 36; wall(0) = 1; sealed(0) = 35; sealed(1) = 35; lay(0, 0, 1) = 1; sealed(0) = 0; sealed(1) = 35"},
        {"18", "several rooms are sealed",
            "wall(1) = 1; wall(6) = 2; wall(4) = 3; wall(11) = 4; lay(0, 0, 35) = 1; lay(1, 0, 0) = 1; sealed(0) = 2;"
            + " sealed(1) = 31; sealed(2) throws IndexOutOfBoundsException; sealed(-1) throws IndexOutOfBoundsException"},

        {"19", "the same by steps from the pieces",
            Boards.GATE + "sealedAgain(0) = 0; sealedAgain(1) = 12"},
        {"19", "from a side without pieces all is sealed",
            "sealedAgain(0) = 36; wall(0) = 1; sealedAgain(1) = 35; lay(0, 0, 1) = 1; sealedAgain(0) = 0;"
            + " sealedAgain(1) = 35"},
        {"19", "several pieces reach several rooms",
            "wall(1) = 1; wall(6) = 2; wall(4) = 3; wall(11) = 4; lay(0, 0, 35) = 1; lay(0, 0, 5) = 2; sealedAgain(0) = 1;"
            + " sealedAgain(2) throws IndexOutOfBoundsException; sealedAgain(-1) throws IndexOutOfBoundsException"},

        {"20", "over pieces, from the nearest piece, nought on its own square",
            "lay(0, 0, 0) = 1; lay(1, 0, 1) = 1; lay(1, 0, 6) = 2; steps(0, 0) = 0; steps(0, 1) = 1; steps(0, 7) = 2;"
            + " steps(0, 35) = 10; lay(0, 0, 34) = 2; steps(0, 35) = 1; steps(1, 0) = 1"},
        {"20", "round walls, through doors of the side alone",
            Boards.GATE + "steps(0, 17) = 1; steps(0, 23) = 2; steps(0, 35) = 4; steps(1, 18) = 7;"
            + " steps(1, 17) throws NoSuchElementException; steps(1, 11) throws NoSuchElementException;"
            + " steps(0, 12) throws NoSuchElementException"},
        {"20", "the longest way",
            "wall(6) = 1; wall(7) = 2; wall(8) = 3; wall(9) = 4; wall(10) = 5; wall(19) = 6; wall(20) = 7; wall(21) = 8;"
            + " wall(22) = 9; wall(23) = 10; lay(1, 0, 0) = 1; steps(1, 5) = 5; steps(1, 11) = 6; steps(1, 12) = 12;"
            + " steps(1, 24) = 14; wall(30) = 11; wall(31) = 12; wall(32) = 13; wall(33) = 14; wall(34) = 15;"
            + " steps(1, 35) = 20"},
        {"20", "wrong sides and squares, no piece",
            "steps(2, 0) throws IndexOutOfBoundsException; steps(-1, 0) throws IndexOutOfBoundsException;"
            + " steps(0, 36) throws IndexOutOfBoundsException; steps(0, -1) throws IndexOutOfBoundsException;"
            + " steps(0, 0) throws NoSuchElementException"},

        {"21", "the share of the squares that are open to the side",
            "sealedShare(0) = 1.0;" + Boards.GATE + "sealedShare(0) = 0.0; sealedShare(1) = 12/30"},
        {"21", "thirds",
            "wall(1) = 1; wall(6) = 2; wall(7) = 3; lay(0, 0, 0) = 1; lay(1, 0, 35) = 1; sealedShare(1) = 1/33;"
            + " sealedShare(0) = 32/33; sealedShare(2) throws IndexOutOfBoundsException;"
            + " sealedShare(-1) throws IndexOutOfBoundsException"},
        {"21", "no square is open",
            Boards.walls(36) + "sealedShare(0) throws ArithmeticException; sealedShare(1) throws ArithmeticException;"
            + " sealedShare(2) throws IndexOutOfBoundsException; rooms(0) = 0; sealed(0) = 0; sealedAgain(1) = 0;"
            + " room(0, 0) throws NoSuchElementException; roomOf(0, 0, 0) throws IndexOutOfBoundsException"},
    };

    private RoomRuns() {
    }
}
