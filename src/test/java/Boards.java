/** Calls that build boards which several tests begin with, written for Script. */
final class Boards {

    /** A rider of side 1 captures a runner of side 0 on square 14; then it is the turn of side 0. */
    static final String LOST_RUNNER = lost(0);

    /** Row 2 is all walls, but for a door of side 0 in column 5, with a piece of side 0 ahead of it. */
    static final String GATE = "wall(12) = 1; wall(13) = 2; wall(14) = 3; wall(15) = 4; wall(16) = 5;"
            + " wall(17) = 6; lay(0, 0, 11) = 1; lay(1, 0, 35) = 1; door(17) = 0; ";

    /**
     * The longest way that there can be, from square 0 to square 29: 23 steps between walls. No way on
     * six by six squares is longer, if no two of its squares are neighbours but those of one step.
     */
    static final String LONGEST_WAY = "wall(6) = 1; wall(7) = 2; wall(8) = 3; wall(9) = 4; wall(10) = 5; wall(15) = 6;"
            + " wall(19) = 7; wall(23) = 8; wall(26) = 9; wall(27) = 10; wall(28) = 11; wall(30) = 12; ";

    /** With a piece of each side on square 0 and on square 35: 56 turns, and all is as before. */
    static final String SHUTTLE = "move(0, 6) = 0; move(35, 34) = 0; move(6, 0) = 0; move(34, 35) = 0; ".repeat(14);

    /** The next three turns. */
    static final String THREE_MORE = "move(0, 6) = 0; move(35, 34) = 0; move(6, 0) = 0; ";

    static final String SIXTY_TURNS = "lay(0, 0, 0) = 1; lay(1, 0, 35) = 1; " + SHUTTLE + THREE_MORE
            + "move(34, 35) = 0; ";

    private Boards() {
    }

    /** Side 1 captures a piece of this kind on square 14; then it is the turn of side 0, with 3 coins. */
    static String lost(int kind) {
        return "lay(0, " + kind + ", 14) = 1; lay(0, 0, 20) = 2; lay(0, 0, 35) = 3; lay(1, 0, 13) = 1; lay(1, 1, 3) = 2;"
            + " move(35, 34) = 0; move(3, 15) = 1; ";
    }

    /** The same, but side 0 has bought a door instead of its move, and has no coins. */
    static String lostWithoutCoins(int kind) {
        return "wall(34) = 1; lay(0, " + kind + ", 14) = 1; lay(0, 0, 20) = 2; lay(0, 0, 35) = 3; lay(1, 0, 13) = 1;"
            + " lay(1, 1, 3) = 2; door(34) = 0; move(3, 15) = 1; ";
    }

    /** Walls on the first squares. */
    static String walls(int many) {
        StringBuilder calls = new StringBuilder();
        for (int square = 0; square < many; square++) {
            calls.append("wall(").append(square).append(") = ").append(square + 1).append("; ");
        }
        return calls.toString();
    }

    /** Walls on every second square of each row, so that no two free squares are neighbours. */
    static String oddWalls() {
        StringBuilder calls = new StringBuilder();
        int count = 0;
        for (int square = 0; square < 36; square++) {
            if ((square / 6 + square % 6) % 2 == 1) {
                count++;
                calls.append("wall(").append(square).append(") = ").append(count).append("; ");
            }
        }
        return calls.toString();
    }

    /** Runners of a side on the squares from a first one to ahead of a last one, in their order. */
    static String runners(int side, int first, int last, int before) {
        StringBuilder calls = new StringBuilder();
        for (int square = first; square < last; square++) {
            calls.append("lay(").append(side).append(", 0, ").append(square).append(") = ")
                    .append(before + square - first + 1).append("; ");
        }
        return calls.toString();
    }

    /** Runners of a side on all squares. */
    static String full(int side) {
        return runners(side, 0, 36, 0);
    }
}
