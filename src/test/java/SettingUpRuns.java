/** Promises 1 to 5: a new object, start, clear, lay, wall. */
final class SettingUpRuns {

    static final String[][] RUNS = {
        {"1", "nothing is on a new board",
            "account(0) = 0; account(1) = 0; account(2) = 0; account(3) = 0; account(4) = 3;"
            + " account(5) = 3; account(6) = 0; account(7) = 0; account(8) = 0; account(9) = 0;"
            + " account(10) = 0; picture(0) = .; picture(35) = .; square(17, 0) = 0;"
            + " square(17, 1) = -1; square(17, 2) = -1; square(17, 3) = 0; rooms(0) = 1"},
        {"1", "nothing is kept, saved or remembered at first",
            "errorPosition() throws NoSuchElementException; reason(false) throws NoSuchElementException;"
            + " reason(true) throws NoSuchElementException; undo() throws NoSuchElementException;"
            + " restore() throws IllegalStateException; best() throws NoSuchElementException"},
        {"1", "a new object is before the first turn", "lay(1, 0, 7) = 1; wall(8) = 1"},

        {"2", "where the pieces stand",
            "start() = 12; picture(0) = U; picture(1) = I; picture(2) = K; picture(3) = W;"
            + " picture(4) = I; picture(5) = U; picture(30) = u; picture(31) = i; picture(32) = k;"
            + " picture(33) = w; picture(34) = i; picture(35) = u; picture(6) = .; picture(29) = .;"
            + " account(0) = 6; account(1) = 6; account(2) = 0; account(10) = 1; best() = 6"},
        {"2", "a start after turns takes all back to the first",
            "lay(0, 0, 0) = 1; wall(1) = 1; lay(1, 0, 35) = 1; door(1) = 0; start() = 12;"
            + " account(2) = 0; account(3) = 0; account(4) = 3; account(6) = 0; account(7) = 0;"
            + " picture(1) = I; square(1, 3) = 0; wall(14) = 1; undo() = 5; undo() = 4;"
            + " picture(1) = (; account(4) = 0"},
        {"2", "a start after the end begins anew and keeps the input",
            "lay(0, 0, 0) = 1; text(\"+a\") = 2; move(0, 1) = 0; account(8) = 1; start() = 12;"
            + " account(8) = 0; account(9) = 2; move(0, 6) = 0"},

        {"3", "the number of pieces that there were",
            "clear() = 0; start() = 12; wall(14) = 1; clear() = 12; clear() = 0; account(0) = 0;"
            + " account(2) = 0; account(10) = 5; picture(0) = .; picture(14) = ."},
        {"3", "coins, turns and the end are as at first",
            "lay(0, 0, 13) = 1; lay(0, 1, 3) = 2; lay(1, 2, 14) = 1; move(3, 15) = 1; account(4) = 5;"
            + " account(8) = 1; clear() = 2; account(4) = 3; account(5) = 3; account(6) = 0;"
            + " account(7) = 0; account(8) = 0; lay(0, 0, 14) = 1; square(14, 0) = 1;"
            + " square(14, 2) = 0; undo() = 5; undo() = 4; account(4) = 5; account(8) = 1"},
        {"3", "no door and no memory stays",
            "lay(0, 0, 0) = 1; wall(1) = 1; lay(1, 0, 35) = 1; door(1) = 0; clear() = 2;"
            + " account(3) = 0; square(1, 1) = -1; rooms(1) = 1; sealed(1) = 36"},

        {"4", "the pieces of the side are counted",
            "lay(0, 0, 0) = 1; lay(0, 1, 1) = 2; lay(1, 2, 35) = 1; lay(0, 3, 2) = 3; lay(1, 3, 34) = 2;"
            + " square(0, 2) = 0; square(1, 2) = 1; square(35, 2) = 2; square(34, 2) = 3;"
            + " square(35, 1) = 1; square(2, 1) = 0; account(10) = 5"},
        {"4", "wrong sides, squares and kinds, the first documented one first",
            "lay(2, 0, 0) throws IndexOutOfBoundsException; lay(-1, 0, 0) throws IndexOutOfBoundsException;"
            + " lay(0, 0, 36) throws IndexOutOfBoundsException; lay(0, 0, -1) throws IndexOutOfBoundsException;"
            + " lay(0, 9, 36) throws IndexOutOfBoundsException; lay(5, 9, 0) throws IndexOutOfBoundsException;"
            + " lay(0, 4, 0) throws IllegalArgumentException; lay(0, -1, 0) throws IllegalArgumentException;"
            + " lay(0, 0, 0) = 1; lay(0, 4, 0) throws IllegalArgumentException;"
            + " lay(1, 0, 0) throws IllegalStateException; lay(0, 0, 2147483647) throws IndexOutOfBoundsException;"
            + " lay(-2147483648, 0, 1) throws IndexOutOfBoundsException; account(10) = 1; account(0) = 1"},
        {"4", "something on the square, a second keeper, a turn that was taken",
            "wall(3) = 1; lay(0, 0, 3) throws IllegalStateException; lay(0, 3, 4) = 1;"
            + " lay(0, 3, 5) throws IllegalStateException; lay(1, 3, 35) = 1; lay(1, 3, 5) throws IllegalStateException;"
            + " lay(0, 2, 4) throws IllegalStateException; undo() = 2; lay(1, 3, 5) = 1; move(4, 10) = 0;"
            + " lay(0, 0, 20) throws IllegalStateException; lay(0, 4, 20) throws IllegalArgumentException;"
            + " lay(0, 0, 40) throws IndexOutOfBoundsException; undo() = 3; lay(0, 0, 20) = 2"},

        {"5", "the walls are counted and remember nothing",
            "wall(0) = 1; wall(35) = 2; square(0, 0) = 2; square(0, 1) = -1; square(0, 2) = -1;"
            + " square(0, 3) = 0; picture(35) = #; account(2) = 2; account(10) = 2; lay(0, 0, 1) = 1;"
            + " buy(0) throws UnsupportedOperationException; reason(false) = 5"},
        {"5", "wrong squares, something on the square, a turn that was taken",
            "wall(36) throws IndexOutOfBoundsException; wall(-1) throws IndexOutOfBoundsException; wall(7) = 1;"
            + " wall(7) throws IllegalStateException; lay(0, 0, 0) = 1; wall(0) throws IllegalStateException;"
            + " lay(1, 0, 35) = 1; move(0, 1) = 0; wall(20) throws IllegalStateException;"
            + " wall(36) throws IndexOutOfBoundsException; account(10) = 4; account(2) = 1"},
        {"5", "no wall after a purchase either",
            "lay(0, 0, 0) = 1; lay(1, 0, 35) = 1; wall(1) = 1; door(1) = 0;"
            + " wall(20) throws IllegalStateException; undo() = 3; wall(20) = 2"},
    };

    private SettingUpRuns() {
    }
}
