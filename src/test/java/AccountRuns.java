/** Promises 26 to 30 (picture, accounts, undo, save, restore), and the document's examples. */
final class AccountRuns {

    static final String[][] RUNS = {
        {"26", "each kind of each side, walls, doors, nothing",
            "lay(0, 0, 0) = 1; lay(0, 1, 6) = 2; lay(0, 2, 12) = 3; lay(0, 3, 18) = 4; lay(1, 0, 35) = 1;"
            + " lay(1, 1, 29) = 2; lay(1, 2, 23) = 3; lay(1, 3, 17) = 4; wall(1) = 1; wall(34) = 2; wall(2) = 3;"
            + " picture(0) = U; picture(6) = I; picture(12) = W; picture(18) = K; picture(35) = u; picture(29) = i;"
            + " picture(23) = w; picture(17) = k; picture(1) = #; door(1) = 0; door(34) = 0; picture(1) = (;"
            + " picture(34) = ); picture(2) = #; picture(3) = .; move(0, 1) = 0; picture(1) = U; picture(0) = ."},
        {"26", "wrong indices",
            "picture(36) throws IndexOutOfBoundsException; picture(-1) throws IndexOutOfBoundsException;"
            + " picture(-2147483648) throws IndexOutOfBoundsException"},

        {"27", "all accounts after a few turns",
            "lay(0, 0, 0) = 1; lay(0, 1, 33) = 2; lay(0, 0, 13) = 3; lay(1, 2, 14) = 1; lay(1, 0, 35) = 2; wall(1) = 1;"
            + " wall(20) = 2; move(33, 15) = 1; move(35, 34) = 0; door(1) = 2; text(\"ab\") = 2; account(0) = 3;"
            + " account(1) = 1; account(2) = 2; account(3) = 1; account(4) = 2; account(5) = 3; account(6) = 3;"
            + " account(7) = 1; account(8) = 0; account(9) = 2; account(10) = 6"},
        {"27", "doors with pieces count",
            "lay(0, 0, 0) = 1; wall(1) = 1; lay(1, 0, 35) = 1; door(1) = 0; move(35, 34) = 0; move(0, 1) = 0;"
            + " account(3) = 1; account(0) = 1; account(2) = 0"},
        {"27", "wrong accounts",
            "account(11) throws IllegalArgumentException; account(-1) throws IllegalArgumentException;"
            + " account(2147483647) throws IllegalArgumentException"},

        {"28", "at most six changes are remembered",
            "lay(0, 0, 0) = 1; lay(0, 0, 1) = 2; lay(0, 0, 2) = 3; lay(0, 0, 3) = 4; lay(0, 0, 4) = 5; lay(0, 0, 5) = 6;"
            + " account(10) = 6; lay(0, 0, 6) = 7; lay(0, 0, 7) = 8; account(10) = 6; undo() = 5; account(0) = 7; undo() = 4;"
            + " undo() = 3; undo() = 2; lay(0, 3, 20) = 5; undo() = 2; undo() = 1; undo() = 0; account(0) = 2; picture(1) = U;"
            + " picture(2) = .; undo() throws NoSuchElementException; account(0) = 2; lay(0, 0, 30) = 3; undo() = 0"},
        {"28", "each kind of change is undone, and nothing else is remembered",
            "start() = 12; text(\"a1-a2\") = 5; account(10) = 1; read() = 1; account(10) = 2; undo() = 1; account(9) = 0;"
            + " clear() = 12; undo() = 1; account(0) = 6; move(0, 6) = 0; move(30, 24) = 0; move(6, 5) throws"
            + " UnsupportedOperationException; account(10) = 3; save() = 12; best() = 36; undo() = 2; account(7) = 1;"
            + " undo() = 1; undo() = 0; account(0) = 0"},
        {"28", "coins, memories, doors and the end come back",
            "lay(0, 0, 13) = 1; lay(0, 1, 3) = 2; lay(1, 3, 14) = 1; wall(12) = 1; lay(1, 0, 35) = 2; door(12) = 0;"
            + " move(35, 34) = 0; move(3, 15) = 1; account(8) = 1; undo() = 5; account(8) = 0; account(4) = 0;"
            + " picture(14) = k; square(14, 0) = 1; undo() = 4; undo() = 3; account(4) = 3; account(3) = 0;"
            + " picture(12) = #; account(6) = 0"},

        {"29", "the number of pieces; what was saved before is replaced",
            "save() = 0; start() = 12; save() = 12; account(10) = 1; clear() = 12; restore() = 12; clear() = 12;"
            + " lay(0, 0, 0) = 1; save() = 1; start() = 12; restore() = 1; picture(0) = U; account(0) = 1"},
        {"29", "saving is no change, and undo leaves it",
            "lay(0, 0, 0) = 1; save() = 1; lay(0, 0, 1) = 2; undo() = 1; undo() = 0; restore() = 1; account(0) = 1"},

        {"30", "restored again and again, with coins, turns, doors and the end",
            "lay(0, 0, 0) = 1; wall(1) = 1; door(1) = 0; account(8) = 1; save() = 1; start() = 12; restore() = 1;"
            + " account(8) = 1; account(4) = 0; account(6) = 1; picture(1) = (; clear() = 1; restore() = 1; account(7) = 1;"
            + " account(10) = 0; undo() throws NoSuchElementException"},
        {"30", "the history is forgotten; the input stays",
            "lay(0, 0, 0) = 1; lay(1, 0, 35) = 1; save() = 2; move(0, 1) = 0; text(\"abc\") = 3; account(10) = 3;"
            + " restore() = 2; account(10) = 0; account(9) = 3; undo() throws NoSuchElementException; picture(0) = U;"
            + " move(0, 6) = 0; account(10) = 1; undo() = 0; picture(0) = U"},
        {"30", "memories are restored",
            "lay(0, 0, 14) = 1; lay(0, 0, 20) = 2; lay(1, 0, 13) = 1; lay(1, 1, 3) = 2; move(20, 19) = 0; move(3, 15) = 1;"
            + " save() = 3; move(19, 20) = 0; move(15, 16) = 0; buy(14) = 1; restore() = 3; square(14, 0) = 2;"
            + " square(14, 1) = 0; square(14, 2) = 0; account(4) = 3; account(6) = 2"},
        {"30", "nothing was saved",
            "restore() throws IllegalStateException; start() = 12; restore() throws IllegalStateException; account(10) = 1;"
            + " account(0) = 6"},

        {"6", "the document's example of captures and a door",
            "lay(0, 0, 13) = 1; lay(0, 1, 3) = 2; lay(1, 2, 14) = 1; lay(1, 3, 35) = 2; captures(3, 15) = 1; best() = 123;"
            + " move(3, 15) = 1; square(14, 0) = 2; account(4) = 5; move(35, 34) = 0; door(14) = 2; square(14, 1) = 0;"
            + " picture(14) = (; rooms(1) = 1; sealed(1) = 0; undo() = 5"},
        {"18", "the document's example of sealed rooms",
            "wall(1) = 1; wall(6) = 2; lay(0, 0, 0) = 1; lay(1, 0, 35) = 1; rooms(1) = 2; sealed(1) = 1; sealedAgain(1) = 1;"
            + " steps(1, 2) = 8; moves(0) = 0; move(0, 1) throws UnsupportedOperationException; reason(false) = 3; door(1) = 0;"
            + " rooms(0) = 1; sealed(0) = 0; account(7) = 1; picture(1) = ("},
    };

    private AccountRuns() {
    }
}
