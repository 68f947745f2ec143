/** Promises 22 to 25: the input, texts of turns, the error position and the reason. */
final class TextRuns {

    private static final String FULL = "text(\"" + "a1-a2;".repeat(10) + "\") = 60;";

    static final String[][] RUNS = {
        {"22", "the new length, and the codes from 32 to 126",
            "append('a') = 1; append(32) = 2; append(126) = 3; append(31) throws IllegalArgumentException;"
            + " append(127) throws IllegalArgumentException; append(0) throws IllegalArgumentException;"
            + " append(65535) throws IllegalArgumentException; account(9) = 3; account(10) = 0"},
        {"22", "60 characters and no more",
            FULL + "append('a') throws IllegalStateException; append(31) throws IllegalArgumentException; account(9) = 60;"
            + " read() throws IllegalArgumentException; account(9) = 0; append('a') = 1"},

        {"23", "several turns are one change",
            "start() = 12; text(\"a1-a2;a6-a5;b1-b4\") = 17; read() = 3; account(6) = 3; account(7) = 1; account(9) = 0;"
            + " account(10) = 2; picture(19) = I; undo() = 1; account(6) = 0; picture(0) = U; picture(1) = I"},
        {"23", "a door and a piece that is bought back",
            "lay(0, 1, 14) = 1; lay(0, 0, 20) = 2; lay(0, 0, 35) = 3; lay(1, 0, 13) = 1; lay(1, 1, 3) = 2; wall(12) = 1;"
            + " text(\"f6-e6;d1-d3;*c3;+a3\") = 19; read() = 4; picture(14) = I; picture(12) = ); account(4) = 0;"
            + " account(5) = 2; account(6) = 4; account(10) = 6"},
        {"23", "one turn of each kind alone",
            "lay(0, 0, 0) = 1; lay(1, 0, 35) = 1; wall(1) = 1; text(\"+b1\") = 3; read() = 1; picture(1) = (;"
            + " text(\"f6-f5\") = 5; read() = 1; picture(29) = u; text(\"*b1\") = 3;"
            + " read() throws UnsupportedOperationException; reason(false) = 4"},
        {"23", "all or none; the input is empty then",
            "start() = 12; text(\"a1-a2;a6-a5;b1-b6\") = 17; read() throws UnsupportedOperationException; reason(false) = 3;"
            + " reason(true) = 31; account(6) = 0; account(9) = 0; account(10) = 1; picture(0) = U; picture(6) = ."},
        {"23", "a turn is refused behind those ahead of it",
            "lay(0, 0, 0) = 1; text(\"a1-a2;a2-a1\") = 11; read() throws UnsupportedOperationException; reason(false) = 1;"
            + " reason(true) = 1; account(8) = 0; text(\"a1-a2\") = 5; read() = 1; account(8) = 1"},
        {"23", "ten turns, and columns and rows to the last",
            "lay(0, 0, 0) = 1; lay(1, 0, 35) = 1;"
            + " text(\"a1-b1;f6-f5;b1-a1;f5-f6;a1-b1;f6-f5;b1-a1;f5-f6;a1-b1;f6-e6\") = 59; read() = 10; account(6) = 10;"
            + " picture(34) = u; picture(1) = U; account(10) = 3"},
        {"23", "a malformed text changes nothing but the input",
            "start() = 12; text(\"a1-a2;\") = 6; read() throws IllegalArgumentException; account(6) = 0; account(9) = 0;"
            + " account(10) = 1; reason(false) throws NoSuchElementException; errorPosition() = 6"},
        {"23", "a text that is malformed and would be refused is malformed",
            "text(\"a1-a2;x\") = 7; read() throws IllegalArgumentException; reason(false) throws NoSuchElementException;"
            + " errorPosition() = 6"},

        {"24", "the first place at which no text goes on so",
            "read() throws IllegalArgumentException; errorPosition() = 0; text(\"g\") = 1;"
            + " read() throws IllegalArgumentException; errorPosition() = 0; text(\"a0\") = 2;"
            + " read() throws IllegalArgumentException; errorPosition() = 1; text(\"a7-a1\") = 5;"
            + " read() throws IllegalArgumentException; errorPosition() = 1; text(\"f1+\") = 3;"
            + " read() throws IllegalArgumentException; errorPosition() = 2; text(\"a1-g1\") = 5;"
            + " read() throws IllegalArgumentException; errorPosition() = 3; text(\"a1-+a\") = 5;"
            + " read() throws IllegalArgumentException; errorPosition() = 3; text(\"a1-a-\") = 5;"
            + " read() throws IllegalArgumentException; errorPosition() = 4; text(\"a1-a1 \") = 6;"
            + " read() throws IllegalArgumentException; errorPosition() = 5; text(\"a1-a1;;\") = 7;"
            + " read() throws IllegalArgumentException; errorPosition() = 6; text(\"+a1-a2\") = 6;"
            + " read() throws IllegalArgumentException; errorPosition() = 3; text(\"*-\") = 2;"
            + " read() throws IllegalArgumentException; errorPosition() = 1; text(\"A1-a2\") = 5;"
            + " read() throws IllegalArgumentException; errorPosition() = 0"},
        {"24", "the length, if only something is missing",
            "text(\"a\") = 1; read() throws IllegalArgumentException; errorPosition() = 1; text(\"a1\") = 2;"
            + " read() throws IllegalArgumentException; errorPosition() = 2; text(\"a1-\") = 3;"
            + " read() throws IllegalArgumentException; errorPosition() = 3; text(\"a1-a\") = 4;"
            + " read() throws IllegalArgumentException; errorPosition() = 4; text(\"+\") = 1;"
            + " read() throws IllegalArgumentException; errorPosition() = 1; text(\"*b\") = 2;"
            + " read() throws IllegalArgumentException; errorPosition() = 2; text(\"*b1;\") = 4;"
            + " read() throws IllegalArgumentException; errorPosition() = 4;" + FULL
            + " read() throws IllegalArgumentException; errorPosition() = 60"},
        {"24", "it stays until the next malformed text",
            "errorPosition() throws NoSuchElementException; start() = 12; text(\"a1-\") = 3;"
            + " read() throws IllegalArgumentException; text(\"a1-a2\") = 5; read() = 1; errorPosition() = 3; undo() = 1;"
            + " errorPosition() = 3; save() = 12; text(\"a1-a6\") = 5; read() throws UnsupportedOperationException;"
            + " errorPosition() = 3; restore() = 12; clear() = 12; errorPosition() = 3; text(\"x\") = 1;"
            + " read() throws IllegalArgumentException; errorPosition() = 0"},

        {"25", "the reason and its detail, as kept last",
            "reason(true) throws NoSuchElementException; start() = 12; move(0, 12) throws UnsupportedOperationException;"
            + " reason(false) = 3; reason(true) = 12; door(14) throws UnsupportedOperationException; reason(false) = 4;"
            + " reason(true) = 14; move(0, 6) = 0; reason(false) = 4; undo() = 1; reason(true) = 14; start() = 12;"
            + " reason(false) = 4; save() = 12; restore() = 12; reason(true) = 14"},
        {"25", "questions, wrong squares and malformed texts keep none",
            "lay(0, 0, 0) = 1; canMove(0, 5) = false; captures(0, 5) throws NoSuchElementException;"
            + " worth(0, 5) throws NoSuchElementException; move(0, 36) throws IndexOutOfBoundsException;"
            + " door(36) throws IndexOutOfBoundsException; lay(0, 0, 0) throws IllegalStateException;"
            + " read() throws IllegalArgumentException; reason(false) throws NoSuchElementException;"
            + " reason(true) throws NoSuchElementException"},
        {"25", "a text keeps the reason of the turn that is refused",
            "lay(0, 0, 0) = 1; lay(1, 0, 35) = 1; wall(1) = 1; wall(34) = 2; wall(6) = 3;"
            + " text(\"+b1;f6-f5;+a2;f5-f6\") = 19; read() throws UnsupportedOperationException; reason(false) = 8;"
            + " reason(true) = 3; account(4) = 3; picture(1) = #; text(\"+b1;*e6\") = 7;"
            + " read() throws UnsupportedOperationException; reason(false) = 5; reason(true) = 34"},
    };

    private TextRuns() {
    }
}
