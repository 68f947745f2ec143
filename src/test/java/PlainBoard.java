import java.util.ArrayDeque;
import java.util.ArrayList;
import java.util.Arrays;
import java.util.Deque;
import java.util.List;
import java.util.NoSuchElementException;

/**
 * The document once more, square by square and as slowly as its words go: what SealedBoard is
 * compared with. It shares no code and no way of holding the board with it.
 */
final class PlainBoard {

    private static final class Cell {
        boolean isPiece;
        boolean isWall;
        boolean isDoor;
        int side = -1;
        int kind = -1;

        Cell copy() {
            Cell other = new Cell();
            other.isPiece = isPiece;
            other.isWall = isWall;
            other.isDoor = isDoor;
            other.side = side;
            other.kind = kind;
            return other;
        }
    }

    private static final class State {
        final Cell[][] cells = new Cell[6][6];
        int[] coins = {3, 3};
        int turns;
        int ending;

        State() {
            for (Cell[] row : cells) {
                for (int column = 0; column < 6; column++) {
                    row[column] = new Cell();
                }
            }
        }

        State copy() {
            State other = new State();
            for (int square = 0; square < 36; square++) {
                other.cells[square / 6][square % 6] = cell(square).copy();
            }
            other.coins = coins.clone();
            other.turns = turns;
            other.ending = ending;
            return other;
        }

        Cell cell(int square) {
            return cells[square / 6][square % 6];
        }
    }

    private static final int[][] STEPS = {{0, 1}, {1, 0}, {0, -1}, {-1, 0}};

    private State now = new State();
    private State saved;
    private final Deque<State> past = new ArrayDeque<>();
    private String input = "";
    private int errorPosition = -1;
    private int[] reason;

    // ---- small things

    private static void needSquare(int square) {
        if (square < 0 || square > 35) {
            throw new IndexOutOfBoundsException();
        }
    }

    private static void needSide(int side) {
        if (side != 0 && side != 1) {
            throw new IndexOutOfBoundsException();
        }
    }

    private static boolean isOnBoard(int row, int column) {
        return row >= 0 && row < 6 && column >= 0 && column < 6;
    }

    private static List<Integer> neighbours(int square) {
        List<Integer> all = new ArrayList<>();
        for (int[] step : STEPS) {
            int row = square / 6 + step[0];
            int column = square % 6 + step[1];
            if (isOnBoard(row, column)) {
                all.add(row * 6 + column);
            }
        }
        return all;
    }

    private boolean isPieceOf(State state, int side, int square) {
        return state.cell(square).isPiece && state.cell(square).side == side;
    }

    private boolean isOpen(State state, int side, int square) {
        Cell cell = state.cell(square);
        return !cell.isWall && !(cell.isDoor && cell.side != side);
    }

    private boolean isFree(State state, int side, int square) {
        return isOpen(state, side, square) && !state.cell(square).isPiece;
    }

    private int count(State state, int side) {
        int count = 0;
        for (int square = 0; square < 36; square++) {
            count += isPieceOf(state, side, square) ? 1 : 0;
        }
        return count;
    }

    private int countAll() {
        return count(now, 0) + count(now, 1);
    }

    private int keeper(State state, int side) {
        for (int square = 0; square < 36; square++) {
            if (isPieceOf(state, side, square) && state.cell(square).kind == 3) {
                return square;
            }
        }
        return -1;
    }

    private void remember() {
        past.addLast(now.copy());
        if (past.size() > 6) {
            past.removeFirst();
        }
    }

    // ---- setting up

    int start() {
        remember();
        now = new State();
        int[] kinds = {0, 1, 3, 2, 1, 0};
        for (int column = 0; column < 6; column++) {
            place(now, 0, kinds[column], column);
            place(now, 1, kinds[column], 30 + column);
        }
        return countAll();
    }

    int clear() {
        remember();
        int count = countAll();
        now = new State();
        return count;
    }

    private void place(State state, int side, int kind, int square) {
        Cell cell = state.cell(square);
        cell.isPiece = true;
        cell.isWall = false;
        cell.side = side;
        cell.kind = kind;
    }

    private boolean isNothing(int square) {
        Cell cell = now.cell(square);
        return !cell.isPiece && !cell.isWall && !cell.isDoor;
    }

    int lay(int side, int kind, int square) {
        needSide(side);
        needSquare(square);
        if (kind < 0 || kind > 3) {
            throw new IllegalArgumentException();
        }
        if (now.turns > 0 || !isNothing(square) || kind == 3 && keeper(now, side) >= 0) {
            throw new IllegalStateException();
        }
        remember();
        place(now, side, kind, square);
        return count(now, side);
    }

    int wall(int square) {
        needSquare(square);
        if (now.turns > 0 || !isNothing(square)) {
            throw new IllegalStateException();
        }
        remember();
        now.cell(square).isWall = true;
        return account(2);
    }

    // ---- moving

    private List<Integer> targets(State state, int from) {
        Cell piece = state.cell(from);
        boolean[] can = new boolean[36];
        if (piece.kind == 1) {
            for (int[] step : STEPS) {
                int row = from / 6 + step[0];
                int column = from % 6 + step[1];
                while (isOnBoard(row, column) && isFree(state, piece.side, row * 6 + column)) {
                    can[row * 6 + column] = true;
                    row += step[0];
                    column += step[1];
                }
            }
        } else {
            walk(state, piece.side, from, from, piece.kind == 2 ? 3 : 1, can);
        }
        List<Integer> all = new ArrayList<>();
        for (int square = 0; square < 36; square++) {
            if (can[square]) {
                all.add(square);
            }
        }
        return all;
    }

    private void walk(State state, int side, int own, int at, int steps, boolean[] can) {
        if (steps == 0) {
            return;
        }
        for (int next : neighbours(at)) {
            if (next != own && isFree(state, side, next)) {
                can[next] = true;
                walk(state, side, own, next, steps - 1, can);
            }
        }
    }

    /** Moves a piece with its captures; the captured squares are told. */
    private List<Integer> carryOut(State state, int from, int to) {
        Cell old = state.cell(from);
        int side = old.side;
        place(state, side, old.kind, to);
        old.isPiece = false;
        old.kind = -1;
        if (!old.isDoor) {
            old.side = -1;
        }
        List<Integer> captured = new ArrayList<>();
        for (int[] step : STEPS) {
            int row = to / 6 + 2 * step[0];
            int column = to % 6 + 2 * step[1];
            if (isOnBoard(row, column) && isPieceOf(state, side, row * 6 + column)) {
                int between = (to / 6 + step[0]) * 6 + to % 6 + step[1];
                if (isPieceOf(state, 1 - side, between)) {
                    captured.add(between);
                }
            }
        }
        for (int square : captured) {
            Cell cell = state.cell(square);
            cell.isPiece = false;
            cell.isDoor = false;
            cell.isWall = true;
        }
        return captured;
    }

    private boolean hasMove(State state, int side) {
        for (int square = 0; square < 36; square++) {
            if (isPieceOf(state, side, square) && !targets(state, square).isEmpty()) {
                return true;
            }
        }
        return false;
    }

    private void finishTurn(State state, boolean isKeeperTaken) {
        int side = state.turns % 2;
        state.turns++;
        if (isKeeperTaken || !hasMove(state, 1 - side)) {
            state.ending = 1 + side;
        } else if (state.turns == 60) {
            state.ending = 3;
        }
    }

    private int[] refusalOfMove(State state, int from, int to) {
        if (state.ending != 0) {
            return new int[] {1, state.turns};
        }
        if (!isPieceOf(state, state.turns % 2, from)) {
            return new int[] {2, from};
        }
        return targets(state, from).contains(to) ? null : new int[] {3, to};
    }

    private int takeMove(State state, int from, int to) {
        int side = state.turns % 2;
        boolean isKeeperTaken = false;
        List<Integer> captured = carryOut(state, from, to);
        for (int square : captured) {
            state.coins[side] += 2;
            isKeeperTaken |= state.cell(square).kind == 3;
        }
        finishTurn(state, isKeeperTaken);
        return captured.size();
    }

    private int price(State state, int square, boolean isDoor) {
        return isDoor ? 3 : 2 + state.cell(square).kind;
    }

    private int[] refusalOfPurchase(State state, int square, boolean isDoor) {
        int side = state.turns % 2;
        Cell cell = state.cell(square);
        if (state.ending != 0) {
            return new int[] {1, state.turns};
        }
        if (!cell.isWall) {
            return new int[] {4, square};
        }
        if (!isDoor && cell.side != side) {
            return new int[] {5, square};
        }
        boolean hasNeighbour = false;
        for (int next : neighbours(square)) {
            hasNeighbour |= isPieceOf(state, side, next);
        }
        if (!hasNeighbour) {
            return new int[] {6, square};
        }
        if (!isDoor && cell.kind == 3 && keeper(state, side) >= 0) {
            return new int[] {7, keeper(state, side)};
        }
        int missing = price(state, square, isDoor) - state.coins[side];
        return missing > 0 ? new int[] {8, missing} : null;
    }

    private int takePurchase(State state, int square, boolean isDoor) {
        int side = state.turns % 2;
        state.coins[side] -= price(state, square, isDoor);
        Cell cell = state.cell(square);
        cell.isWall = false;
        if (isDoor) {
            cell.isDoor = true;
            cell.side = side;
            cell.kind = -1;
        } else {
            cell.isPiece = true;
        }
        finishTurn(state, false);
        return state.coins[side];
    }

    private void keepAndRefuse(int[] refusal) {
        if (refusal != null) {
            reason = refusal;
            throw new UnsupportedOperationException();
        }
    }

    int move(int from, int to) {
        needSquare(from);
        needSquare(to);
        keepAndRefuse(refusalOfMove(now, from, to));
        remember();
        return takeMove(now, from, to);
    }

    int door(int square) {
        return purchase(square, true);
    }

    int buy(int square) {
        return purchase(square, false);
    }

    private int purchase(int square, boolean isDoor) {
        needSquare(square);
        keepAndRefuse(refusalOfPurchase(now, square, isDoor));
        remember();
        return takePurchase(now, square, isDoor);
    }

    int square(int square, int what) {
        needSquare(square);
        Cell cell = now.cell(square);
        switch (what) {
            case 0:
                return cell.isPiece ? 1 : cell.isWall ? 2 : cell.isDoor ? 3 : 0;
            case 1:
                return cell.side;
            case 2:
                return cell.kind;
            case 3:
                return cell.isDoor ? 1 : 0;
            default:
                throw new IllegalArgumentException();
        }
    }

    private void needPiece(int square) {
        if (!now.cell(square).isPiece) {
            throw new NoSuchElementException();
        }
    }

    boolean canMove(int from, int to) {
        needSquare(from);
        needSquare(to);
        needPiece(from);
        return targets(now, from).contains(to);
    }

    int moves(int from) {
        needSquare(from);
        needPiece(from);
        return targets(now, from).size();
    }

    int captures(int from, int to) {
        if (!canMove(from, to)) {
            throw new NoSuchElementException();
        }
        return carryOut(now.copy(), from, to).size();
    }

    int worth(int from, int to) {
        if (!canMove(from, to) || now.cell(from).side != now.turns % 2) {
            throw new NoSuchElementException();
        }
        State then = now.copy();
        int captured = carryOut(then, from, to).size();
        return 10 * captured + sealedOf(then, 1 - now.turns % 2);
    }

    int best() {
        int best = -1;
        for (int from = 35; from >= 0 && now.ending == 0; from--) {
            if (!isPieceOf(now, now.turns % 2, from)) {
                continue;
            }
            List<Integer> targets = targets(now, from);
            for (int at = targets.size() - 1; at >= 0; at--) {
                int to = targets.get(at);
                if (best < 0 || worth(from, to) >= worth(best / 36, best % 36)) {
                    best = from * 36 + to;
                }
            }
        }
        if (best < 0) {
            throw new NoSuchElementException();
        }
        return best;
    }

    // ---- rooms

    private int[] numbered(State state, int side) {
        int[] numbers = new int[36];
        Arrays.fill(numbers, -1);
        int count = 0;
        for (int square = 0; square < 36; square++) {
            if (numbers[square] < 0 && isOpen(state, side, square)) {
                fill(state, side, square, numbers, count);
                count++;
            }
        }
        return numbers;
    }

    private void fill(State state, int side, int square, int[] numbers, int number) {
        if (numbers[square] >= 0 || !isOpen(state, side, square)) {
            return;
        }
        numbers[square] = number;
        for (int next : neighbours(square)) {
            fill(state, side, next, numbers, number);
        }
    }

    private int sealedOf(State state, int side) {
        int[] numbers = numbered(state, side);
        boolean[] isHeld = new boolean[37];
        for (int square = 0; square < 36; square++) {
            if (isPieceOf(state, side, square)) {
                isHeld[numbers[square]] = true;
            }
        }
        int count = 0;
        for (int number : numbers) {
            count += number >= 0 && !isHeld[number] ? 1 : 0;
        }
        return count;
    }

    int rooms(int side) {
        needSide(side);
        int greatest = -1;
        for (int number : numbered(now, side)) {
            greatest = Math.max(greatest, number);
        }
        return greatest + 1;
    }

    int room(int side, int square) {
        needSide(side);
        needSquare(square);
        int number = numbered(now, side)[square];
        if (number < 0) {
            throw new NoSuchElementException();
        }
        return number;
    }

    int roomOf(int side, int room, int what) {
        needSide(side);
        if (room < 0 || room >= rooms(side)) {
            throw new IndexOutOfBoundsException();
        }
        if (what < 0 || what > 5) {
            throw new IllegalArgumentException();
        }
        int[] numbers = numbered(now, side);
        int[] told = {0, 0, 0, 0, -1, 1};
        for (int square = 0; square < 36; square++) {
            if (numbers[square] == room) {
                told[0]++;
                told[1] += isPieceOf(now, side, square) ? 1 : 0;
                told[2] += isPieceOf(now, 1 - side, square) ? 1 : 0;
                told[3] += now.cell(square).isDoor ? 1 : 0;
                told[4] = told[4] < 0 ? square : told[4];
            }
        }
        told[5] = told[1] == 0 ? 1 : 0;
        return told[what];
    }

    int sealed(int side) {
        needSide(side);
        return sealedOf(now, side);
    }

    int sealedAgain(int side) {
        needSide(side);
        int count = 0;
        for (int square = 0; square < 36; square++) {
            count += isOpen(now, side, square) && distance(side, square) < 0 ? 1 : 0;
        }
        return count;
    }

    private int distance(int side, int square) {
        if (!isOpen(now, side, square)) {
            return -1;
        }
        int[] far = new int[36];
        Arrays.fill(far, -1);
        far[square] = 0;
        Deque<Integer> queue = new ArrayDeque<>(List.of(square));
        while (!queue.isEmpty()) {
            int at = queue.removeFirst();
            if (isPieceOf(now, side, at)) {
                return far[at];
            }
            for (int next : neighbours(at)) {
                if (far[next] < 0 && isOpen(now, side, next)) {
                    far[next] = far[at] + 1;
                    queue.addLast(next);
                }
            }
        }
        return -1;
    }

    int steps(int side, int square) {
        needSide(side);
        needSquare(square);
        int distance = distance(side, square);
        if (distance < 0) {
            throw new NoSuchElementException();
        }
        return distance;
    }

    double sealedShare(int side) {
        needSide(side);
        double open = 0;
        for (int square = 0; square < 36; square++) {
            open += isOpen(now, side, square) ? 1 : 0;
        }
        if (open == 0) {
            throw new ArithmeticException();
        }
        return sealedOf(now, side) / open;
    }

    // ---- texts, accounts, history and saving

    int append(char character) {
        if (character < ' ' || character > '~') {
            throw new IllegalArgumentException();
        }
        if (input.length() == 60) {
            throw new IllegalStateException();
        }
        input += character;
        return input.length();
    }

    private static boolean isStart(String text) {
        // Every start of a text is a whole turn and a semicolon, often, and the start of a turn.
        String square = "[a-f][1-6]";
        String turn = "(" + square + "-" + square + "|[+*]" + square + ")";
        String part = "([a-f]|" + square + "|" + square + "-|" + square + "-[a-f]|[+*]|[+*][a-f]|"
                + turn + ")?";
        return text.matches("(" + turn + ";)*" + part);
    }

    int read() {
        String text = input;
        input = "";
        if (!text.matches("([a-f][1-6]-[a-f][1-6]|[+*][a-f][1-6])(;([a-f][1-6]-|[+*])[a-f][1-6])*")) {
            errorPosition = 0;
            while (errorPosition < text.length() && isStart(text.substring(0, errorPosition + 1))) {
                errorPosition++;
            }
            throw new IllegalArgumentException();
        }
        State then = now.copy();
        String[] turns = text.split(";");
        for (String turn : turns) {
            keepAndRefuse(takeText(then, turn));
        }
        remember();
        now = then;
        return turns.length;
    }

    private int[] takeText(State state, String turn) {
        int[] squares = new int[2];
        String[] names = turn.replaceAll("[+*]", "").split("-");
        for (int at = 0; at < names.length; at++) {
            squares[at] = "123456".indexOf(names[at].charAt(1)) * 6
                    + "abcdef".indexOf(names[at].charAt(0));
        }
        if (turn.contains("-")) {
            int[] refusal = refusalOfMove(state, squares[0], squares[1]);
            if (refusal == null) {
                takeMove(state, squares[0], squares[1]);
            }
            return refusal;
        }
        boolean isDoor = turn.startsWith("+");
        int[] refusal = refusalOfPurchase(state, squares[0], isDoor);
        if (refusal == null) {
            takePurchase(state, squares[0], isDoor);
        }
        return refusal;
    }

    int errorPosition() {
        if (errorPosition < 0) {
            throw new NoSuchElementException();
        }
        return errorPosition;
    }

    int reason(boolean isDetail) {
        if (reason == null) {
            throw new NoSuchElementException();
        }
        return reason[isDetail ? 1 : 0];
    }

    char picture(int index) {
        needSquare(index);
        Cell cell = now.cell(index);
        if (cell.isPiece) {
            return "UIWKuiwk".charAt(4 * cell.side + cell.kind);
        }
        return cell.isWall ? '#' : cell.isDoor ? "()".charAt(cell.side) : '.';
    }

    int account(int account) {
        int walls = 0;
        int doors = 0;
        for (int square = 0; square < 36; square++) {
            walls += now.cell(square).isWall ? 1 : 0;
            doors += now.cell(square).isDoor ? 1 : 0;
        }
        int[] accounts = {count(now, 0), count(now, 1), walls, doors, now.coins[0], now.coins[1],
            now.turns, now.turns % 2, now.ending, input.length(), past.size()};
        if (account < 0 || account >= accounts.length) {
            throw new IllegalArgumentException();
        }
        return accounts[account];
    }

    int undo() {
        if (past.isEmpty()) {
            throw new NoSuchElementException();
        }
        now = past.removeLast();
        return past.size();
    }

    int save() {
        saved = now.copy();
        return countAll();
    }

    int restore() {
        if (saved == null) {
            throw new IllegalStateException();
        }
        now = saved.copy();
        past.clear();
        return countAll();
    }
}
