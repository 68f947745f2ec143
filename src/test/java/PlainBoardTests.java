import java.util.ArrayList;
import java.util.List;
import java.util.Random;

/**
 * Long runs of calls, made by chance from fixed seeds, on SealedBoard and PlainBoard alike. They ask
 * far more than the 512 calls that the document promises: nothing in the class counts its calls.
 */
final class PlainBoardTests {

    private static final int RUNS = 120;
    private static final int CALLS = 500;
    private static final String[] SIDES_AND_SQUARES = {"room", "steps"};
    private static final String[] SIDES = {"rooms", "sealed", "sealedAgain", "sealedShare"};

    private final Random random;
    private final SealedBoard board = new SealedBoard();
    private final PlainBoard plain = new PlainBoard();
    private final StringBuilder calls = new StringBuilder();
    private boolean isSame = true;

    private PlainBoardTests(int seed) {
        random = new Random(seed);
    }

    static void run(Checks checks) {
        for (int seed = 1; seed <= RUNS; seed++) {
            PlainBoardTests test = new PlainBoardTests(seed);
            for (int call = 0; call < CALLS && test.isSame; call++) {
                test.callOnce();
            }
            checks.isTrue("run " + seed + " is as on the plain board", test.isSame);
        }
    }

    // ---- comparing

    private String call(String name, Object... arguments) {
        String due = Calls.answer(plain, name, arguments);
        String got = Calls.answer(board, name, arguments);
        if (!due.equals(got) && isSame) {
            isSame = false;
            System.out.println(calls + "\n" + name + List.of(arguments) + " answered " + got + ", due is " + due);
        }
        return due;
    }

    private void change(String name, Object... arguments) {
        String answer = call(name, arguments);
        calls.append(name).append(List.of(arguments)).append(" = ").append(answer).append("; ");
        if (answer.startsWith("throws") || random.nextInt(3) == 0) {
            for (int account = -1; account <= 11; account++) {
                call("account", account);
            }
            call("reason", false);
            call("reason", true);
            call("errorPosition");
        }
        if (random.nextInt(6) == 0) {
            compareAll();
        }
    }

    private void compareAll() {
        for (int square = 0; square < 36; square++) {
            call("picture", square);
            call("moves", square);
            for (int what = 0; what < 4; what++) {
                call("square", square, what);
            }
            for (String name : SIDES_AND_SQUARES) {
                call(name, 0, square);
                call(name, 1, square);
            }
            call("canMove", square, random.nextInt(36));
            call("captures", square, random.nextInt(36));
            call("worth", square, random.nextInt(36));
        }
        for (int side = -1; side <= 2; side++) {
            for (String name : SIDES) {
                call(name, side);
            }
            for (int room = -1; room < 5; room++) {
                call("roomOf", side, room, random.nextInt(8) - 1);
            }
        }
        call("best");
    }

    // ---- what is called

    private int square() {
        return random.nextInt(40) == 0 ? random.nextInt(100) - 40 : random.nextInt(36);
    }

    private int side() {
        return random.nextInt(30) == 0 ? random.nextInt(7) - 3 : random.nextInt(2);
    }

    private void callOnce() {
        int chance = random.nextInt(100);
        boolean isSetUp = plain.account(6) == 0;
        if (isSetUp && plain.account(0) + plain.account(1) < 4 + random.nextInt(10)) {
            setUp();
        } else if (chance < 60) {
            moveWell();
        } else if (chance < 72) {
            purchase();
        } else if (chance < 80) {
            readText();
        } else if (chance < 84) {
            change("undo");
        } else if (chance < 86) {
            change(random.nextBoolean() ? "save" : "restore");
        } else if (chance < 87 || plain.account(8) != 0) {
            change(random.nextInt(4) == 0 ? "start" : "clear");
        } else {
            callAnything();
        }
    }

    private void setUp() {
        int chance = random.nextInt(30);
        if (chance == 0) {
            change("start");
        } else if (chance < 12) {
            change("wall", square());
        } else {
            change("lay", side(), random.nextInt(20) == 0 ? random.nextInt(9) - 3 : random.nextInt(4), square());
        }
    }

    private void callAnything() {
        switch (random.nextInt(7)) {
            case 0:
                change("move", square(), square());
                break;
            case 1:
                change("lay", side(), random.nextInt(6) - 1, square());
                break;
            case 2:
                change("wall", square());
                break;
            case 3:
                call("canMove", square(), square());
                call("captures", square(), square());
                call("worth", square(), square());
                break;
            case 4:
                call("square", square(), random.nextInt(7) - 2);
                call("roomOf", side(), random.nextInt(5) - 1, random.nextInt(9) - 2);
                break;
            case 5:
                call("room", side(), square());
                call("steps", side(), square());
                break;
            default:
                change("append", (char) random.nextInt(140));
                break;
        }
    }

    private List<int[]> goodMoves(int side) {
        List<int[]> moves = new ArrayList<>();
        for (int from = 0; from < 36; from++) {
            for (int to = 0; to < 36; to++) {
                boolean isGood = plain.square(from, 0) == 1 && plain.square(from, 1) == side && plain.canMove(from, to);
                if (isGood) {
                    moves.add(new int[] {from, to, plain.captures(from, to)});
                }
            }
        }
        return moves;
    }

    private int[] goodMove(int side) {
        List<int[]> moves = goodMoves(side);
        if (moves.isEmpty()) {
            return new int[] {random.nextInt(36), random.nextInt(36)};
        }
        int[] move = moves.get(random.nextInt(moves.size()));
        for (int[] other : moves) {
            if (other[2] > move[2] && random.nextInt(3) > 0) {
                move = other;
            }
        }
        return move;
    }

    private void moveWell() {
        int[] move = goodMove(plain.account(7));
        change("move", move[0], move[1]);
    }

    private int wallOrAny() {
        List<Integer> walls = new ArrayList<>();
        for (int square = 0; square < 36; square++) {
            if (plain.square(square, 0) == 2) {
                walls.add(square);
            }
        }
        return walls.isEmpty() || random.nextInt(8) == 0 ? square() : walls.get(random.nextInt(walls.size()));
    }

    private void purchase() {
        String name = random.nextBoolean() ? "door" : "buy";
        for (int tries = 0; tries < 3; tries++) {
            change(name, wallOrAny());
        }
    }

    private static String named(int square) {
        int known = Math.floorMod(square, 36);
        return "" + "abcdef".charAt(known % 6) + "123456".charAt(known / 6);
    }

    private void readText() {
        StringBuilder text = new StringBuilder();
        int turns = 1 + random.nextInt(random.nextInt(12) + 1);
        int side = plain.account(7);
        for (int turn = 0; turn < turns; turn++) {
            if (turn > 0) {
                text.append(';');
            }
            if (random.nextInt(6) == 0) {
                text.append(random.nextBoolean() ? '+' : '*').append(named(wallOrAny()));
            } else {
                int[] move = goodMove((side + turn) % 2);
                text.append(named(move[0])).append('-').append(named(move[1]));
            }
        }
        if (random.nextInt(4) == 0) {
            text.setCharAt(random.nextInt(text.length()), "abcdefg01234567-+*; ".charAt(random.nextInt(20)));
        }
        if (random.nextInt(8) == 0) {
            text.setLength(random.nextInt(text.length()));
        }
        for (char character : text.toString().toCharArray()) {
            call("append", character);
        }
        calls.append('"').append(text).append("\" ");
        change("read");
    }
}
