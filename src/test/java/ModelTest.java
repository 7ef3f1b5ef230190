import java.util.Random;
import java.util.concurrent.Callable;

/** Long runs of calls, with written seeds, on a RoadNames and a SlowTown, which have to answer alike. */
public final class ModelTest {
    private static final int RUNS = 250;
    private static final int CALLS = 512;
    private static final String KINDS = "+-<>=*";

    private final Check check;
    private final RoadNames fast = new RoadNames();
    private final SlowTown slow = new SlowTown();
    private final Random random;
    private final int run;
    private final int alphabet;
    private final int longest;
    private int call = 0;

    private ModelTest(Check check, int run) {
        this.check = check;
        this.run = run;
        random = new Random(run);
        alphabet = 1 + random.nextInt(8);
        longest = 1 + random.nextInt(8);
    }

    public static void main(String[] args) {
        Check check = new Check();
        for (int run = 0; run < RUNS; run++) {
            new ModelTest(check, run).play();
        }
        check.end("ModelTest");
    }

    private void play() {
        while (call < CALLS) {
            if (call % 64 == 63) {
                both("digest()", fast::digest, slow::digest);
            } else if (random.nextInt(10) < 5) {
                change();
            } else {
                ask();
            }
            call++;
        }
    }

    private void both(String what, Callable<? extends Number> ours, Callable<? extends Number> theirs) {
        check.tell("run " + run + ", call " + call + ": " + what, Check.answer(ours), Check.answer(theirs));
    }

    private int length(int shortest) {
        if (random.nextInt(40) == 0) {
            return random.nextInt(14) - 3;
        }
        return shortest + random.nextInt(Math.max(1, longest + 1 - shortest));
    }

    /** Few letters make names that have beginnings in common; some names are those of the town. */
    private int letters(int length) {
        if (random.nextInt(40) == 0) {
            return random.nextInt(20) == 0 ? random.nextInt() : (1 << 3 * Math.max(length, 0)) - random.nextInt(2);
        }
        int letters = 0;
        for (int i = 0; i < length; i++) {
            letters = letters * 8 + random.nextInt(alphabet);
        }
        return letters;
    }

    private int inRange(int from, int to) {
        int beyond = random.nextInt(25) == 0 ? 2 : 0;
        return from - beyond + random.nextInt(to - from + 1 + 2 * beyond);
    }

    private void change() {
        int length = length(1);
        int letters = letters(length);
        int names = slow.whole(0);
        if (names > 0 && random.nextInt(3) == 0) {
            int rank = random.nextInt(names);
            letters = slow.nth(rank, 0);
            length = slow.nth(rank, 1);
        }
        int l = letters;
        int n = length;
        int weight = inRange(0, 99);
        int limit = inRange(1, 8);
        String name = "(" + l + ", " + n + ")";
        switch (random.nextInt(16)) {
            case 0, 1, 2, 3, 4 ->
                both("add" + name + weight, () -> fast.add(l, n, weight), () -> slow.add(l, n, weight));
            case 5 -> both("remove" + name, () -> fast.remove(l, n), () -> slow.remove(l, n));
            case 6 -> both("setWeight" + name + weight,
                () -> fast.setWeight(l, n, weight), () -> slow.setWeight(l, n, weight));
            case 7 -> both("setLimit " + limit, () -> fast.setLimit(limit), () -> slow.setLimit(limit));
            case 8, 9 -> moveOrEvict();
            case 10 -> both("compress", fast::compress, slow::compress);
            case 11 -> both("expand", fast::expand, slow::expand);
            case 12, 13 -> both("undo", fast::undo, slow::undo);
            default -> typeCommands();
        }
    }

    private void moveOrEvict() {
        int house = random.nextInt(slow.whole(1));
        int length = slow.house(house, 1);
        int letters = slow.house(house, 0);
        if (random.nextInt(2) == 0) {
            both("moveIn", () -> fast.moveIn(letters, length), () -> slow.moveIn(letters, length));
        } else {
            int cut = Math.max(0, length - random.nextInt(3));
            int begin = letters >> 3 * (length - cut);
            both("evict", () -> fast.evict(begin, cut), () -> slow.evict(begin, cut));
        }
    }

    private void typeCommands() {
        if (random.nextInt(4) > 0) {
            both("clearCommands", fast::clearCommands, slow::clearCommands);
        }
        int commands = random.nextInt(6);
        for (int i = 0; i < commands; i++) {
            typeAll(command());
        }
        both("runCommands", fast::runCommands, slow::runCommands);
        both("digest", fast::digest, slow::digest);
        both("undo", fast::undo, slow::undo);
    }

    private String command() {
        char kind = random.nextInt(60) == 0 ? (char) random.nextInt(128) : KINDS.charAt(random.nextInt(KINDS.length()));
        StringBuilder command = new StringBuilder().append(kind);
        if (kind == '=') {
            command.append(random.nextInt(9) + random.nextInt(2));
        } else if (kind != '*') {
            int length = 1 + random.nextInt(longest);
            command.append(SlowTown.word(letters(length) & 0xffffff, length));
            if (kind == '+' && random.nextInt(2) == 0) {
                command.append(random.nextInt(random.nextInt(2) == 0 ? 10 : 100));
            }
        }
        if (random.nextInt(40) == 0) {
            command.append((char) random.nextInt(128));
        }
        return command.append(random.nextInt(40) == 0 ? "" : ";").toString();
    }

    private void typeAll(String command) {
        for (char sign : command.toCharArray()) {
            both("type " + sign, () -> fast.type(sign), () -> slow.type(sign));
        }
    }

    private void ask() {
        int length = length(random.nextInt(2));
        int letters = letters(length);
        String name = "(" + letters + ", " + length + ")";
        int rank = inRange(0, Math.max(0, slow.whole(0) - 1));
        int other = inRange(0, Math.max(0, slow.whole(0) - 1));
        int house = inRange(0, slow.whole(1) - 1);
        int what = inRange(0, 12);
        int limit = inRange(1, 8);
        int value = inRange(0, 127);
        switch (random.nextInt(17)) {
            case 0 -> both("rank" + name, () -> fast.rank(letters, length), () -> slow.rank(letters, length));
            case 1 -> both("nth " + rank, () -> fast.nth(rank, what), () -> slow.nth(rank, what));
            case 2 -> both("nth " + rank, () -> fast.nth(rank, what % 4), () -> slow.nth(rank, what % 4));
            case 3 -> both("weight" + name, () -> fast.weight(letters, length), () -> slow.weight(letters, length));
            case 4 -> both("count" + name, () -> fast.count(letters, length), () -> slow.count(letters, length));
            case 5 -> both("house " + house, () -> fast.house(house, what), () -> slow.house(house, what));
            case 6 -> both("houseOf" + name, () -> fast.houseOf(letters, length), () -> slow.houseOf(letters, length));
            case 7 -> both("between", () -> fast.between(rank, other), () -> slow.between(rank, other));
            case 8 -> both("tour", fast::tour, slow::tour);
            case 9 -> both("whole " + what, () -> fast.whole(what), () -> slow.whole(what));
            case 10 -> both("reason" + name, () -> fast.reason(letters, length), () -> slow.reason(letters, length));
            case 11 -> both("savedBy " + house, () -> fast.savedBy(house), () -> slow.savedBy(house));
            case 12 -> both("bestMove", fast::bestMove, slow::bestMove);
            case 13 -> both("costWith " + limit, () -> fast.costWith(limit), () -> slow.costWith(limit));
            case 14, 15 ->
                both("housesFor" + name, () -> fast.housesFor(letters, length), () -> slow.housesFor(letters, length));
            default -> both("type " + value, () -> fast.type(value), () -> slow.type(value));
        }
    }
}
