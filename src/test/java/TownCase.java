import java.util.concurrent.Callable;

/** What the tests with written answers share: names as words, towns to begin with, and calls that are refused. */
abstract class TownCase {
    static final Class<IllegalArgumentException> ARGUMENT = IllegalArgumentException.class;
    static final Class<IllegalStateException> STATE = IllegalStateException.class;
    static final Class<IndexOutOfBoundsException> INDEX = IndexOutOfBoundsException.class;

    final Check check = new Check();

    /** A call that is told by the letters and the length of a name or prefix. */
    interface OfPrefix {
        int call(int letters, int length);
    }

    interface Change {
        int on(RoadNames town);
    }

    // ---- names as words

    static int letters(String name) {
        int letters = 0;
        for (char letter : name.toCharArray()) {
            letters = letters * 8 + (letter - 'a');
        }
        return letters;
    }

    static int add(RoadNames town, String name, int weight) {
        return town.add(letters(name), name.length(), weight);
    }

    static int remove(RoadNames town, String name) {
        return town.remove(letters(name), name.length());
    }

    static int setWeight(RoadNames town, String name, int weight) {
        return town.setWeight(letters(name), name.length(), weight);
    }

    static int moveIn(RoadNames town, String prefix) {
        return town.moveIn(letters(prefix), prefix.length());
    }

    static int evict(RoadNames town, String prefix) {
        return town.evict(letters(prefix), prefix.length());
    }

    static int rank(RoadNames town, String name) {
        return town.rank(letters(name), name.length());
    }

    static int weight(RoadNames town, String name) {
        return town.weight(letters(name), name.length());
    }

    static int count(RoadNames town, String prefix) {
        return town.count(letters(prefix), prefix.length());
    }

    static int houseOf(RoadNames town, String prefix) {
        return town.houseOf(letters(prefix), prefix.length());
    }

    static int reason(RoadNames town, String prefix) {
        return town.reason(letters(prefix), prefix.length());
    }

    static int housesFor(RoadNames town, String name) {
        return town.housesFor(letters(name), name.length());
    }

    static int type(RoadNames town, String commands) {
        for (char sign : commands.toCharArray()) {
            town.type(sign);
        }
        return commands.length();
    }

    static int run(RoadNames town, String commands) {
        town.clearCommands();
        type(town, commands);
        return town.runCommands();
    }

    // ---- towns to begin with

    /** A town of names with their weights behind them, such as "abc5"; 0 where there is none. */
    static RoadNames townOf(String... names) {
        RoadNames town = new RoadNames();
        for (String name : names) {
            String word = name.replaceAll("[0-9]", "");
            String weight = name.replaceAll("[a-h]", "");
            add(town, word, weight.isEmpty() ? 0 : Integer.parseInt(weight));
        }
        return town;
    }

    static RoadNames compressed(int limit, String... names) {
        RoadNames town = townOf(names);
        town.setLimit(limit);
        town.compress();
        return town;
    }

    static RoadNames fullTown() {
        RoadNames town = new RoadNames();
        for (int i = 0; i < 24; i++) {
            town.add(i / 8 * 512 + i % 8, 4, i);
        }
        return town;
    }

    /** Names that have nothing in common but their first letters, and these only where there are no more. */
    static RoadNames mostHouses() {
        RoadNames town = new RoadNames();
        for (int i = 0; i < 24; i++) {
            town.add((i % 8) << 21 | (i / 8) << 18 | i, 8, 99);
        }
        return town;
    }

    /** A town with labels of one and more letters, a full undo stack, a limit of its own and a command text. */
    static RoadNames busyTown() {
        RoadNames town = townOf("abcdefgh3", "abcd4", "b0", "hgfedc99");
        town.compress();
        town.setLimit(4);
        evict(town, "hg");
        type(town, "+c5;-b;*;");
        return town;
    }

    // ---- what has to hold

    /** A call that throws has to leave the town as it was, the undo stack too. */
    void refused(RoadNames town, String what, Callable<Integer> call, Class<? extends RuntimeException> due) {
        long before = town.digest();
        check.throwing(what, call, due);
        check.due(what + ", digest behind it", town.digest(), before);
    }

    /** The letters and lengths that no name or prefix has. */
    void refusesNames(RoadNames town, String what, OfPrefix call, boolean emptyToo) {
        int[][] wrong = {{0, -1}, {0, 9}, {-1, 1}, {8, 1}, {64, 2}, {1 << 24, 8}, {-1, 8}, {1, 0}, {-1, 0},
            {0, Integer.MIN_VALUE}, {0, Integer.MAX_VALUE}, {Integer.MIN_VALUE, 8}, {Integer.MAX_VALUE, 8}, {0, 32}};
        for (int[] pair : wrong) {
            refused(town, what + " of " + pair[0] + ", " + pair[1], () -> call.call(pair[0], pair[1]), ARGUMENT);
        }
        if (emptyToo) {
            refused(town, what + " of no letters", () -> call.call(0, 0), ARGUMENT);
        }
    }

    void wholeIs(String what, RoadNames town, int... want) {
        for (int i = 0; i < want.length; i++) {
            check.due(what + ": whole(" + i + ")", town.whole(i), want[i]);
        }
    }

    /** The prefix of each house behind the root, with its label. */
    void labelsAre(String what, RoadNames town, String... want) {
        StringBuilder got = new StringBuilder();
        for (int i = 1; i < town.whole(1); i++) {
            got.append(SlowTown.word(town.house(i, 0), town.house(i, 1))).append(':')
                    .append(SlowTown.word(town.house(i, 2), town.house(i, 3))).append(' ');
        }
        check.tell(what, got.toString().trim(), String.join(" ", want));
    }

    // ---- the hash

    static long mix(long hash, int[]... values) {
        for (int[] row : values) {
            for (int value : row) {
                hash = mix(hash, value);
            }
        }
        return hash;
    }

    static long mix(long hash, long value) {
        return 31 * hash + value;
    }
}
