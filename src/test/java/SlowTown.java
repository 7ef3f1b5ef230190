import java.util.ArrayDeque;
import java.util.ArrayList;
import java.util.Deque;
import java.util.List;
import java.util.TreeMap;
import java.util.regex.Matcher;
import java.util.regex.Pattern;

/**
 * The document once more, as plainly as its words go and by other means than RoadNames: houses that
 * point at one another, labels that are texts, what-if questions that are tried out on a copy.
 */
final class SlowTown {
    private static final Pattern COMMANDS =
            Pattern.compile("((\\+[a-h]{1,8}[0-9]{0,2}|[-<>][a-h]{1,8}|=[0-9]|\\*);)*");

    private static final class House {
        House parent;
        String label = "";
        /** Null if the house is no home. */
        Integer weight;
        TreeMap<Character, House> children = new TreeMap<>();

        String prefix() {
            return parent == null ? "" : parent.prefix() + label;
        }

        int roads() {
            return parent == null ? 0 : parent.roads() + 1;
        }

        void hang(House child, String childLabel) {
            child.parent = this;
            child.label = childLabel;
            children.put(childLabel.charAt(0), child);
        }

        House copy() {
            House copy = new House();
            copy.weight = weight;
            for (House child : children.values()) {
                copy.hang(child.copy(), child.label);
            }
            return copy;
        }

        void list(List<House> houses) {
            houses.add(this);
            for (House child : children.values()) {
                child.list(houses);
            }
        }
    }

    private static final class Saved {
        House root = new House();
        int limit = 3;
        int[] totals = new int[4];

        Saved copy() {
            Saved copy = new Saved();
            copy.root = root.copy();
            copy.limit = limit;
            copy.totals = totals.clone();
            return copy;
        }
    }

    private static final int MOVED = 0;
    private static final int EVICTED = 1;
    private static final int BUILT = 2;
    private static final int TORN = 3;

    private Saved now = new Saved();
    private Deque<Saved> stack = new ArrayDeque<>();
    private final StringBuilder text = new StringBuilder();
    private boolean saving = true;

    static String word(int letters, int length) {
        StringBuilder word = new StringBuilder();
        for (int i = length - 1; i >= 0; i--) {
            word.append((char) ('a' + (letters >> (3 * i)) % 8));
        }
        return word.toString();
    }

    static int letters(String word) {
        int letters = 0;
        for (char c : word.toCharArray()) {
            letters = letters * 8 + (c - 'a');
        }
        return letters;
    }

    private static String prefix(int letters, int length, int shortest) {
        if (length < shortest || length > 8 || letters < 0 || letters >= Math.pow(8, length)) {
            throw new IllegalArgumentException();
        }
        return word(letters, length);
    }

    private static void range(int value, int from, int to) {
        if (value < from || value > to) {
            throw new IllegalArgumentException();
        }
    }

    private static void state(boolean right) {
        if (!right) {
            throw new IllegalStateException();
        }
    }

    private static void index(int value, int size) {
        if (value < 0 || value >= size) {
            throw new IndexOutOfBoundsException();
        }
    }

    private void save() {
        if (saving) {
            stack.addLast(now.copy());
            if (stack.size() > 4) {
                stack.removeFirst();
            }
        }
    }

    private List<House> houses() {
        List<House> houses = new ArrayList<>();
        now.root.list(houses);
        return houses;
    }

    private List<House> homes() {
        List<House> homes = houses();
        homes.removeIf(house -> house.weight == null);
        return homes;
    }

    private House at(String prefix) {
        for (House house : houses()) {
            if (house.prefix().equals(prefix)) {
                return house;
            }
        }
        return null;
    }

    private House home(String name) {
        House house = at(name);
        return house == null || house.weight == null ? null : house;
    }

    /** The house at the end of the road in whose label a prefix lies; null if it lies in none. */
    private House behind(String prefix) {
        for (House house : houses()) {
            if (house.parent != null && house.parent.prefix().length() < prefix.length()
                    && house.prefix().length() > prefix.length() && house.prefix().startsWith(prefix)) {
                return house;
            }
        }
        return null;
    }

    private boolean inTown(String prefix) {
        return prefix.isEmpty() || homes().stream().anyMatch(home -> home.prefix().startsWith(prefix));
    }

    private House evictAt(String prefix) {
        House below = behind(prefix);
        House above = below.parent;
        int cut = prefix.length() - above.prefix().length();
        String label = below.label;
        House middle = new House();
        above.hang(middle, label.substring(0, cut));
        middle.hang(below, label.substring(cut));
        now.totals[EVICTED]++;
        return below;
    }

    int add(int letters, int length, int weight) {
        String name = prefix(letters, length, 1);
        range(weight, 0, 99);
        state(home(name) == null && homes().size() < 24);
        save();
        build(name, weight);
        return rank(letters, length);
    }

    private void build(String name, int weight) {
        String known = name;
        while (!inTown(known)) {
            known = known.substring(0, known.length() - 1);
        }
        if (at(known) == null) {
            evictAt(known);
        }
        House last = at(known);
        for (int i = known.length(); i < name.length(); i++) {
            House built = new House();
            last.hang(built, name.substring(i, i + 1));
            last = built;
            now.totals[BUILT]++;
        }
        last.weight = weight;
    }

    int remove(int letters, int length) {
        House house = home(prefix(letters, length, 1));
        state(house != null);
        save();
        house.weight = null;
        int torn = 0;
        while (house.parent != null && house.weight == null && house.children.isEmpty()) {
            House parent = house.parent;
            parent.children.remove(house.label.charAt(0));
            torn++;
            house = parent;
        }
        now.totals[TORN] += torn;
        return torn;
    }

    int setWeight(int letters, int length, int weight) {
        House house = home(prefix(letters, length, 1));
        range(weight, 0, 99);
        state(house != null);
        save();
        int previous = house.weight;
        // The stack holds copies, so the house at hand is still the one of the town.
        house.weight = weight;
        return previous;
    }

    int setLimit(int limit) {
        range(limit, 1, 8);
        save();
        int previous = now.limit;
        now.limit = limit;
        return previous;
    }

    private int reasonOf(House house) {
        if (house.parent == null) {
            return 1;
        }
        if (house.weight != null) {
            return 2;
        }
        if (house.children.size() > 1) {
            return 3;
        }
        House child = house.children.firstEntry().getValue();
        return house.label.length() + child.label.length() > now.limit ? 4 : 0;
    }

    private int moveHouse(House house) {
        House child = house.children.firstEntry().getValue();
        house.parent.hang(child, house.label + child.label);
        now.totals[MOVED]++;
        return child.label.length();
    }

    int moveIn(int letters, int length) {
        House house = at(prefix(letters, length, 0));
        state(house != null && reasonOf(house) == 0);
        save();
        return moveHouse(house);
    }

    int evict(int letters, int length) {
        String prefix = prefix(letters, length, 0);
        state(behind(prefix) != null);
        save();
        return evictAt(prefix).label.length();
    }

    private House firstToMove() {
        for (House house : houses()) {
            if (reasonOf(house) == 0) {
                return house;
            }
        }
        return null;
    }

    int compress() {
        save();
        int moved = 0;
        for (House house = firstToMove(); house != null; house = firstToMove()) {
            moveHouse(house);
            moved++;
        }
        return moved;
    }

    private House firstLong() {
        for (House house : houses()) {
            if (house.label.length() > 1) {
                return house;
            }
        }
        return null;
    }

    int expand() {
        save();
        int evicted = 0;
        for (House house = firstLong(); house != null; house = firstLong()) {
            evictAt(house.parent.prefix() + house.label.charAt(0));
            evicted++;
        }
        return evicted;
    }

    int rank(int letters, int length) {
        String name = prefix(letters, length, 1);
        return (int) homes().stream().filter(home -> home.prefix().compareTo(name) < 0).count();
    }

    int nth(int rank, int what) {
        index(rank, homes().size());
        range(what, 0, 3);
        House home = homes().get(rank);
        String name = home.prefix();
        return new int[] {letters(name), name.length(), home.weight, home.roads()}[what];
    }

    int weight(int letters, int length) {
        House home = home(prefix(letters, length, 1));
        return home == null ? -1 : home.weight;
    }

    int count(int letters, int length) {
        String prefix = prefix(letters, length, 0);
        return (int) homes().stream().filter(home -> home.prefix().startsWith(prefix)).count();
    }

    int house(int index, int what) {
        index(index, houses().size());
        range(what, 0, 8);
        House house = houses().get(index);
        String prefix = house.prefix();
        int names = 0;
        int weights = 0;
        for (House home : homes()) {
            if (home.prefix().startsWith(prefix)) {
                names++;
                weights += home.weight;
            }
        }
        return new int[] {letters(prefix), prefix.length(), letters(house.label), house.label.length(),
            house.children.size(), house.weight == null ? 0 : 1, names, weights, house.roads()}[what];
    }

    int houseOf(int letters, int length) {
        String prefix = prefix(letters, length, 0);
        return houses().indexOf(at(prefix));
    }

    private int walk(House a, House b) {
        int shared = 0;
        for (House house : houses()) {
            if (a.prefix().startsWith(house.prefix()) && b.prefix().startsWith(house.prefix())) {
                shared = Math.max(shared, house.roads());
            }
        }
        return a.roads() + b.roads() - 2 * shared;
    }

    int between(int a, int b) {
        index(a, homes().size());
        index(b, homes().size());
        return walk(homes().get(a), homes().get(b));
    }

    int tour() {
        House last = now.root;
        int walked = 0;
        for (House home : homes()) {
            walked += walk(last, home);
            last = home;
        }
        return walked + walk(last, now.root);
    }

    int whole(int what) {
        range(what, 0, 11);
        int cost = 0;
        int way = 0;
        for (House home : homes()) {
            cost += home.weight * home.roads();
            way = Math.max(way, home.roads());
        }
        int labels = houses().stream().mapToInt(house -> house.label.length()).sum();
        int label = houses().stream().mapToInt(house -> house.label.length()).max().getAsInt();
        return new int[] {homes().size(), houses().size(), now.limit, cost, labels, label, way,
            now.totals[MOVED], now.totals[EVICTED], now.totals[BUILT], now.totals[TORN], text.length()}[what];
    }

    int reason(int letters, int length) {
        House house = at(prefix(letters, length, 0));
        return house == null ? -1 : reasonOf(house);
    }

    private interface Trial {
        void run();
    }

    /** What a value of the whole becomes by a call that is tried out. */
    private int tried(int what, Trial trial) {
        Saved before = now;
        now = now.copy();
        saving = false;
        trial.run();
        int value = whole(what);
        saving = true;
        now = before;
        return value;
    }

    int savedBy(int index) {
        index(index, houses().size());
        if (reasonOf(houses().get(index)) != 0) {
            return -1;
        }
        return whole(3) - tried(3, () -> moveHouse(houses().get(index)));
    }

    int bestMove() {
        int best = -1;
        for (int i = houses().size() - 1; i >= 0; i--) {
            if (savedBy(i) >= 0 && (best < 0 || savedBy(i) >= savedBy(best))) {
                best = i;
            }
        }
        return best;
    }

    int costWith(int limit) {
        range(limit, 1, 8);
        return tried(3, () -> {
            setLimit(limit);
            expand();
            compress();
        });
    }

    int housesFor(int letters, int length) {
        String name = prefix(letters, length, 1);
        if (home(name) != null) {
            return -1;
        }
        return tried(1, () -> build(name, 0)) - whole(1);
    }

    int type(int value) {
        range(value, 0, 127);
        state(text.length() < 120);
        text.append((char) value);
        return text.length();
    }

    int clearCommands() {
        int length = text.length();
        text.setLength(0);
        return length;
    }

    private int fault() {
        for (int i = 0; i < text.length(); i++) {
            Matcher matcher = COMMANDS.matcher(text.substring(0, i + 1));
            if (!matcher.matches() && !matcher.hitEnd()) {
                return i;
            }
        }
        return COMMANDS.matcher(text).matches() ? -1 : text.length();
    }

    int runCommands() {
        if (fault() >= 0) {
            return -10 - fault();
        }
        save();
        saving = false;
        int done = 0;
        try {
            for (String command : text.toString().split(";")) {
                if (!command.isEmpty()) {
                    carryOut(command.charAt(0), command.substring(1));
                    done++;
                }
            }
        } catch (IllegalArgumentException | IllegalStateException e) {
            // The command that throws and those behind it do not count.
        }
        saving = true;
        return done;
    }

    private void carryOut(char kind, String rest) {
        String name = rest.replaceAll("[0-9]", "");
        String number = rest.replaceAll("[a-h]", "");
        int letters = letters(name);
        int value = number.isEmpty() ? 0 : Integer.parseInt(number);
        switch (kind) {
            case '+' -> add(letters, name.length(), value);
            case '-' -> remove(letters, name.length());
            case '<' -> moveIn(letters, name.length());
            case '>' -> evict(letters, name.length());
            case '=' -> setLimit(value);
            default -> compress();
        }
    }

    int undo() {
        state(!stack.isEmpty());
        now = stack.removeLast();
        return stack.size();
    }

    long digest() {
        List<Long> values = new ArrayList<>();
        values.add((long) stack.size());
        for (int what = 0; what <= 11; what++) {
            values.add((long) whole(what));
        }
        for (int rank = 0; rank < homes().size(); rank++) {
            for (int what = 0; what <= 3; what++) {
                values.add((long) nth(rank, what));
            }
        }
        for (int index = 0; index < houses().size(); index++) {
            for (int what = 0; what <= 8; what++) {
                values.add((long) house(index, what));
            }
            values.add((long) savedBy(index));
        }
        values.add((long) tour());
        values.add((long) bestMove());
        long hash = 43504;
        for (long value : values) {
            hash = 31 * hash + value;
        }
        return hash;
    }
}
