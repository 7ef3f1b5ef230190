/** A town of names in a tree of houses; shared/DOC.md says what each call does. */
public final class RoadNames {
    public static final int NONE = -1;

    private static final int LONGEST_NAME = 8;
    private static final int MOST_NAMES = 24;
    private static final int MOST_HOUSES = MOST_NAMES * LONGEST_NAME + 1;
    private static final int MOST_WEIGHT = 99;
    private static final int FIRST_LIMIT = 3;
    private static final int MOST_LIMIT = 8;
    private static final int MOST_STATES = 4;
    private static final int MOST_BYTES = 120;
    private static final int MOST_BYTE = 127;
    private static final int NAME_VALUES = 4;
    private static final int HOUSE_VALUES = 9;
    private static final int WHOLE_VALUES = 12;
    private static final int TEXT_LENGTH = 11;
    private static final int FAULT_BASE = -10;
    private static final long DIGEST_START = 43504;

    private final Town town = new Town();
    private final Town trial = new Town();
    private final UndoStack saves = new UndoStack();
    private final CommandText text = new CommandText();
    private final CommandReader reader = new CommandReader();

    public RoadNames() {
    }

    // ---- names and houses

    public int add(int letters, int length, int weight) throws IllegalArgumentException, IllegalStateException {
        requireName(letters, length);
        requireWeight(weight);
        int key = Key.of(letters, length);
        if (!town.canTakeName(key)) {
            throw new IllegalStateException("the name is in the town, or the town is full");
        }
        saves.push(town.state);
        return town.takeName(key, weight);
    }

    public int remove(int letters, int length) throws IllegalArgumentException, IllegalStateException {
        requireName(letters, length);
        int key = Key.of(letters, length);
        requireInTown(key);
        saves.push(town.state);
        return town.dropName(key);
    }

    public int setWeight(int letters, int length, int weight) throws IllegalArgumentException, IllegalStateException {
        requireName(letters, length);
        requireWeight(weight);
        int key = Key.of(letters, length);
        requireInTown(key);
        saves.push(town.state);
        return town.changeWeight(key, weight);
    }

    public int setLimit(int limit) throws IllegalArgumentException {
        requireLimit(limit);
        saves.push(town.state);
        return town.changeLimit(limit);
    }

    public int moveIn(int letters, int length) throws IllegalArgumentException, IllegalStateException {
        requirePrefix(letters, length);
        int key = Key.of(letters, length);
        if (!town.canMove(key)) {
            throw new IllegalStateException("no house is there, or it cannot move in");
        }
        saves.push(town.state);
        return town.move(key);
    }

    public int evict(int letters, int length) throws IllegalArgumentException, IllegalStateException {
        requirePrefix(letters, length);
        int key = Key.of(letters, length);
        if (!town.liesWithinLabel(key)) {
            throw new IllegalStateException("the prefix does not lie within a label");
        }
        saves.push(town.state);
        return town.part(key);
    }

    public int compress() {
        saves.push(town.state);
        return town.moveAll();
    }

    public int expand() {
        saves.push(town.state);
        return town.partAll();
    }

    // ---- ranks

    public int rank(int letters, int length) throws IllegalArgumentException {
        requireName(letters, length);
        return town.namesBefore(Key.of(letters, length));
    }

    public int nth(int rank, int what) throws IndexOutOfBoundsException, IllegalArgumentException {
        requireRank(rank);
        requireWhat(what, NAME_VALUES);
        return town.nameValue(rank, what);
    }

    public int weight(int letters, int length) throws IllegalArgumentException {
        requireName(letters, length);
        return town.weightOf(Key.of(letters, length));
    }

    public int count(int letters, int length) throws IllegalArgumentException {
        requirePrefix(letters, length);
        return town.namesWith(Key.of(letters, length));
    }

    // ---- houses and ways

    public int house(int index, int what) throws IndexOutOfBoundsException, IllegalArgumentException {
        requireHouse(index);
        requireWhat(what, HOUSE_VALUES);
        return town.houseValue(index, what);
    }

    public int houseOf(int letters, int length) throws IllegalArgumentException {
        requirePrefix(letters, length);
        return town.state.indexOf(Key.of(letters, length));
    }

    public int between(int a, int b) throws IndexOutOfBoundsException {
        requireRank(a);
        requireRank(b);
        return town.roadsBetween(a, b);
    }

    public int tour() {
        return town.tourRoads();
    }

    public int whole(int what) throws IllegalArgumentException {
        requireWhat(what, WHOLE_VALUES);
        return what == TEXT_LENGTH ? text.length() : town.townValue(what);
    }

    // ---- what if, which changes nothing

    public int reason(int letters, int length) throws IllegalArgumentException {
        requirePrefix(letters, length);
        int index = town.state.indexOf(Key.of(letters, length));
        return index == NONE ? NONE : town.reasonToStay(index);
    }

    public int savedBy(int index) throws IndexOutOfBoundsException {
        requireHouse(index);
        return town.saving(index);
    }

    public int bestMove() {
        return town.bestToMove();
    }

    public int costWith(int limit) throws IllegalArgumentException {
        requireLimit(limit);
        trial.become(town.state);
        trial.changeLimit(limit);
        trial.partAll();
        trial.moveAll();
        return trial.cost();
    }

    public int housesFor(int letters, int length) throws IllegalArgumentException {
        requireName(letters, length);
        return town.newHousesFor(Key.of(letters, length));
    }

    // ---- command text, undo and checksum

    public int type(int value) throws IllegalArgumentException, IllegalStateException {
        if (value < 0 || value > MOST_BYTE) {
            throw new IllegalArgumentException("the byte is out of range");
        }
        if (text.length() >= MOST_BYTES) {
            throw new IllegalStateException("the command text is full");
        }
        return text.append(value);
    }

    public int clearCommands() {
        return text.empty();
    }

    public int runCommands() {
        int fault = findFault();
        if (fault != NONE) {
            return FAULT_BASE - fault;
        }
        saves.push(town.state);
        int done = 0;
        reader.restart();
        for (int i = 0; i < text.length(); i++) {
            reader.read(text.signAt(i));
            if (reader.isBetweenCommands()) {
                if (!canCarryOut()) {
                    return done;
                }
                carryOut();
                done++;
            }
        }
        return done;
    }

    public int undo() throws IllegalStateException {
        if (saves.size() == 0) {
            throw new IllegalStateException("the undo stack is empty");
        }
        saves.popInto(town.state);
        town.survey();
        return saves.size();
    }

    public long digest() {
        long hash = mix(DIGEST_START, saves.size());
        for (int what = 0; what < WHOLE_VALUES; what++) {
            hash = mix(hash, whole(what));
        }
        for (int rank = 0; rank < town.names(); rank++) {
            for (int what = 0; what < NAME_VALUES; what++) {
                hash = mix(hash, town.nameValue(rank, what));
            }
        }
        for (int index = 0; index < town.state.houses; index++) {
            for (int what = 0; what < HOUSE_VALUES; what++) {
                hash = mix(hash, town.houseValue(index, what));
            }
            hash = mix(hash, town.saving(index));
        }
        hash = mix(hash, town.tourRoads());
        return mix(hash, town.bestToMove());
    }

    private static long mix(long hash, long value) {
        return 31 * hash + value;
    }

    // ---- what calls require

    private static void requireName(int letters, int length) {
        if (length == 0) {
            throw new IllegalArgumentException("a name has 1 to 8 letters");
        }
        requirePrefix(letters, length);
    }

    private static void requirePrefix(int letters, int length) {
        if (length < 0 || length > LONGEST_NAME) {
            throw new IllegalArgumentException("the length is out of range");
        }
        if (letters < 0 || letters >= 1 << (3 * length)) {
            throw new IllegalArgumentException("the letters are out of range");
        }
    }

    private static void requireWeight(int weight) {
        if (weight < 0 || weight > MOST_WEIGHT) {
            throw new IllegalArgumentException("the weight is out of range");
        }
    }

    private static void requireLimit(int limit) {
        if (!isLimit(limit)) {
            throw new IllegalArgumentException("the limit is out of range");
        }
    }

    private static boolean isLimit(int limit) {
        return limit >= 1 && limit <= MOST_LIMIT;
    }

    private static void requireWhat(int what, int values) {
        if (what < 0 || what >= values) {
            throw new IllegalArgumentException("there is no such value");
        }
    }

    private void requireInTown(int key) {
        if (town.weightOf(key) == NONE) {
            throw new IllegalStateException("the name is not in the town");
        }
    }

    private void requireRank(int rank) {
        if (rank < 0 || rank >= town.names()) {
            throw new IndexOutOfBoundsException("there are not so many names");
        }
    }

    private void requireHouse(int index) {
        if (index < 0 || index >= town.state.houses) {
            throw new IndexOutOfBoundsException("there are not so many houses");
        }
    }

    // ---- running the command text

    /** The fault of the command text; NONE if it has none. */
    private int findFault() {
        reader.restart();
        for (int i = 0; i < text.length(); i++) {
            if (!reader.read(text.signAt(i))) {
                return i;
            }
        }
        return reader.isBetweenCommands() ? NONE : text.length();
    }

    /** Whether the command that was read last would throw no exception. */
    private boolean canCarryOut() {
        switch (reader.kind()) {
            case '+':
                return town.canTakeName(reader.key());
            case '-':
                return town.weightOf(reader.key()) != NONE;
            case '<':
                return town.canMove(reader.key());
            case '>':
                return town.liesWithinLabel(reader.key());
            case '=':
                return isLimit(reader.number());
            default:
                return true;
        }
    }

    private void carryOut() {
        switch (reader.kind()) {
            case '+':
                town.takeName(reader.key(), reader.number());
                break;
            case '-':
                town.dropName(reader.key());
                break;
            case '<':
                town.move(reader.key());
                break;
            case '>':
                town.part(reader.key());
                break;
            case '=':
                town.changeLimit(reader.number());
                break;
            default:
                town.moveAll();
                break;
        }
    }

    /** A row of numbers of a fixed length; no index can go wrong: outside the row there are zeros. */
    private static final class Row {
        private final int[] cells;

        Row(int length) {
            cells = new int[Math.max(length, 0)];
        }

        int at(int index) {
            return index >= 0 && index < cells.length ? cells[index] : 0;
        }

        void put(int index, int value) {
            if (index >= 0 && index < cells.length) {
                cells[index] = value;
            }
        }

        void increase(int index, int by) {
            put(index, at(index) + by);
        }

        /** Shifts what stands from the index on, of so many used cells, one cell to the right. */
        void openAt(int index, int used) {
            for (int i = used; i > index; i--) {
                put(i, at(i - 1));
            }
        }

        /** Shifts what stands behind the index, of so many used cells, one cell to the left. */
        void closeAt(int index, int used) {
            for (int i = index; i < used - 1; i++) {
                put(i, at(i + 1));
            }
        }

        void copyFrom(Row other, int used) {
            for (int i = 0; i < used; i++) {
                put(i, other.at(i));
            }
        }
    }

    /**
     * A prefix as one number: its letters, filled up to eight with a's, then 4 bits for its length.
     * So the order of these numbers is that of a dictionary.
     */
    private static final class Key {
        private static final int LENGTH_BITS = 4;
        private static final int LENGTH_MASK = 15;

        static int of(int letters, int length) {
            return (letters << bitsBehind(length)) | length;
        }

        static int length(int key) {
            return key & LENGTH_MASK;
        }

        static int letters(int key) {
            return key >> bitsBehind(length(key));
        }

        static int lastLetters(int key, int number) {
            return letters(key) & ((1 << (3 * number)) - 1);
        }

        /** The beginning of a prefix, with at most as many letters as that has. */
        static int cut(int key, int length) {
            int bits = bitsBehind(length);
            return ((key >> bits) << bits) | length;
        }

        static boolean isBeginning(int beginning, int key) {
            int bits = bitsBehind(length(beginning));
            return length(beginning) <= length(key) && (beginning >> bits) == (key >> bits);
        }

        /** How many bits stand behind so many first letters. */
        private static int bitsBehind(int length) {
            return LENGTH_BITS + 3 * (LONGEST_NAME - length);
        }
    }

    /**
     * What is saved and restored. The houses stand in their order, each with its key; the roads need
     * not be kept, since a house's parent is the longest other beginning of its prefix that has a house.
     */
    private static final class State {
        final Row keys = new Row(MOST_HOUSES);
        /** The weight of each home; NONE for a house that is no home. */
        final Row weights = new Row(MOST_HOUSES);
        int houses = 1;
        int limit = FIRST_LIMIT;
        int movedIn = 0;
        int evicted = 0;
        int built = 0;
        int tornDown = 0;

        State() {
            write(0, 0, NONE);
        }

        void copyFrom(State other) {
            keys.copyFrom(other.keys, other.houses);
            weights.copyFrom(other.weights, other.houses);
            houses = other.houses;
            limit = other.limit;
            movedIn = other.movedIn;
            evicted = other.evicted;
            built = other.built;
            tornDown = other.tornDown;
        }

        boolean isHome(int index) {
            return weights.at(index) != NONE;
        }

        /** How many houses stand before the place of a prefix in the order of houses. */
        int placeOf(int key) {
            int place = 0;
            while (place < houses && keys.at(place) < key) {
                place++;
            }
            return place;
        }

        int indexOf(int key) {
            int place = placeOf(key);
            return place < houses && keys.at(place) == key ? place : NONE;
        }

        /** The first house whose prefix begins with this one; NONE if it is not in the town. */
        int firstWith(int key) {
            int place = placeOf(key);
            return place < houses && Key.isBeginning(key, keys.at(place)) ? place : NONE;
        }

        void insertHouse(int key) {
            int place = placeOf(key);
            keys.openAt(place, houses);
            weights.openAt(place, houses);
            write(place, key, NONE);
            houses++;
        }

        void dropHouse(int index) {
            keys.closeAt(index, houses);
            weights.closeAt(index, houses);
            houses--;
        }

        /** Drops the houses that a row marks with 1; answers how many. */
        int dropMarked(Row marks) {
            int kept = 0;
            for (int i = 0; i < houses; i++) {
                if (marks.at(i) == 0) {
                    write(kept, keys.at(i), weights.at(i));
                    kept++;
                }
            }
            int dropped = houses - kept;
            houses = kept;
            return dropped;
        }

        void write(int index, int key, int weight) {
            keys.put(index, key);
            weights.put(index, weight);
        }
    }

    /** The latest states, in a ring whose oldest one is written over when it is full. */
    private static final class UndoStack {
        private final State[] ring = new State[MOST_STATES];
        private int next = 0;
        private int size = 0;

        UndoStack() {
            for (int i = 0; i < ring.length; i++) {
                ring[i] = new State();
            }
        }

        int size() {
            return size;
        }

        void push(State now) {
            State slot = slotAt(next);
            if (slot != null) {
                slot.copyFrom(now);
                next = (next + 1) % MOST_STATES;
                size = Math.min(size + 1, MOST_STATES);
            }
        }

        void popInto(State now) {
            int latest = (next + MOST_STATES - 1) % MOST_STATES;
            State slot = slotAt(latest);
            if (size > 0 && slot != null) {
                now.copyFrom(slot);
                next = latest;
                size--;
            }
        }

        private State slotAt(int index) {
            return index >= 0 && index < ring.length ? ring[index] : null;
        }
    }

    /** A state and what follows from it, which survey() finds anew behind each change. */
    private static final class Town {
        final State state = new State();
        private final Row parents = new Row(MOST_HOUSES);
        private final Row children = new Row(MOST_HOUSES);
        private final Row roads = new Row(MOST_HOUSES);
        private final Row namesIn = new Row(MOST_HOUSES);
        private final Row weightIn = new Row(MOST_HOUSES);
        /** The home of each name by its rank. */
        private final Row homes = new Row(MOST_NAMES);
        /** 1 for each house that leaves while moveAll() is at work. */
        private final Row leaving = new Row(MOST_HOUSES);

        Town() {
            survey();
        }

        void become(State other) {
            state.copyFrom(other);
            survey();
        }

        void survey() {
            int names = 0;
            for (int i = 0; i < state.houses; i++) {
                parents.put(i, findParent(i));
                surveyHouse(i);
                if (state.isHome(i)) {
                    homes.put(names, i);
                    names++;
                }
            }
            // Children stand behind their parents, so from the end on each sum is whole when it is handed up.
            for (int i = state.houses - 1; i > 0; i--) {
                namesIn.increase(parents.at(i), namesIn.at(i));
                weightIn.increase(parents.at(i), weightIn.at(i));
            }
        }

        private void surveyHouse(int index) {
            boolean home = state.isHome(index);
            int parent = parents.at(index);
            children.put(index, 0);
            roads.put(index, index == 0 ? 0 : roads.at(parent) + 1);
            namesIn.put(index, home ? 1 : 0);
            weightIn.put(index, home ? state.weights.at(index) : 0);
            if (index > 0) {
                children.increase(parent, 1);
            }
        }

        /** The parent is the house before it or stands over that one. The root counts as its own parent. */
        private int findParent(int index) {
            int parent = Math.max(index - 1, 0);
            for (int i = 0; i < LONGEST_NAME; i++) {
                if (Key.isBeginning(state.keys.at(parent), state.keys.at(index))) {
                    break;
                }
                parent = parents.at(parent);
            }
            return parent;
        }

        // ---- changes

        boolean canTakeName(int key) {
            return weightOf(key) == NONE && names() < MOST_NAMES;
        }

        /** Answers the rank of the new name. */
        int takeName(int key, int weight) {
            int length = Key.length(key);
            int known = knownLength(key);
            int last = Key.cut(key, known);
            if (state.indexOf(last) == NONE) {
                state.insertHouse(last);
                state.evicted++;
            }
            for (int i = known + 1; i <= length; i++) {
                state.insertHouse(Key.cut(key, i));
                state.built++;
            }
            state.weights.put(state.indexOf(key), weight);
            survey();
            return namesBefore(key);
        }

        /** Answers how many houses are torn down. */
        int dropName(int key) {
            int index = state.indexOf(key);
            int before = state.tornDown;
            state.weights.put(index, NONE);
            for (int i = 0; i < LONGEST_NAME && isIdle(index); i++) {
                // A parent stands before its children, so its index stays right.
                int parent = parents.at(index);
                state.dropHouse(index);
                state.tornDown++;
                children.increase(parent, -1);
                index = parent;
            }
            survey();
            return state.tornDown - before;
        }

        private boolean isIdle(int index) {
            return index > 0 && !state.isHome(index) && children.at(index) == 0;
        }

        /** Answers the previous weight. */
        int changeWeight(int key, int weight) {
            int index = state.indexOf(key);
            int previous = state.weights.at(index);
            state.weights.put(index, weight);
            survey();
            return previous;
        }

        /** Answers the previous limit. */
        int changeLimit(int limit) {
            int previous = state.limit;
            state.limit = limit;
            return previous;
        }

        boolean canMove(int key) {
            int index = state.indexOf(key);
            return index != NONE && reasonToStay(index) == 0;
        }

        /** Answers the length of the new label. */
        int move(int key) {
            int index = state.indexOf(key);
            int label = labelBehindMove(index);
            state.dropHouse(index);
            state.movedIn++;
            survey();
            return label;
        }

        boolean liesWithinLabel(int key) {
            return state.indexOf(key) == NONE && state.firstWith(key) != NONE;
        }

        /** Answers the length of the label of the evicted house's child. */
        int part(int key) {
            state.insertHouse(key);
            state.evicted++;
            survey();
            return labelLength(state.indexOf(key) + 1);
        }

        /**
         * Answers how many houses move in. One walk in the order of houses is enough: a move makes only
         * the label behind it longer, so no house that stood before it can move in because of it.
         */
        int moveAll() {
            for (int i = 0; i < state.houses; i++) {
                boolean leaves = reasonToStay(i) == 0;
                leaving.put(i, leaves ? 1 : 0);
                if (leaves) {
                    parents.put(i + 1, parents.at(i));
                }
            }
            int moved = state.dropMarked(leaving);
            state.movedIn += moved;
            survey();
            return moved;
        }

        /** Answers how many houses are evicted. */
        int partAll() {
            int added = labelLetters() - (state.houses - 1);
            int end = state.houses + added;
            // From the end on, so that no house is written over before it has its new place.
            for (int i = state.houses - 1; i > 0; i--) {
                end = writeParted(i, end);
            }
            state.houses += added;
            state.evicted += added;
            survey();
            return added;
        }

        /** Writes a house behind one for each prefix within its label, up to an end; answers where they begin. */
        private int writeParted(int index, int end) {
            int key = state.keys.at(index);
            int length = Key.length(key);
            int begin = end - labelLength(index);
            state.write(end - 1, key, state.weights.at(index));
            for (int i = end - 2; i >= begin; i--) {
                length--;
                state.write(i, Key.cut(key, length), NONE);
            }
            return begin;
        }

        // ---- names

        int names() {
            return namesIn.at(0);
        }

        int weightOf(int key) {
            int index = state.indexOf(key);
            return index == NONE ? NONE : state.weights.at(index);
        }

        int namesBefore(int key) {
            int rank = 0;
            while (rank < names() && state.keys.at(homes.at(rank)) < key) {
                rank++;
            }
            return rank;
        }

        int namesWith(int key) {
            int first = state.firstWith(key);
            return first == NONE ? 0 : namesIn.at(first);
        }

        int nameValue(int rank, int what) {
            int home = homes.at(rank);
            switch (what) {
                case 0:
                    return Key.letters(state.keys.at(home));
                case 1:
                    return Key.length(state.keys.at(home));
                case 2:
                    return state.weights.at(home);
                default:
                    return roads.at(home);
            }
        }

        /** The length of the longest beginning of a prefix that is in the town. */
        private int knownLength(int key) {
            int length = Key.length(key);
            while (length > 0 && state.firstWith(Key.cut(key, length)) == NONE) {
                length--;
            }
            return length;
        }

        int newHousesFor(int key) {
            if (weightOf(key) != NONE) {
                return NONE;
            }
            int known = knownLength(key);
            int evicted = state.indexOf(Key.cut(key, known)) == NONE ? 1 : 0;
            return Key.length(key) - known + evicted;
        }

        // ---- houses and ways

        int houseValue(int index, int what) {
            int key = state.keys.at(index);
            switch (what) {
                case 0:
                    return Key.letters(key);
                case 1:
                    return Key.length(key);
                case 2:
                    return Key.lastLetters(key, labelLength(index));
                case 3:
                    return labelLength(index);
                case 4:
                    return children.at(index);
                case 5:
                    return state.isHome(index) ? 1 : 0;
                case 6:
                    return namesIn.at(index);
                case 7:
                    return weightIn.at(index);
                default:
                    return roads.at(index);
            }
        }

        private int labelLength(int index) {
            return lengthFromParent(index, index);
        }

        /** The length of the label that leads from a house's parent to the house or one below it. */
        private int lengthFromParent(int index, int below) {
            return Key.length(state.keys.at(below)) - Key.length(state.keys.at(parents.at(index)));
        }

        int roadsBetween(int rankA, int rankB) {
            int a = homes.at(rankA);
            int b = homes.at(rankB);
            int walked = 0;
            while (a != b && walked < 2 * LONGEST_NAME) {
                // No house stands over one that is before it, so the later of two is not on the way to the other.
                if (a > b) {
                    a = parents.at(a);
                } else {
                    b = parents.at(b);
                }
                walked++;
            }
            return walked;
        }

        /** Each road is walked twice: names in order lead into a part once, and each end is a home. */
        int tourRoads() {
            return 2 * (state.houses - 1);
        }

        int townValue(int what) {
            switch (what) {
                case 0:
                    return names();
                case 1:
                    return state.houses;
                case 2:
                    return state.limit;
                case 3:
                    return cost();
                case 4:
                    return labelLetters();
                case 5:
                    return longestLabel();
                case 6:
                    return longestWay();
                case 7:
                    return state.movedIn;
                case 8:
                    return state.evicted;
                case 9:
                    return state.built;
                default:
                    return state.tornDown;
            }
        }

        int cost() {
            int cost = 0;
            for (int rank = 0; rank < names(); rank++) {
                int home = homes.at(rank);
                cost += state.weights.at(home) * roads.at(home);
            }
            return cost;
        }

        private int labelLetters() {
            int letters = 0;
            for (int i = 1; i < state.houses; i++) {
                letters += labelLength(i);
            }
            return letters;
        }

        private int longestLabel() {
            int longest = 0;
            for (int i = 1; i < state.houses; i++) {
                longest = Math.max(longest, labelLength(i));
            }
            return longest;
        }

        private int longestWay() {
            int longest = 0;
            for (int rank = 0; rank < names(); rank++) {
                longest = Math.max(longest, roads.at(homes.at(rank)));
            }
            return longest;
        }

        // ---- what if

        /** Why a house cannot move in, 1 to 4; 0 if it can. */
        int reasonToStay(int index) {
            if (index == 0) {
                return 1;
            }
            if (state.isHome(index)) {
                return 2;
            }
            if (children.at(index) > 1) {
                return 3;
            }
            return labelBehindMove(index) > state.limit ? 4 : 0;
        }

        /** The length of the label that a house with one child, which stands right behind it, would leave. */
        private int labelBehindMove(int index) {
            return lengthFromParent(index, index + 1);
        }

        int saving(int index) {
            return reasonToStay(index) == 0 ? weightIn.at(index) : NONE;
        }

        int bestToMove() {
            int best = NONE;
            int most = NONE;
            for (int i = 0; i < state.houses; i++) {
                int saving = saving(i);
                if (saving > most) {
                    best = i;
                    most = saving;
                }
            }
            return best;
        }
    }

    /** The bytes of the command text. */
    private static final class CommandText {
        private final Row signs = new Row(MOST_BYTES);
        private int length = 0;

        int length() {
            return length;
        }

        int signAt(int index) {
            return signs.at(index);
        }

        /** Answers the length then. */
        int append(int sign) {
            signs.put(length, sign);
            length++;
            return length;
        }

        /** Answers the length before. */
        int empty() {
            int before = length;
            length = 0;
            return before;
        }
    }

    /** Reads commands sign by sign. Behind a semicolon it holds the command that this has ended. */
    private static final class CommandReader {
        private static final int MOST_DIGITS = 2;

        private boolean inCommand = false;
        private int kind = 0;
        private int letters = 0;
        private int length = 0;
        private int number = 0;
        private int digits = 0;

        void restart() {
            inCommand = false;
        }

        boolean isBetweenCommands() {
            return !inCommand;
        }

        int kind() {
            return kind;
        }

        int key() {
            return Key.of(letters, length);
        }

        int number() {
            return number;
        }

        /** Reads one more sign; false if it cannot stand here. */
        boolean read(int sign) {
            if (!inCommand) {
                return begin(sign);
            }
            if (sign == ';') {
                inCommand = !isWhole();
                return !inCommand;
            }
            if (sign >= 'a' && sign <= 'h') {
                return readLetter(sign - 'a');
            }
            return sign >= '0' && sign <= '9' && readDigit(sign - '0');
        }

        private boolean begin(int sign) {
            kind = sign;
            letters = 0;
            length = 0;
            number = 0;
            digits = 0;
            inCommand = hasName() || kind == '=' || kind == '*';
            return inCommand;
        }

        private boolean hasName() {
            return kind == '+' || kind == '-' || kind == '<' || kind == '>';
        }

        private boolean isWhole() {
            if (kind == '=') {
                return digits == 1;
            }
            return kind == '*' || length > 0;
        }

        private boolean readLetter(int letter) {
            if (!hasName() || digits > 0 || length == LONGEST_NAME) {
                return false;
            }
            letters = letters * 8 + letter;
            length++;
            return true;
        }

        private boolean readDigit(int digit) {
            if (digits == mostDigits()) {
                return false;
            }
            number = number * 10 + digit;
            digits++;
            return true;
        }

        /** How many digits may stand in the command so far. */
        private int mostDigits() {
            if (kind == '=') {
                return 1;
            }
            return kind == '+' && length > 0 ? MOST_DIGITS : 0;
        }
    }
}
