/** A test for each sentence of the promises 1 to 28 that names a boundary case. */
public final class PromiseEdgeTest extends TownCase {
    private static final String MOST = "abcdefgh";
    private static final int[] FAR = {Integer.MIN_VALUE, -100, 100, 127, 1 << 30, Integer.MAX_VALUE};

    public static void main(String[] args) {
        PromiseEdgeTest test = new PromiseEdgeTest();
        test.newTowns();
        test.changes();
        test.questions();
        test.whatIf();
        test.texts();
        test.digests();
        test.check.end("PromiseEdgeTest");
    }

    private void changes() {
        addArguments();
        addAnswersAndRefusals();
        removals();
        weighings();
        limits();
        moves();
        evictions();
        compressions();
        expansions();
    }

    private void questions() {
        ranks();
        nthNames();
        weights();
        counts();
        housesByIndex();
        housesByPrefix();
        roadsBetween();
        tours();
        wholes();
        totals();
    }

    private void whatIf() {
        reasons();
        savings();
        bestMoves();
        costs();
        newHouses();
    }

    private void texts() {
        typedBytes();
        emptiedTexts();
        runTexts();
        undoneStates();
    }

    // ---- letters and lengths beyond their ranges

    private static int lastOf(int length) {
        return (1 << 3 * length) - 1;
    }

    /** The first and the last name of a length, of the weights 1 and 2. */
    private static RoadNames pairOf(int length) {
        RoadNames town = new RoadNames();
        town.add(0, length, 1);
        town.add(lastOf(length), length, 2);
        return town;
    }

    private interface OnTown {
        int call(RoadNames town, int letters, int length);
    }

    /** Letters below 0, 8 to the power of the length and more, for each length there is. */
    private void refusesLetters(String what, int shortest, OnTown call) {
        for (int length = shortest; length <= 8; length++) {
            RoadNames town = busyTown();
            for (int letters : new int[] {-1, lastOf(length) + 1, Integer.MIN_VALUE, Integer.MAX_VALUE}) {
                int wide = length;
                refused(town, what + " of letters " + letters + ", length " + length,
                        () -> call.call(town, letters, wide), ARGUMENT);
            }
        }
    }

    /** One letter too few and too many, and lengths behind which shifts of 3 bits for each wrap around. */
    private void refusesLengths(String what, int shortest, OnTown call) {
        RoadNames town = busyTown();
        for (int length : new int[] {shortest - 1, 9, 10, 11, 32, 33, 64, Integer.MIN_VALUE, Integer.MAX_VALUE, -8}) {
            refused(town, what + " of length " + length, () -> call.call(town, 0, length), ARGUMENT);
        }
    }

    private void aboutLetters(String promise) {
        check.about(promise + ", letters: the letters, 0 or more, below 8 to the power of length");
    }

    private void aboutNameLength(String promise) {
        check.about(promise + ", length: 1 to 8");
    }

    private void aboutPrefixLength(String promise) {
        check.about(promise + ", length: 0 to 8");
    }

    private void asksOfNames(String promise, OnTown call) {
        aboutLetters(promise);
        refusesLetters(promise, 1, call);
        aboutNameLength(promise);
        refusesLengths(promise, 1, call);
    }

    private void asksOfPrefixes(String promise, OnTown call) {
        aboutLetters(promise);
        refusesLetters(promise, 0, call);
        aboutPrefixLength(promise);
        refusesLengths(promise, 0, call);
    }

    // ---- 1 A new object

    private void newTowns() {
        check.about("1 Creates a town that has the root alone, with the limit 3, an empty command text "
                + "and an empty undo stack.");
        RoadNames town = new RoadNames();
        wholeIs("new", town, 0, 1, 3, 0, 0, 0, 0, 0, 0, 0, 0, 0);
        check.throwing("no second house", () -> town.house(1, 0), INDEX);
        check.throwing("no name", () -> town.nth(0, 0), INDEX);
        check.throwing("no state", town::undo, STATE);
        check.due("no text", town.clearCommands(), 0);
        check.due("no command", town.runCommands(), 0);
        RoadNames used = busyTown();
        check.due("names of another object", used.whole(0), 4);
        wholeIs("new beside another object", new RoadNames(), 0, 1, 3, 0, 0, 0, 0, 0, 0, 0, 0, 0);
    }

    // ---- 2 add

    private void addArguments() {
        asksOfNames("2 add", (town, letters, length) -> town.add(letters, length, 0));
        for (int length = 1; length <= 8; length++) {
            RoadNames town = new RoadNames();
            check.due("the last one of length " + length, town.add(lastOf(length), length, 0), 0);
            check.due("the first one of length " + length, town.add(0, length, 99), 0);
        }
        check.about("2 add, weight: 0 to 99");
        RoadNames town = new RoadNames();
        check.due("weight 0", add(town, "a", 0), 0);
        check.due("weight 99", add(town, "b", 99), 1);
        refused(town, "weight -1", () -> add(town, "c", -1), ARGUMENT);
        refused(town, "weight 100", () -> add(town, "c", 100), ARGUMENT);
        for (int weight : FAR) {
            refused(town, "weight " + weight, () -> add(town, "c", weight), ARGUMENT);
        }
    }

    private void addAnswersAndRefusals() {
        check.about("2 Returns its rank then.");
        RoadNames town = fullTown();
        remove(town, "aaaa");
        check.due("the first of 24", add(town, "a", 0), 0);
        remove(town, "a");
        check.due("the last of 24", add(town, "hhhhhhhh", 0), 23);
        remove(town, "hhhhhhhh");
        check.due("behind its own beginning", add(town, "aaaba", 0), 1);
        check.due("in an empty town", add(new RoadNames(), "h", 0), 0);
        check.about("2 Throws IllegalStateException if it is in the town, or there are 24 names");
        refused(town, "there are 24 names", () -> add(town, "h", 0), STATE);
        refused(town, "both", () -> add(town, "aaaba", 0), STATE);
        remove(town, "aaaba");
        refused(town, "it is in the town", () -> add(town, "aaab", 0), STATE);
        check.due("neither", add(town, "h", 0), 23);
    }

    // ---- 3 remove

    private void removals() {
        asksOfNames("3 remove", RoadNames::remove);
        for (int length = 1; length <= 8; length++) {
            RoadNames town = pairOf(length);
            check.due("the first one of length " + length, town.remove(0, length), length);
            check.due("the last one of length " + length, town.remove(lastOf(length), length), length);
        }
        check.about("3 Returns the number of houses that are torn down.");
        RoadNames town = townOf("ab", "a", MOST);
        check.due("none", remove(town, "ab"), 0);
        check.due("seven", remove(town, MOST), 7);
        check.due("one", remove(town, "a"), 1);
        check.about("3 Throws IllegalStateException if the name is not in the town");
        refused(town, "an empty town", () -> remove(town, "a"), STATE);
        RoadNames full = fullTown();
        refused(full, "a beginning", () -> remove(full, "aaa"), STATE);
        refused(full, "behind a name", () -> remove(full, "aaaaa"), STATE);
        refused(full, "elsewhere", () -> remove(full, "h"), STATE);
        full.compress();
        refused(full, "within a label", () -> remove(full, "a"), STATE);
    }

    // ---- 4 setWeight

    private void weighings() {
        asksOfNames("4 setWeight", (town, letters, length) -> town.setWeight(letters, length, 0));
        for (int length = 1; length <= 8; length++) {
            RoadNames town = pairOf(length);
            check.due("the first one of length " + length, town.setWeight(0, length, 0), 1);
            check.due("the last one of length " + length, town.setWeight(lastOf(length), length, 0), 2);
        }
        check.about("4 setWeight, weight: 0 to 99");
        RoadNames town = townOf("ab50");
        check.due("to 0", setWeight(town, "ab", 0), 50);
        check.due("from 0 to 99", setWeight(town, "ab", 99), 0);
        check.due("from 99 to 99", setWeight(town, "ab", 99), 99);
        refused(town, "to -1", () -> setWeight(town, "ab", -1), ARGUMENT);
        for (int weight : FAR) {
            refused(town, "to " + weight, () -> setWeight(town, "ab", weight), ARGUMENT);
        }
        check.about("4 Throws IllegalStateException if the name is not in the town");
        refused(town, "a house, but no home", () -> setWeight(town, "a", 0), STATE);
        refused(town, "no house", () -> setWeight(town, "abc", 0), STATE);
        refused(new RoadNames(), "an empty town", () -> setWeight(new RoadNames(), "a", 0), STATE);
        check.due("the weight is the last one set", weight(town, "ab"), 99);
    }

    // ---- 5 setLimit

    private void limits() {
        check.about("5 setLimit, limit: 1 to 8");
        RoadNames town = compressed(8, MOST);
        check.due("to 1", town.setLimit(1), 8);
        check.due("to 8", town.setLimit(8), 1);
        refused(town, "to 0", () -> town.setLimit(0), ARGUMENT);
        refused(town, "to 9", () -> town.setLimit(9), ARGUMENT);
        refused(town, "to -1", () -> town.setLimit(-1), ARGUMENT);
        for (int limit : FAR) {
            refused(town, "to " + limit, () -> town.setLimit(limit), ARGUMENT);
        }
        check.about("5 Sets the limit; labels stay as they are.");
        town.setLimit(1);
        check.due("a label of 8 letters with limit 1", town.whole(5), 8);
        check.due("houses", town.whole(1), 2);
        check.due("compress leaves it, too", town.compress(), 0);
        check.due("the label then", town.whole(5), 8);
    }

    // ---- 6 moveIn

    private void moves() {
        asksOfPrefixes("6 moveIn", RoadNames::moveIn);
        for (int length = 1; length <= 7; length++) {
            RoadNames town = pairOf(8);
            check.due("the first one of length " + length, town.moveIn(0, length), 2);
            check.due("the last one of length " + length, town.moveIn(lastOf(length), length), 2);
        }
        check.about("6 Returns the number of letters of the new label.");
        RoadNames town = townOf(MOST);
        town.setLimit(8);
        for (int length = 1; length <= 7; length++) {
            check.due("of prefix " + length, moveIn(town, MOST.substring(0, length)), length + 1);
        }
        check.about("6 Throws IllegalStateException if the prefix has no house, or it cannot move in");
        refused(town, "within a label", () -> moveIn(town, "a"), STATE);
        refused(town, "outside the town", () -> moveIn(town, "b"), STATE);
        refused(town, "the root", () -> moveIn(town, ""), STATE);
        refused(town, "a home", () -> moveIn(town, MOST), STATE);
        RoadNames wide = townOf("ab", "ac", "bcd");
        refused(wide, "two children", () -> moveIn(wide, "a"), STATE);
        wide.setLimit(1);
        refused(wide, "two letters with limit 1", () -> moveIn(wide, "b"), STATE);
        RoadNames empty = new RoadNames();
        refused(empty, "the root of an empty town", () -> moveIn(empty, ""), STATE);
        refused(empty, "anything in an empty town", () -> moveIn(empty, MOST), STATE);
    }

    // ---- 7 evict

    private void evictions() {
        asksOfPrefixes("7 evict", RoadNames::evict);
        for (int length = 1; length <= 7; length++) {
            RoadNames town = compressed(8, "aaaaaaaa", "hhhhhhhh");
            check.due("the first one of length " + length, town.evict(0, length), 8 - length);
            check.due("the last one of length " + length, town.evict(lastOf(length), length), 8 - length);
        }
        check.about("7 Returns the number of letters of the label of its child.");
        RoadNames town = compressed(8, MOST, "h");
        check.due("seven", evict(town, "a"), 7);
        check.due("one, of a label of seven", evict(town, "abcdefg"), 1);
        check.due("one, of a label of six", evict(town, "abcdef"), 1);
        check.about("7 Throws IllegalStateException if the prefix does not lie within a label");
        refused(town, "the root", () -> evict(town, ""), STATE);
        refused(town, "an evicted house", () -> evict(town, "a"), STATE);
        refused(town, "the end of a label", () -> evict(town, MOST), STATE);
        refused(town, "a label of one letter", () -> evict(town, "h"), STATE);
        refused(town, "behind a name", () -> evict(town, "ha"), STATE);
        refused(town, "off a label", () -> evict(town, "abd"), STATE);
        RoadNames empty = new RoadNames();
        refused(empty, "the root of an empty town", () -> evict(empty, ""), STATE);
        refused(empty, "anything in an empty town", () -> evict(empty, "a"), STATE);
    }

    // ---- 8 compress

    private void compressions() {
        check.about("8 Lets all houses move in that can, one after the other: "
                + "always the first one in the order of houses that can.");
        check.due("none in an empty town", new RoadNames().compress(), 0);
        check.due("none where all are homes", townOf("a", "ab", "abc").compress(), 0);
        RoadNames narrow = townOf(MOST);
        narrow.setLimit(1);
        check.due("none with limit 1", narrow.compress(), 0);
        narrow.setLimit(8);
        check.due("all with limit 8", narrow.compress(), 7);
        check.due("none a second time", narrow.compress(), 0);
        check.due("the most that can", mostMoves(), 8 + 24 * 6 - 8);
        RoadNames rest = townOf(MOST);
        check.due("from the first one on", rest.compress(), 5);
        labelsAre("the short label is the last", rest, "abc:abc", "abcdef:def", "abcdefgh:gh");
        RoadNames uneven = townOf("abcdef");
        moveIn(uneven, "ab");
        check.due("behind another move", uneven.compress(), 3);
        labelsAre("the house before it moves in first", uneven, "abc:abc", "abcdef:def");
        RoadNames after = townOf("abcdef");
        moveIn(after, "abc");
        check.due("a label in the middle", after.compress(), 2);
        labelsAre("labels then", after, "ab:ab", "abcde:cde", "abcdef:f");
    }

    /** With limit 7 all of the 24 names' own houses move in but the homes; eight first houses have three children. */
    private static int mostMoves() {
        RoadNames town = mostHouses();
        town.setLimit(7);
        return town.compress();
    }

    // ---- 9 expand

    private void expansions() {
        check.about("9 Evicts houses everywhere within labels, so that all labels have one letter.");
        check.due("none in an empty town", new RoadNames().expand(), 0);
        check.due("none where labels have one letter", townOf(MOST).expand(), 0);
        RoadNames town = compressed(8, MOST);
        check.due("seven in a label of eight", town.expand(), 7);
        check.due("the longest label", town.whole(5), 1);
        check.due("none a second time", town.expand(), 0);
        RoadNames most = mostHouses();
        most.setLimit(8);
        int moved = most.compress();
        check.due("the most that can", most.expand(), moved);
        check.due("the longest of the most labels", most.whole(5), 1);
        check.due("the most houses", most.whole(1), 177);
        check.due("their homes", most.house(0, 6), 24);
        check.due("the last one is a home", most.house(176, 5), 1);
        check.due("the last one but one is none", most.house(175, 5), 0);
    }

    // ---- 10 rank

    private void ranks() {
        asksOfNames("10 rank", RoadNames::rank);
        for (int length = 1; length <= 8; length++) {
            RoadNames town = pairOf(length);
            check.due("the first one of length " + length, town.rank(0, length), 0);
            check.due("the last one of length " + length, town.rank(lastOf(length), length), 1);
        }
        check.about("10 how many names in the town come before it (whether it is in the town or not)");
        check.due("in an empty town", rank(new RoadNames(), MOST), 0);
        RoadNames full = fullTown();
        check.due("the first one", rank(full, "aaaa"), 0);
        check.due("before the first one", rank(full, "aaa"), 0);
        check.due("behind the first one", rank(full, "aaaaa"), 1);
        check.due("the last one", rank(full, "caah"), 23);
        check.due("before the last one", rank(full, "caagh"), 23);
        check.due("behind the last one", rank(full, "caaha"), 24);
        check.due("behind all", rank(full, "hhhhhhhh"), 24);
    }

    // ---- 11 nth

    private void nthNames() {
        check.about("11 nth, rank: 0 for the first name, and so on");
        RoadNames town = fullTown();
        check.due("the first one", town.nth(0, 0), 0);
        check.due("the last one", town.nth(23, 0), letters("caah"));
        check.about("11 Throws IndexOutOfBoundsException if there are not so many names");
        refused(town, "one too many", () -> town.nth(24, 0), INDEX);
        refused(town, "below 0", () -> town.nth(-1, 0), INDEX);
        for (int rank : FAR) {
            refused(town, "rank " + rank, () -> town.nth(rank, 0), INDEX);
        }
        remove(town, "caah");
        refused(town, "one that has gone", () -> town.nth(23, 0), INDEX);
        RoadNames empty = new RoadNames();
        refused(empty, "an empty town", () -> empty.nth(0, 0), INDEX);
        check.about("11 nth, what: 0 its letters, 1 its length, 2 its weight, 3 its way");
        check.due("0", town.nth(22, 0), letters("caag"));
        check.due("3", town.nth(22, 3), 4);
        refused(town, "-1", () -> town.nth(22, -1), ARGUMENT);
        refused(town, "4", () -> town.nth(22, 4), ARGUMENT);
        for (int what : FAR) {
            refused(town, "what " + what, () -> town.nth(0, what), ARGUMENT);
        }
    }

    // ---- 12 weight

    private void weights() {
        asksOfNames("12 weight", RoadNames::weight);
        for (int length = 1; length <= 8; length++) {
            RoadNames town = pairOf(length);
            check.due("the first one of length " + length, town.weight(0, length), 1);
            check.due("the last one of length " + length, town.weight(lastOf(length), length), 2);
        }
        check.about("12 Returns its weight; NONE if it is not.");
        RoadNames town = townOf("ab0", "abcd99");
        check.due("the least", weight(town, "ab"), 0);
        check.due("the most", weight(town, "abcd"), 99);
        check.due("a house, but no home", weight(town, "abc"), -1);
        check.due("no house", weight(town, "abcde"), -1);
        check.due("a name of the same letters", town.weight(letters("ab"), 3), -1);
        check.due("in an empty town", weight(new RoadNames(), "a"), -1);
        town.compress();
        check.due("within a label", weight(town, "a"), -1);
        remove(town, "ab");
        check.due("removed, its house stays", weight(town, "ab"), -1);
    }

    // ---- 13 count

    private void counts() {
        asksOfPrefixes("13 count", RoadNames::count);
        for (int length = 1; length <= 8; length++) {
            RoadNames town = pairOf(length);
            check.due("the first one of length " + length, town.count(0, length), 1);
            check.due("the last one of length " + length, town.count(lastOf(length), length), 1);
            check.due("all of length " + length, town.count(0, 0), 2);
        }
        check.about("13 Counts the names that begin with a prefix.");
        check.due("none in an empty town", new RoadNames().count(0, 0), 0);
        RoadNames full = fullTown();
        check.due("all", count(full, ""), 24);
        check.due("a third", count(full, "a"), 8);
        check.due("a third, of a longer one", count(full, "aaa"), 8);
        check.due("a whole name", count(full, "aaaa"), 1);
        check.due("behind a name", count(full, "aaaaa"), 0);
        check.due("elsewhere", count(full, "ab"), 0);
        remove(full, "caah");
        add(full, "aaa", 0);
        check.due("the name that is the prefix, too", count(full, "aaa"), 9);
        full.compress();
        check.due("within a label", count(full, "aa"), 9);
    }

    // ---- 14 house

    private void housesByIndex() {
        check.about("14 house, index: 0 for the root, and so on in the order of houses");
        RoadNames town = mostHouses();
        check.due("the root", town.house(0, 1), 0);
        check.due("the last of the most", town.house(176, 0), town.nth(23, 0));
        check.about("14 Throws IndexOutOfBoundsException if there are not so many houses");
        refused(town, "one too many", () -> town.house(177, 0), INDEX);
        refused(town, "below 0", () -> town.house(-1, 0), INDEX);
        for (int index : new int[] {Integer.MIN_VALUE, -177, 193, 1 << 30, Integer.MAX_VALUE}) {
            refused(town, "index " + index, () -> town.house(index, 0), INDEX);
        }
        RoadNames empty = new RoadNames();
        refused(empty, "an empty town", () -> empty.house(1, 0), INDEX);
        town.undo();
        refused(town, "one that has gone", () -> town.house(176, 0), INDEX);
        valuesOfHouses();
    }

    private void valuesOfHouses() {
        check.about("14 2 letters of its label, 3 length of its label (both 0 for the root)");
        RoadNames town = compressed(8, "aaaaaaaa9", "hhhhhhhh5");
        int[][] want = {{0, 0, 0, 0, 2, 0, 2, 14, 0}, {0, 8, 0, 8, 0, 1, 1, 9, 1},
            {(1 << 24) - 1, 8, (1 << 24) - 1, 8, 0, 1, 1, 5, 1}};
        for (int index = 0; index < 3; index++) {
            for (int what = 0; what <= 8; what++) {
                check.due("house(" + index + ", " + what + ")", town.house(index, what), want[index][what]);
            }
        }
        check.about("14 Throws IllegalArgumentException if what is out of range");
        refused(town, "-1", () -> town.house(0, -1), ARGUMENT);
        refused(town, "9", () -> town.house(0, 9), ARGUMENT);
        for (int what : FAR) {
            refused(town, "what " + what, () -> town.house(0, what), ARGUMENT);
        }
        check.about("14 6 names below it and in it, 7 sum of the weights of these");
        RoadNames most = mostHouses();
        check.due("all names", most.house(0, 6), 24);
        check.due("all weights", most.house(0, 7), 24 * 99);
        check.due("one home's names", most.house(176, 6), 1);
        check.due("one home's weight", most.house(176, 7), 99);
        check.due("a home with a name below, 6", townOf("a3", "ab4").house(1, 6), 2);
        check.due("a home with a name below, 7", townOf("a3", "ab4").house(1, 7), 7);
        check.due("8, the most roads", most.house(176, 8), 8);
        childrenAndRoads();
    }

    private void childrenAndRoads() {
        check.about("14 4 number of its children, 5 1 if it is a home or 0 if not");
        RoadNames empty = new RoadNames();
        check.due("no children of the root", empty.house(0, 4), 0);
        check.due("the root is no home", empty.house(0, 5), 0);
        RoadNames full = fullTown();
        check.due("eight children", full.house(houseOf(full, "aaa"), 4), 8);
        check.due("one child", full.house(houseOf(full, "aa"), 4), 1);
        check.due("no children of the last home", full.house(full.whole(1) - 1, 4), 0);
        remove(full, "aaab");
        add(full, "aaa", 0);
        check.due("a home with seven children", full.house(houseOf(full, "aaa"), 4), 7);
        check.due("it is one", full.house(houseOf(full, "aaa"), 5), 1);
        remove(full, "aaa");
        check.due("it is none any more", full.house(houseOf(full, "aaa"), 5), 0);
        check.about("14 8 roads from the root");
        check.due("none of the root", empty.house(0, 8), 0);
        RoadNames town = townOf(MOST);
        town.setLimit(8);
        for (int roads = 8; roads >= 1; roads--) {
            check.due("its last house, " + roads, town.house(roads, 8), roads);
            check.due("its first house, " + roads, town.house(1, 8), 1);
            if (roads > 1) {
                moveIn(town, MOST.substring(0, 9 - roads));
            }
        }
    }

    // ---- 15 houseOf

    private void housesByPrefix() {
        asksOfPrefixes("15 houseOf", RoadNames::houseOf);
        for (int length = 1; length <= 8; length++) {
            RoadNames town = pairOf(length);
            check.due("the first one of length " + length, town.houseOf(0, length), length);
            check.due("the last one of length " + length, town.houseOf(lastOf(length), length), 2 * length);
            check.due("the root beside length " + length, town.houseOf(0, 0), 0);
        }
        check.about("15 NONE if it has no house (also if it is not in the town)");
        RoadNames town = compressed(8, MOST, "h");
        check.due("behind the first letter of a label", houseOf(town, "a"), -1);
        check.due("before the last letter of a label", houseOf(town, "abcdefg"), -1);
        check.due("at the end of a label", houseOf(town, MOST), 1);
        check.due("not in the town", houseOf(town, "b"), -1);
        check.due("off a label", houseOf(town, "abd"), -1);
        check.due("behind a name", houseOf(town, "ha"), -1);
        check.due("in an empty town", houseOf(new RoadNames(), "a"), -1);
    }

    // ---- 16 between

    private void roadsBetween() {
        check.about("16 over the last house that is on the ways to both");
        RoadNames town = townOf("a", MOST, "abcdefga", "hhhhhhhh");
        check.due("over the last house but one", town.between(1, 2), 2);
        check.due("over the root", town.between(1, 3), 16);
        check.due("over a home on the way to the other", town.between(0, 1), 7);
        check.due("and back", town.between(1, 0), 7);
        check.about("16 Returns the number; 0 if both are the same.");
        for (int rank = 0; rank < 4; rank++) {
            check.due("rank " + rank, town.between(rank, rank), 0);
        }
        check.due("the last of 24", fullTown().between(23, 23), 0);
        check.due("the first and the last of 24", fullTown().between(0, 23), 8);
        check.about("16 Throws IndexOutOfBoundsException if there are not so many names");
        refused(town, "the first one too large", () -> town.between(4, 0), INDEX);
        refused(town, "the second one too large", () -> town.between(0, 4), INDEX);
        refused(town, "the first one too small", () -> town.between(-1, 0), INDEX);
        refused(town, "the second one too small", () -> town.between(0, -1), INDEX);
        refused(town, "both the same", () -> town.between(4, 4), INDEX);
        for (int rank : FAR) {
            refused(town, "ranks 0 and " + rank, () -> town.between(0, rank), INDEX);
            refused(town, "ranks " + rank + " and 0", () -> town.between(rank, 0), INDEX);
        }
        RoadNames empty = new RoadNames();
        refused(empty, "an empty town", () -> empty.between(0, 0), INDEX);
    }

    // ---- 17 tour

    private void tours() {
        check.about("17 goes from the root to all homes, in the order of names, from home to home "
                + "over the last house that is on the ways to both, and back to the root");
        check.due("no homes", new RoadNames().tour(), 0);
        check.due("one home", townOf("a").tour(), 2);
        check.due("one home, eight roads away", townOf(MOST).tour(), 16);
        check.due("homes on the way", townOf("a", "ab", "abc").tour(), 6);
        check.due("homes on both sides", townOf("a", "h").tour(), 4);
        RoadNames most = mostHouses();
        check.due("the most roads", most.tour(), 2 * 176);
        int walked = most.nth(0, 3) + most.nth(23, 3);
        for (int rank = 1; rank < 24; rank++) {
            walked += most.between(rank - 1, rank);
        }
        check.due("the same, from home to home", most.tour(), walked);
    }

    // ---- 18 whole

    private void wholes() {
        check.about("18 1 houses (the root, too)");
        check.due("of an empty town", new RoadNames().whole(1), 1);
        check.due("of the most", mostHouses().whole(1), 177);
        check.about("18 5 the longest label (0 without roads)");
        check.due("without roads", new RoadNames().whole(5), 0);
        check.due("the shortest", townOf(MOST).whole(5), 1);
        check.due("the longest", compressed(8, MOST).whole(5), 8);
        check.about("18 6 the longest way of a name (0 without names)");
        check.due("without names", new RoadNames().whole(6), 0);
        check.due("the least", compressed(8, MOST).whole(6), 1);
        check.due("the most", townOf(MOST, "h").whole(6), 8);
        check.about("18 4 letters of all labels");
        check.due("without labels", new RoadNames().whole(4), 0);
        check.due("of the most", mostHouses().whole(4), 176);
        check.due("of one label", compressed(8, MOST).whole(4), 8);
        check.about("18 11 length of the command text");
        RoadNames text = new RoadNames();
        check.due("of an empty text", text.whole(11), 0);
        type(text, " ".repeat(120));
        check.due("of a full text", text.whole(11), 120);
        check.about("18 Throws IllegalArgumentException if what is out of range");
        refused(text, "-1", () -> text.whole(-1), ARGUMENT);
        refused(text, "12", () -> text.whole(12), ARGUMENT);
        for (int what : FAR) {
            refused(text, "what " + what, () -> text.whole(what), ARGUMENT);
        }
        wholeIs("all of them", busyTown(), 4, 9, 4, 3 * 4 + 4 * 2 + 99 * 3, 15, 3, 4, 8, 1, 15, 0, 9);
    }

    private void totals() {
        check.about("18 7 houses that moved in, in all (this and 8 to 10 are of the state, so undo() restores them)");
        RoadNames town = townOf(MOST, "b");
        town.compress();
        town.expand();
        remove(town, "b");
        wholeIs("before undo", town, 1, 9, 3, 0, 8, 1, 8, 5, 5, 9, 1);
        town.undo();
        wholeIs("behind undo of remove", town, 2, 10, 3, 0, 9, 1, 8, 5, 5, 9, 0);
        town.undo();
        wholeIs("behind undo of expand", town, 2, 5, 3, 0, 9, 3, 3, 5, 0, 9, 0);
        town.undo();
        wholeIs("behind undo of compress", town, 2, 10, 3, 0, 9, 1, 8, 0, 0, 9, 0);
        town.undo();
        wholeIs("behind undo of add", town, 1, 9, 3, 0, 8, 1, 8, 0, 0, 8, 0);
        check.about("18 8 houses that were evicted, in all, by evict(), expand() and added names");
        RoadNames all = compressed(8, MOST);
        evict(all, "a");
        check.due("by evict()", all.whole(8), 1);
        add(all, "abc", 0);
        check.due("by an added name", all.whole(8), 2);
        add(all, "abcd", 0);
        check.due("by another one", all.whole(8), 3);
        all.expand();
        check.due("by expand()", all.whole(8), 3 + 4);
        add(all, "abcde", 0);
        check.due("by none", all.whole(8), 7);
        builtAndTornDown();
    }

    private void builtAndTornDown() {
        check.about("18 9 houses that were built, in all, 10 houses that were torn down, in all");
        RoadNames town = new RoadNames();
        int built = 0;
        for (int length = 1; length <= 8; length++) {
            town.add(lastOf(length), length, 0);
            town.remove(lastOf(length), length);
            built += length;
            check.due("built up to length " + length, town.whole(9), built);
            check.due("torn down up to length " + length, town.whole(10), built);
        }
        refused(town, "a refused name", () -> town.add(8, 1, 0), ARGUMENT);
        refused(town, "a name that is not there", () -> remove(town, MOST), STATE);
        check.due("by a run", run(town, "+abcdefgh;-abcdefgh;+a;"), 3);
        wholeIs("behind a run", town, 1, 2, 3, 0, 1, 1, 1, 0, 0, built + 9, built + 8, 23);
        add(town, "abc", 0);
        town.compress();
        evict(town, "ab");
        town.expand();
        check.due("none is built by houses that are evicted", town.whole(9), built + 11);
        check.due("none is torn down by houses that move in", town.whole(10), built + 8);
        check.due("none by a question", housesFor(town, MOST), 5);
        town.costWith(1);
        wholeIs("behind questions", town, 2, 4, 3, 0, 3, 1, 3, 1, 1, built + 11, built + 8, 23);
    }

    // ---- 19 reason

    private void reasons() {
        asksOfPrefixes("19 reason", RoadNames::reason);
        for (int length = 1; length <= 8; length++) {
            RoadNames town = pairOf(length);
            check.due("the first one of length " + length, town.reason(0, length), 2);
            check.due("the last one of length " + length, town.reason(lastOf(length), length), 2);
        }
        check.about("19 Returns the reason, 1 to 4; 0 if it can; NONE if the prefix has no house.");
        RoadNames town = townOf("abc", "abd", "b", MOST.substring(3));
        check.due("1", reason(town, ""), 1);
        check.due("2", reason(town, "b"), 2);
        check.due("3", reason(town, "ab"), 3);
        check.due("0", reason(town, "a"), 0);
        town.setLimit(1);
        check.due("4", reason(town, "a"), 4);
        check.due("NONE, not in the town", reason(town, "c"), -1);
        check.due("NONE, behind a name", reason(town, "bb"), -1);
        check.due("NONE, within a label", reason(compressed(2, "ab"), "a"), -1);
        check.due("NONE, in an empty town", reason(new RoadNames(), "a"), -1);
        check.due("1 in an empty town", reason(new RoadNames(), ""), 1);
    }

    // ---- 20 savedBy

    private void savings() {
        check.about("20 the sum of the weights of the names below it");
        RoadNames town = townOf("abc99", "abd99", "h0", "hhh0");
        check.due("two names of the most weight", town.savedBy(1), 198);
        check.due("a name of no weight", town.savedBy(houseOf(town, "hh")), 0);
        check.about("20 Returns that sum; NONE if it cannot move in.");
        check.due("the root", town.savedBy(0), -1);
        check.due("two children", town.savedBy(2), -1);
        check.due("a home without children", town.savedBy(3), -1);
        check.due("a home with one child", town.savedBy(houseOf(town, "h")), -1);
        town.setLimit(1);
        check.due("a label too long", town.savedBy(1), -1);
        check.due("the root of an empty town", new RoadNames().savedBy(0), -1);
        check.about("20 Throws IndexOutOfBoundsException if there are not so many houses");
        RoadNames most = mostHouses();
        check.due("the last of the most", most.savedBy(176), -1);
        check.due("the last but one of the most", most.savedBy(175), 99);
        refused(most, "one too many", () -> most.savedBy(177), INDEX);
        refused(most, "below 0", () -> most.savedBy(-1), INDEX);
        for (int index : new int[] {Integer.MIN_VALUE, -177, 193, 1 << 30, Integer.MAX_VALUE}) {
            refused(most, "index " + index, () -> most.savedBy(index), INDEX);
        }
        RoadNames empty = new RoadNames();
        refused(empty, "an empty town", () -> empty.savedBy(1), INDEX);
    }

    // ---- 21 bestMove

    private void bestMoves() {
        check.about("21 Returns the house, of several the first one; NONE if none can move in.");
        check.due("NONE in an empty town", new RoadNames().bestMove(), -1);
        check.due("NONE where all are homes", townOf("a99", "ab99").bestMove(), -1);
        RoadNames narrow = townOf("abcd99");
        narrow.setLimit(1);
        check.due("NONE with limit 1", narrow.bestMove(), -1);
        check.due("the first one of no weight", townOf("a", "bc0", "cd0").bestMove(), 2);
        check.due("the first one of a chain", townOf("abcd5").bestMove(), 1);
        check.due("the first one of two chains", townOf("ab5", "bc5").bestMove(), 1);
        check.due("the second one, of more weight", townOf("ab5", "bc6").bestMove(), 3);
        RoadNames last = townOf("a99", "hg1");
        check.due("the only one", last.bestMove(), 2);
        check.due("the first of the most houses", mostHouses().bestMove(), 2);
    }

    // ---- 22 costWith

    private void costs() {
        check.about("22 costWith, limit: 1 to 8");
        RoadNames town = townOf("abcdefgh10");
        int[] want = {80, 40, 30, 20, 20, 20, 20, 10};
        for (int limit = 1; limit <= 8; limit++) {
            check.due("limit " + limit, town.costWith(limit), want[limit - 1]);
        }
        refused(town, "limit 0", () -> town.costWith(0), ARGUMENT);
        refused(town, "limit 9", () -> town.costWith(9), ARGUMENT);
        for (int limit : FAR) {
            refused(town, "limit " + limit, () -> town.costWith(limit), ARGUMENT);
        }
        check.about("22 Returns the cost that there would be with another limit, behind expand() and compress().");
        RoadNames most = mostHouses();
        check.due("the most", most.costWith(1), 24 * 99 * 8);
        check.due("the most, with limit 8", most.costWith(8), 24 * 99 * 2);
        check.due("without names", new RoadNames().costWith(8), 0);
        check.due("without weights", townOf(MOST).costWith(1), 0);
        for (int limit = 1; limit <= 8; limit++) {
            RoadNames done = busyTown();
            int told = done.costWith(limit);
            check.due("it changes nothing with " + limit, done.digest(), busyTown().digest());
            done.setLimit(limit);
            done.expand();
            done.compress();
            check.due("as it becomes with " + limit, done.whole(3), told);
        }
    }

    // ---- 23 housesFor

    private void newHouses() {
        asksOfNames("23 housesFor", RoadNames::housesFor);
        for (int length = 1; length <= 8; length++) {
            RoadNames town = new RoadNames();
            check.due("the first one of length " + length, town.housesFor(0, length), length);
            check.due("the last one of length " + length, town.housesFor(lastOf(length), length), length);
            check.due("it is there with length " + length, pairOf(length).housesFor(lastOf(length), length), -1);
        }
        check.about("23 Tells how many houses would be built and evicted if a name was added "
                + "(also if there are 24 names).");
        RoadNames full = fullTown();
        check.due("eight in a full town", housesFor(full, "hhhhhhhh"), 8);
        check.due("none in a full town", housesFor(full, "aaa"), 0);
        check.due("a name of a full town", housesFor(full, "caah"), -1);
        full.compress();
        check.due("one, evicted in a full town", housesFor(full, "aa"), 1);
        check.due("one evicted, seven built", housesFor(compressed(8, MOST), "ahhhhhhh"), 8);
        check.due("one evicted, one built", housesFor(compressed(8, MOST), "abcdefga"), 2);
        check.about("23 Returns their number; NONE if it is in the town.");
        check.due("in the town", housesFor(townOf("a"), "a"), -1);
        check.due("a house, but not in the town", housesFor(townOf("ab"), "a"), 0);
        check.due("in an empty town", housesFor(new RoadNames(), "a"), 1);
    }

    // ---- 24 type

    private void typedBytes() {
        check.about("24 type, value: 0 to 127");
        RoadNames town = new RoadNames();
        check.due("0", town.type(0), 1);
        check.due("127", town.type(127), 2);
        refused(town, "-1", () -> town.type(-1), ARGUMENT);
        refused(town, "128", () -> town.type(128), ARGUMENT);
        refused(town, "a byte that wraps around", () -> town.type(256 + '*'), ARGUMENT);
        refused(town, "the least number", () -> town.type(Integer.MIN_VALUE), ARGUMENT);
        refused(town, "the greatest number", () -> town.type(Integer.MAX_VALUE), ARGUMENT);
        check.about("24 Throws IllegalStateException if the text has 120 bytes");
        for (int length = 3; length <= 120; length++) {
            check.due("byte " + length, town.type(length), length);
        }
        refused(town, "byte 121", () -> town.type(1), STATE);
        refused(town, "byte 121 again", () -> town.type(1), STATE);
        check.throwing("nothing is saved", town::undo, STATE);
    }

    // ---- 25 clearCommands

    private void emptiedTexts() {
        check.about("25 Empties the command text.");
        RoadNames town = new RoadNames();
        check.due("an empty one", town.clearCommands(), 0);
        town.type('a');
        check.due("one byte", town.clearCommands(), 1);
        type(town, "*;".repeat(60));
        check.due("a full one", town.clearCommands(), 120);
        check.due("it is empty", town.whole(11), 0);
        check.due("no command is left", town.runCommands(), 0);
        check.due("the run alone is saved", town.undo(), 0);
        check.due("emptied again", town.clearCommands(), 0);
    }

    // ---- 26 runCommands

    private void runTexts() {
        check.about("26 Runs the command text, which stays as it is.");
        RoadNames town = new RoadNames();
        type(town, "+a;");
        check.due("run", town.runCommands(), 1);
        check.due("run again, which fails at once", town.runCommands(), 0);
        check.due("its length", town.whole(11), 3);
        town.type('+');
        check.due("run with a fault", town.runCommands(), -14);
        check.due("its length with a fault", town.whole(11), 4);
        town.type('b');
        town.type(';');
        town.undo();
        town.undo();
        check.due("run when it goes on", town.runCommands(), 2);
        check.about("26 Undoable, if it has no fault.");
        RoadNames states = new RoadNames();
        check.due("a fault", run(states, ";"), -10);
        check.throwing("no state", states::undo, STATE);
        check.due("no fault, no command", run(states, ""), 0);
        check.due("one state", states.undo(), 0);
        check.due("no fault, none carried out", run(states, "-a;"), 0);
        check.due("one state again", states.undo(), 0);
        check.about("26 Returns the number of commands that were carried out; -10 minus the fault if it has one.");
        check.due("the most commands", run(states, "*;".repeat(60)), 60);
        check.due("none", run(states, "=0;"), 0);
        check.due("the least fault", run(states, " "), -10);
        check.due("the greatest fault", run(states, "*;".repeat(59) + "+a"), -130);
    }

    // ---- 27 undo

    private void undoneStates() {
        check.about("27 Returns the number of states that are left on the stack.");
        RoadNames town = busyTown();
        for (int left = 3; left >= 0; left--) {
            check.due("left", town.undo(), left);
        }
        check.about("27 Throws IllegalStateException if the stack is empty");
        refused(town, "four are taken", town::undo, STATE);
        refused(town, "it stays empty", town::undo, STATE);
        RoadNames empty = new RoadNames();
        refused(empty, "a new object", empty::undo, STATE);
        refused(empty, "a refused change", () -> add(empty, "", 0), ARGUMENT);
        refused(empty, "a refused change saves nothing", empty::undo, STATE);
        add(empty, "a", 0);
        check.due("one state", empty.undo(), 0);
        refused(empty, "one is taken", empty::undo, STATE);
    }

    // ---- 28 digest

    private void digests() {
        check.about("28 It starts with h = 43504. For each of the following values v, in this order, "
                + "h becomes 31 * h + v (long arithmetic, overflow wraps).");
        RoadNames[] towns = {new RoadNames(), townOf("a"), busyTown(), fullTown(), mostHouses(), compressed(8, MOST)};
        for (int i = 0; i < towns.length; i++) {
            int states = Math.min(4, new int[] {0, 1, 6, 24, 24, 3}[i]);
            check.due("town " + i, towns[i].digest(), new DigestByHand(states, towns[i]).hash());
        }
        check.due("an empty town again", new RoadNames().digest(), towns[0].digest());
        RoadNames text = new RoadNames();
        text.type('a');
        check.due("another value, another hash", text.digest() == towns[0].digest() ? 1 : 0, 0);
    }
}
