import java.util.List;

/** For each promise of the document its ordinary inputs, the edges that it names, and wrong inputs. */
public final class RoadNamesTest extends TownCase {
    public static void main(String[] args) {
        RoadNamesTest test = new RoadNamesTest();
        test.promises1To9();
        test.promises10To18();
        test.promises19To23();
        test.promises24To28();
        test.check.end("RoadNamesTest");
    }

    private void promises1To9() {
        newObject();
        adding();
        addingWrongly();
        addingTwentyFour();
        removing();
        weighing();
        limiting();
        movingIn();
        movingInWrongly();
        evicting();
        compressing();
        expanding();
    }

    private void promises10To18() {
        ranks();
        nthNames();
        weights();
        counts();
        houses();
        placesOfHouses();
        roadsBetween();
        tours();
        wholes();
    }

    private void promises19To23() {
        reasons();
        savings();
        bestMoves();
        costs();
        newHouses();
    }

    private void promises24To28() {
        typing();
        clearing();
        running();
        runningMoves();
        runningUntilAFailure();
        faults();
        undoing();
        undoingEverything();
        savingNothing();
        digests();
    }

    // ---- 1 A new object

    private void newObject() {
        RoadNames town = new RoadNames();
        check.due("NONE", RoadNames.NONE, -1);
        wholeIs("new", town, 0, 1, 3, 0, 0, 0, 0, 0, 0, 0, 0, 0);
        for (int what = 0; what <= 8; what++) {
            check.due("new: house(0, " + what + ")", town.house(0, what), 0);
        }
        check.throwing("new: house(1, 0)", () -> town.house(1, 0), INDEX);
        check.throwing("new: undo()", town::undo, STATE);
        check.due("new: runCommands()", town.runCommands(), 0);
    }

    // ---- 2 add

    private void adding() {
        RoadNames town = new RoadNames();
        check.due("add bcd", add(town, "bcd", 5), 0);
        labelsAre("one house for each letter", town, "b:b", "bc:c", "bcd:d");
        check.due("add bce", add(town, "bce", 2), 1);
        check.due("add b, which has a house", add(town, "b", 9), 0);
        check.due("add a, before all", add(town, "a", 0), 0);
        check.due("add bceh", add(town, "bceh", 99), 4);
        wholeIs("added", town, 5, 7, 3, 9 + 3 * 5 + 3 * 2 + 4 * 99, 6, 1, 4, 0, 0, 6, 0, 0);

        RoadNames parted = townOf("abcdef");
        parted.compress();
        labelsAre("behind compress", parted, "abc:abc", "abcdef:def");
        check.due("add abcdg", add(parted, "abcdg", 1), 1);
        labelsAre("evicted, then built", parted, "abc:abc", "abcd:d", "abcdef:ef", "abcdg:g");
        check.due("add ab within a label", add(parted, "ab", 1), 0);
        labelsAre("evicted alone", parted, "ab:ab", "abc:c", "abcd:d", "abcdef:ef", "abcdg:g");
        wholeIs("parted", parted, 3, 6, 3, 1 + 4, 7, 2, 4, 4, 2, 7, 0, 0);
        check.due("the evicted home is one", parted.house(1, 5), 1);
        check.due("add hhhhhhhh", parted.add((1 << 24) - 1, 8, 0), 3);
        check.due("nothing of it is known", parted.whole(9), 15);
    }

    private void addingWrongly() {
        RoadNames town = townOf("ab5");
        refusesNames(town, "add", (letters, length) -> town.add(letters, length, 1), true);
        refused(town, "add of weight -1", () -> add(town, "b", -1), ARGUMENT);
        refused(town, "add of weight 100", () -> add(town, "b", 100), ARGUMENT);
        refused(town, "add of a name in the town", () -> add(town, "ab", 6), STATE);
        refused(town, "a wrong weight comes first", () -> add(town, "ab", 100), ARGUMENT);
        check.due("the weight stays", town.weight(letters("ab"), 2), 5);
        check.due("a prefix that is no name can be added", add(town, "a", 0), 0);
    }

    private void addingTwentyFour() {
        RoadNames town = fullTown();
        check.due("24 names", town.whole(0), 24);
        refused(town, "a 25th name", () -> add(town, "hhh", 1), STATE);
        refused(town, "a 25th name that has a house", () -> add(town, "a", 1), STATE);
        refused(town, "a 25th name of a wrong weight", () -> add(town, "hhh", 100), ARGUMENT);
        remove(town, "aaaa");
        check.due("room again", add(town, "hhh", 1), 23);
        check.due("the most houses: 24 names of 8 letters", mostHouses().whole(1), 8 + 24 * 7 + 1);
    }

    // ---- 3 remove

    private void removing() {
        RoadNames town = townOf("abc1", "abd2", "ab3", "h4");
        refusesNames(town, "remove", town::remove, true);
        refused(town, "remove of a prefix that is no name", () -> remove(town, "a"), STATE);
        refused(town, "remove of what is not in the town", () -> remove(town, "hh"), STATE);
        check.due("remove abc", remove(town, "abc"), 1);
        refused(town, "remove abc again", () -> remove(town, "abc"), STATE);
        check.due("remove ab, which has a child", remove(town, "ab"), 0);
        labelsAre("its house stays", town, "a:a", "ab:b", "abd:d", "h:h");
        check.due("remove abd, up to the root", remove(town, "abd"), 3);
        labelsAre("the root stays", town, "h:h");
        check.due("torn down in all", town.whole(10), 4);
        check.due("remove the last one", remove(town, "h"), 1);
        check.due("houses", town.whole(1), 1);
        add(town, "hhhhhhhh", 1);
        check.due("remove eight houses", remove(town, "hhhhhhhh"), 8);
        check.due("no houses but the root", town.whole(1), 1);

        RoadNames up = townOf("abcdef", "ab", "aef");
        up.compress();
        check.due("remove abcdef up to a home", remove(up, "abcdef"), 2);
        labelsAre("the home stays", up, "a:a", "ab:b", "aef:ef");
        check.due("remove ab up to a house with a child", remove(up, "ab"), 1);
        labelsAre("the child stays", up, "a:a", "aef:ef");
    }

    // ---- 4 setWeight

    private void weighing() {
        RoadNames town = townOf("ab5", "abc7");
        refusesNames(town, "setWeight", (letters, length) -> town.setWeight(letters, length, 1), true);
        check.due("setWeight ab 9", town.setWeight(letters("ab"), 2, 9), 5);
        check.due("setWeight ab 0", town.setWeight(letters("ab"), 2, 0), 9);
        check.due("setWeight ab 99", town.setWeight(letters("ab"), 2, 99), 0);
        check.due("its weight", town.weight(letters("ab"), 2), 99);
        check.due("the weights from a on", town.house(1, 7), 106);
        check.due("the cost", town.whole(3), 2 * 99 + 3 * 7);
        refused(town, "setWeight to -1", () -> town.setWeight(letters("ab"), 2, -1), ARGUMENT);
        refused(town, "setWeight to 100", () -> town.setWeight(letters("ab"), 2, 100), ARGUMENT);
        refused(town, "setWeight of a prefix", () -> town.setWeight(0, 1, 1), STATE);
        refused(town, "a wrong weight comes first", () -> town.setWeight(0, 1, 100), ARGUMENT);
        check.due("states: 2 added, 3 weighed, 4 kept", town.undo(), 3);
        check.due("undone", town.weight(letters("ab"), 2), 0);
    }

    // ---- 5 setLimit

    private void limiting() {
        RoadNames town = townOf("abcdefgh1");
        town.compress();
        check.due("setLimit 8", town.setLimit(8), 3);
        check.due("setLimit 1", town.setLimit(1), 8);
        check.due("the limit", town.whole(2), 1);
        labelsAre("labels stay", town, "abc:abc", "abcdef:def", "abcdefgh:gh");
        refused(town, "setLimit 0", () -> town.setLimit(0), ARGUMENT);
        refused(town, "setLimit 9", () -> town.setLimit(9), ARGUMENT);
        refused(town, "setLimit -1", () -> town.setLimit(-1), ARGUMENT);
        check.due("undo", town.undo(), 3);
        check.due("the limit is restored", town.whole(2), 8);
        check.due("setLimit to what it is saves, too", town.setLimit(8), 8);
        check.due("undo it", town.undo(), 3);
    }

    // ---- 6 moveIn

    private void movingIn() {
        RoadNames town = townOf("abcde4");
        check.due("moveIn b", moveIn(town, "ab"), 2);
        labelsAre("the label of the house, then that of the child", town, "a:a", "abc:bc", "abcd:d", "abcde:e");
        check.due("moveIn abc", moveIn(town, "abc"), 3);
        labelsAre("three letters", town, "a:a", "abcd:bcd", "abcde:e");
        check.due("moved in", town.whole(7), 2);
        check.due("the cost", town.whole(3), 12);
        town.setLimit(5);
        check.due("moveIn a", moveIn(town, "a"), 4);
        check.due("moveIn abcd, up to the limit", moveIn(town, "abcd"), 5);
        labelsAre("one label", town, "abcde:abcde");
    }

    private void movingInWrongly() {
        RoadNames town = townOf("abcd", "abce", "ab", "hhhh");
        town.compress();
        labelsAre("compressed", town, "ab:ab", "abc:c", "abcd:d", "abce:e", "hhh:hhh", "hhhh:h");
        refusesNames(town, "moveIn", town::moveIn, false);
        refused(town, "moveIn of the root", () -> moveIn(town, ""), STATE);
        refused(town, "moveIn of a home", () -> moveIn(town, "ab"), STATE);
        refused(town, "moveIn with two children", () -> moveIn(town, "abc"), STATE);
        refused(town, "moveIn of a home without children", () -> moveIn(town, "hhhh"), STATE);
        refused(town, "moveIn beyond the limit", () -> moveIn(town, "hhh"), STATE);
        refused(town, "moveIn within a label", () -> moveIn(town, "a"), STATE);
        refused(town, "moveIn outside the town", () -> moveIn(town, "b"), STATE);
        RoadNames one = townOf("a");
        refused(one, "moveIn of the root with one child", () -> one.moveIn(0, 0), STATE);
    }

    // ---- 7 evict

    private void evicting() {
        RoadNames town = townOf("abcdefgh3", "abd1");
        town.setLimit(8);
        town.compress();
        labelsAre("compressed", town, "ab:ab", "abcdefgh:cdefgh", "abd:d");
        refusesNames(town, "evict", town::evict, false);
        refused(town, "evict at the root", () -> evict(town, ""), STATE);
        refused(town, "evict at a house", () -> evict(town, "ab"), STATE);
        refused(town, "evict at a home", () -> evict(town, "abd"), STATE);
        refused(town, "evict outside the town", () -> evict(town, "abh"), STATE);
        refused(town, "evict behind a name", () -> evict(town, "abda"), STATE);
        check.due("evict at abcdef", evict(town, "abcdef"), 2);
        labelsAre("parted", town, "ab:ab", "abcdef:cdef", "abcdefgh:gh", "abd:d");
        check.due("evict at abcdefg", evict(town, "abcdefg"), 1);
        check.due("evict at abc", evict(town, "abc"), 3);
        check.due("evict at a", evict(town, "a"), 1);
        labelsAre("parted more", town, "a:a", "ab:b", "abc:c", "abcdef:def", "abcdefg:g", "abcdefgh:h", "abd:d");
        check.due("evicted in all", town.whole(8), 4);
        check.due("an evicted house is no home", town.house(1, 5), 0);
        RoadNames empty = new RoadNames();
        refused(empty, "evict in an empty town", () -> empty.evict(0, 0), STATE);
    }

    // ---- 8 compress

    private void compressing() {
        RoadNames town = townOf("abcdefgh1", "abcda", "hgfe");
        check.due("compress", town.compress(), 6);
        labelsAre("the first house moves in first", town, "abc:abc", "abcd:d", "abcda:a", "abcdefg:efg", "abcdefgh:h",
                "hgf:hgf", "hgfe:e");
        check.due("compress again", town.compress(), 0);
        check.due("it saves, too", town.undo(), 3);
        town.setLimit(4);
        check.due("compress with limit 4", town.compress(), 3);
        labelsAre("labels of four letters", town, "abcd:abcd", "abcda:a", "abcdefgh:efgh", "hgfe:hgfe");
        check.due("moved in, in all", town.whole(7), 9);
        check.due("compress of an empty town", new RoadNames().compress(), 0);
        RoadNames narrow = townOf("abc");
        narrow.setLimit(1);
        check.due("compress with limit 1", narrow.compress(), 0);
        RoadNames wide = townOf("abcdefgh");
        wide.setLimit(8);
        check.due("compress with limit 8", wide.compress(), 7);
        labelsAre("eight letters", wide, "abcdefgh:abcdefgh");
        RoadNames homes = townOf("abc", "ab");
        check.due("homes stay", homes.compress(), 1);
        labelsAre("a home in the middle", homes, "ab:ab", "abc:c");
    }

    // ---- 9 expand

    private void expanding() {
        RoadNames town = townOf("abcde2", "abf3");
        town.compress();
        labelsAre("compressed", town, "ab:ab", "abcde:cde", "abf:f");
        check.due("expand", town.expand(), 3);
        labelsAre("one letter each", town, "a:a", "ab:b", "abc:c", "abcd:d", "abcde:e", "abf:f");
        wholeIs("expanded", town, 2, 7, 3, 2 * 5 + 3 * 3, 6, 1, 5, 3, 3, 6, 0, 0);
        check.due("expand again", town.expand(), 0);
        check.due("it saves, too", town.undo(), 3);
        check.due("undo the first one", town.undo(), 2);
        check.due("its evictions are undone", town.whole(8), 0);
        check.due("expand of an empty town", new RoadNames().expand(), 0);
        RoadNames most = mostHouses();
        long before = most.whole(1);
        most.setLimit(8);
        most.compress();
        most.expand();
        check.due("the most houses, compressed and expanded", most.whole(1), before);
    }

    // ---- 10 rank

    private void ranks() {
        RoadNames town = townOf("b", "ba", "bab", "c");
        refusesNames(town, "rank", town::rank, true);
        check.due("rank a", town.rank(letters("a"), 1), 0);
        check.due("rank ahhhhhhh", town.rank(letters("ahhhhhhh"), 8), 0);
        check.due("rank b", town.rank(letters("b"), 1), 0);
        check.due("rank ba, behind its beginning", town.rank(letters("ba"), 2), 1);
        check.due("rank baa", town.rank(letters("baa"), 3), 2);
        check.due("rank bab", town.rank(letters("bab"), 3), 2);
        check.due("rank bb", town.rank(letters("bb"), 2), 3);
        check.due("rank h", town.rank(letters("h"), 1), 4);
        check.due("rank in an empty town", new RoadNames().rank(7, 1), 0);
    }

    // ---- 11 nth

    private void nthNames() {
        RoadNames town = townOf("bcd7", "b8", "hhhhhhhh99");
        town.compress();
        int[][] want = {{1, 1, 8, 1}, {letters("bcd"), 3, 7, 2}, {(1 << 24) - 1, 8, 99, 3}};
        for (int rank = 0; rank < 3; rank++) {
            for (int what = 0; what < 4; what++) {
                check.due("nth(" + rank + ", " + what + ")", town.nth(rank, what), want[rank][what]);
            }
        }
        refused(town, "nth(3, 0)", () -> town.nth(3, 0), INDEX);
        refused(town, "nth(-1, 0)", () -> town.nth(-1, 0), INDEX);
        refused(town, "nth(0, 4)", () -> town.nth(0, 4), ARGUMENT);
        refused(town, "nth(0, -1)", () -> town.nth(0, -1), ARGUMENT);
        refused(town, "nth(3, 4)", () -> town.nth(3, 4), INDEX);
        check.throwing("nth in an empty town", () -> new RoadNames().nth(0, 0), INDEX);
        check.due("the last of 24", fullTown().nth(23, 2), 23);
    }

    // ---- 12 weight

    private void weights() {
        RoadNames town = townOf("bcd7", "b0");
        refusesNames(town, "weight", town::weight, true);
        check.due("weight bcd", town.weight(letters("bcd"), 3), 7);
        check.due("weight b", town.weight(1, 1), 0);
        check.due("weight bc, a house but no home", town.weight(letters("bc"), 2), -1);
        check.due("weight h", town.weight(7, 1), -1);
        check.due("weight bcda", town.weight(letters("bcda"), 4), -1);
    }

    // ---- 13 count

    private void counts() {
        RoadNames town = townOf("bcde", "bcdf", "b", "a");
        town.compress();
        refusesNames(town, "count", town::count, false);
        check.due("count all", town.count(0, 0), 4);
        check.due("count b, the name too", town.count(1, 1), 3);
        check.due("count bc, within a label", town.count(letters("bc"), 2), 2);
        check.due("count bcd", town.count(letters("bcd"), 3), 2);
        check.due("count bcde", town.count(letters("bcde"), 4), 1);
        check.due("count bd", town.count(letters("bd"), 2), 0);
        check.due("count h", town.count(7, 1), 0);
        check.due("count aa", town.count(0, 2), 0);
        check.due("count in an empty town", new RoadNames().count(0, 0), 0);
        check.due("count a in an empty town", new RoadNames().count(0, 1), 0);
    }

    // ---- 14 house

    private void houses() {
        RoadNames town = townOf("abcd5", "abce2", "h1", "abcdh9");
        town.compress();
        int[][] want = {{0, 0, 0, 0, 2, 0, 4, 17, 0}, {letters("abc"), 3, letters("abc"), 3, 2, 0, 3, 16, 1},
            {letters("abcd"), 4, 3, 1, 1, 1, 2, 14, 2}, {letters("abcdh"), 5, 7, 1, 0, 1, 1, 9, 3},
            {letters("abce"), 4, 4, 1, 0, 1, 1, 2, 2}, {7, 1, 7, 1, 0, 1, 1, 1, 1}};
        for (int index = 0; index < want.length; index++) {
            for (int what = 0; what < 9; what++) {
                check.due("house(" + index + ", " + what + ")", town.house(index, what), want[index][what]);
            }
        }
        refused(town, "house(6, 0)", () -> town.house(6, 0), INDEX);
        refused(town, "house(-1, 0)", () -> town.house(-1, 0), INDEX);
        refused(town, "house(0, 9)", () -> town.house(0, 9), ARGUMENT);
        refused(town, "house(0, -1)", () -> town.house(0, -1), ARGUMENT);
        refused(town, "house(6, 9)", () -> town.house(6, 9), INDEX);
    }

    // ---- 15 houseOf

    private void placesOfHouses() {
        RoadNames town = townOf("abcd", "abce", "h", "a");
        town.compress();
        refusesNames(town, "houseOf", town::houseOf, false);
        String[] order = {"", "a", "abc", "abcd", "abce", "h"};
        for (int i = 0; i < order.length; i++) {
            check.due("houseOf " + order[i], houseOf(town, order[i]), i);
        }
        check.due("houseOf ab, within a label", houseOf(town, "ab"), -1);
        check.due("houseOf b", houseOf(town, "b"), -1);
        check.due("houseOf hh", houseOf(town, "hh"), -1);
        check.due("houseOf aa", houseOf(town, "aa"), -1);
    }

    // ---- 16 between

    private void roadsBetween() {
        RoadNames town = townOf("abc", "abd", "abde", "b");
        check.due("between abc and abd", town.between(0, 1), 2);
        check.due("between abd and abc", town.between(1, 0), 2);
        check.due("between abd and abde", town.between(1, 2), 1);
        check.due("between abde and abc", town.between(2, 0), 3);
        check.due("between abde and b, over the root", town.between(2, 3), 5);
        check.due("between the same", town.between(2, 2), 0);
        refused(town, "between(4, 0)", () -> town.between(4, 0), INDEX);
        refused(town, "between(0, 4)", () -> town.between(0, 4), INDEX);
        refused(town, "between(-1, 0)", () -> town.between(-1, 0), INDEX);
        refused(town, "between(0, -1)", () -> town.between(0, -1), INDEX);
        refused(town, "between(9, 9)", () -> town.between(9, 9), INDEX);
        RoadNames far = townOf("aaaaaaaa", "hhhhhhhh");
        check.due("the longest walk", far.between(0, 1), 16);
        far.setLimit(8);
        far.compress();
        check.due("the same names, compressed", far.between(0, 1), 2);
    }

    // ---- 17 tour

    private void tours() {
        check.due("tour of an empty town", new RoadNames().tour(), 0);
        check.due("tour to one home", townOf("abc").tour(), 6);
        RoadNames town = townOf("abc", "abd", "abde", "b");
        check.due("tour", town.tour(), 3 + 2 + 1 + 5 + 1);
        town.compress();
        check.due("tour, compressed", town.tour(), 2 + 2 + 1 + 4 + 1);
    }

    // ---- 18 whole

    private void wholes() {
        RoadNames town = townOf("abcdef3", "abc4", "hg5");
        town.compress();
        add(town, "abcdh", 6);
        add(town, "b", 7);
        remove(town, "b");
        town.type('+');
        town.type('a');
        labelsAre("houses", town, "abc:abc", "abcd:d", "abcdef:ef", "abcdh:h", "hg:hg");
        wholeIs("whole", town, 4, 6, 3, 4 + 3 * 3 + 3 * 6 + 5, 9, 3, 3, 5, 1, 10, 1, 2);
        refused(town, "whole(12)", () -> town.whole(12), ARGUMENT);
        refused(town, "whole(-1)", () -> town.whole(-1), ARGUMENT);
        town.undo();
        town.undo();
        town.undo();
        town.undo();
        wholeIs("undone, but the text", town, 3, 9, 3, 3 * 6 + 4 * 3 + 5 * 2, 8, 1, 6, 0, 0, 8, 0, 2);
    }

    // ---- 19 reason

    private void reasons() {
        RoadNames town = townOf("abcd", "abce", "h", "hgfedc");
        town.compress();
        labelsAre("houses", town, "abc:abc", "abcd:d", "abce:e", "h:h", "hgfe:gfe", "hgfedc:dc");
        refusesNames(town, "reason", town::reason, false);
        check.due("reason of the root", reason(town, ""), 1);
        check.due("reason of a home", reason(town, "abcd"), 2);
        check.due("reason of a home with a child", reason(town, "h"), 2);
        check.due("reason of a house with two children", reason(town, "abc"), 3);
        check.due("reason of a long label", reason(town, "hgfe"), 4);
        town.setLimit(5);
        check.due("it can", reason(town, "hgfe"), 0);
        town.setLimit(4);
        check.due("one letter too long", reason(town, "hgfe"), 4);
        check.due("no house: within a label", reason(town, "hg"), -1);
        check.due("no house: outside", reason(town, "c"), -1);
        RoadNames homes = townOf("a", "ab", "ac");
        check.due("a home with two children", reason(homes, "a"), 2);
        check.due("the root of an empty town", new RoadNames().reason(0, 0), 1);
    }

    // ---- 20 savedBy

    private void savings() {
        RoadNames town = townOf("abc5", "abd7", "hhh0", "ab1");
        check.due("savedBy of the root", town.savedBy(0), -1);
        check.due("savedBy a", town.savedBy(houseOf(town, "a")), 13);
        check.due("savedBy of a home", town.savedBy(houseOf(town, "ab")), -1);
        check.due("savedBy h, of no weight", town.savedBy(houseOf(town, "h")), 0);
        int cost = town.whole(3);
        moveIn(town, "a");
        check.due("so much less", cost - town.whole(3), 13);
        town.setLimit(1);
        check.due("savedBy h with limit 1", town.savedBy(houseOf(town, "h")), -1);
        refused(town, "savedBy behind the last", () -> town.savedBy(town.whole(1)), INDEX);
        refused(town, "savedBy(-1)", () -> town.savedBy(-1), INDEX);
    }

    // ---- 21 bestMove

    private void bestMoves() {
        check.due("bestMove of an empty town", new RoadNames().bestMove(), -1);
        RoadNames town = townOf("abc5", "bcd7", "cde7", "h99");
        check.due("the first of those that save the most", town.bestMove(), houseOf(town, "b"));
        town.setWeight(letters("cde"), 3, 8);
        check.due("the one that saves the most", town.bestMove(), houseOf(town, "c"));
        town.compress();
        check.due("none can move in", town.bestMove(), -1);
        RoadNames light = townOf("h", "ab0");
        check.due("one that saves nothing", light.bestMove(), 1);
    }

    // ---- 22 costWith

    private void costs() {
        RoadNames town = townOf("abcdefgh3", "abcd5");
        town.compress();
        long before = town.digest();
        int[] want = {3 * 8 + 5 * 4, 3 * 4 + 5 * 2, 3 * 4 + 5 * 2, 3 * 2 + 5, 3 * 2 + 5, 3 * 2 + 5, 11, 11};
        for (int limit = 1; limit <= 8; limit++) {
            check.due("costWith " + limit, town.costWith(limit), want[limit - 1]);
        }
        check.due("it changes nothing", town.digest(), before);
        refused(town, "costWith(0)", () -> town.costWith(0), ARGUMENT);
        refused(town, "costWith(9)", () -> town.costWith(9), ARGUMENT);
        check.due("costWith of an empty town", new RoadNames().costWith(1), 0);
        RoadNames odd = townOf("abcdef1");
        moveIn(odd, "ab");
        check.due("compress alone", odd.whole(3), 5);
        check.due("behind expand() and compress()", odd.costWith(3), 2);
        check.due("the limit stays", odd.whole(2), 3);
    }

    // ---- 23 housesFor

    private void newHouses() {
        RoadNames town = townOf("abcdef", "h");
        town.compress();
        refusesNames(town, "housesFor", town::housesFor, true);
        check.due("housesFor a name in the town", housesFor(town, "h"), -1);
        check.due("housesFor abc, which has a house", housesFor(town, "abc"), 0);
        check.due("housesFor ab, within a label", housesFor(town, "ab"), 1);
        check.due("housesFor abgh, evicted and built", housesFor(town, "abgh"), 3);
        check.due("housesFor abcg", housesFor(town, "abcg"), 1);
        check.due("housesFor b", housesFor(town, "b"), 1);
        check.due("housesFor bbbbbbbb", housesFor(town, "bbbbbbbb"), 8);
        check.due("housesFor hhh", housesFor(town, "hhh"), 2);
        RoadNames full = fullTown();
        check.due("housesFor in a full town", housesFor(full, "hhh"), 3);
        check.due("housesFor a name of a full town", housesFor(full, "aaaa"), -1);
        check.due("housesFor in an empty town", new RoadNames().housesFor(0, 8), 8);
    }

    // ---- 24 type

    private void typing() {
        RoadNames town = new RoadNames();
        refused(town, "type(-1)", () -> town.type(-1), ARGUMENT);
        refused(town, "type(128)", () -> town.type(128), ARGUMENT);
        check.due("type(0)", town.type(0), 1);
        check.due("type(127)", town.type(127), 2);
        for (int i = 3; i <= 120; i++) {
            check.due("type of byte " + i, town.type(';'), i);
        }
        refused(town, "type of byte 121", () -> town.type(';'), STATE);
        refused(town, "a wrong byte comes first", () -> town.type(128), ARGUMENT);
        check.throwing("type saves nothing", town::undo, STATE);
    }

    // ---- 25 clearCommands

    private void clearing() {
        RoadNames town = new RoadNames();
        check.due("clearCommands of nothing", town.clearCommands(), 0);
        town.type('*');
        town.type(';');
        check.due("clearCommands", town.clearCommands(), 2);
        check.due("clearCommands again", town.clearCommands(), 0);
        check.due("length", town.whole(11), 0);
        check.throwing("clearCommands saves nothing", town::undo, STATE);
        check.due("an empty text has no fault", town.runCommands(), 0);
    }

    // ---- 26 runCommands

    private void running() {
        RoadNames town = new RoadNames();
        check.due("run six commands", run(town, "+abcd5;+abce;+h99;<a;=2;*;"), 6);
        wholeIs("behind them", town, 3, 6, 2, 5 * 3 + 99, 6, 2, 3, 1, 0, 6, 0, 26);
        check.due("weight of one digit", town.weight(letters("abcd"), 4), 5);
        check.due("no weight", town.weight(letters("abce"), 4), 0);
        check.due("weight of two digits", town.weight(7, 1), 99);
        labelsAre("houses of the run", town, "ab:ab", "abc:c", "abcd:d", "abce:e", "h:h");
        check.due("remove and evict", run(town, "-h;>a;+b07;"), 3);
        check.due("weight 07", town.weight(1, 1), 7);
        labelsAre("houses", town, "a:a", "ab:b", "abc:c", "abcd:d", "abce:e", "b:b");
        check.due("the text stays", town.whole(11), 11);
        check.due("one state for each run", town.undo(), 1);
        check.due("the second run is undone", town.weight(7, 1), 99);
        check.due("the text is not", town.whole(11), 11);
        check.due("undo the first run", town.undo(), 0);
        wholeIs("all undone", town, 0, 1, 3, 0, 0, 0, 0, 0, 0, 0, 0, 11);
        check.due("run the longest names", run(town, "+hhhhhhhh99;-hhhhhhhh;"), 2);
        check.due("run an empty text", run(town, ""), 0);
        check.due("it saves a state", town.undo(), 1);
        for (int i = 0; i < 6; i++) {
            run(town, "+a;");
        }
        check.due("states of runs", town.undo(), 3);
    }

    private void runningMoves() {
        RoadNames town = townOf("abcd", "efgh");
        check.due("moveIn of a prefix", run(town, "<abc;<ef;"), 2);
        labelsAre("moved in", town, "a:a", "ab:b", "abcd:cd", "e:e", "efg:fg", "efgh:h");
        check.due("compress", run(town, "*;"), 1);
        labelsAre("compressed", town, "ab:ab", "abcd:cd", "efg:efg", "efgh:h");
        check.due("moved in, in all", town.whole(7), 4);
    }

    private void runningUntilAFailure() {
        RoadNames town = townOf("ab");
        check.due("a name twice", run(town, "+c1;+c2;+d;"), 1);
        check.due("the weight of the first", town.weight(2, 1), 1);
        check.due("none behind it", town.weight(3, 1), -1);
        check.due("remove what is not there", run(town, "-a;*;"), 0);
        check.due("moveIn of a home", run(town, "<ab;*;"), 0);
        check.due("moveIn of no house", run(town, "<h;*;"), 0);
        check.due("evict at a house", run(town, ">a;*;"), 0);
        check.due("limit 0", run(town, "=0;*;"), 0);
        check.due("limit 9", run(town, "=9;*;"), 0);
        check.due("limits 1 and 8", run(town, "=1;=8;=9;"), 2);
        check.due("the limit", town.whole(2), 8);
        check.due("a failing run saves a state", town.undo(), 3);
        RoadNames full = fullTown();
        check.due("a 25th name", run(full, "-aaaa;+h;+g;"), 2);
        check.due("24 names", full.whole(0), 24);
    }

    private void faults() {
        String[] texts = {"+", "+;", "+i;", "+A;", "+a", "+a1", "+a12", "+a123;", "+a1b;", "+abcdefgha;", "+abcdefgh",
            "-;", "-a1;", "-abcdefghh;", "<;", "<a0;", "<abcdefgha;", ">;", ">a9;", ">i;", ">abcdefghb;", "=;", "=a;",
            "=12;", "=1", "*", "**;", "*1;", "*a;", ";", "*;;", " *;", "*; ", "a;", "1;", "+a ;", "+1;", "*;+a;-b",
            "+a`;", "+a/;", "+a:;", "=/;", "=:;"};
        int[] want = {1, 1, 1, 1, 2, 3, 4, 4, 3, 9, 9,
            1, 2, 9, 1, 2, 9, 1, 2, 1, 9, 1, 1,
            2, 2, 1, 1, 1, 1, 0, 2, 0, 2, 0, 0, 2, 1, 7,
            2, 2, 2, 1, 1};
        RoadNames town = townOf("ab", "a");
        long before = town.digest();
        for (int i = 0; i < texts.length; i++) {
            check.due("fault of " + texts[i], run(town, texts[i]), -10 - want[i]);
        }
        check.due("fault of a byte 0", run(town, "+" + (char) 0 + ";"), -10 - 1);
        check.due("fault of a byte 127", run(town, "*" + (char) 127), -10 - 1);
        town.clearCommands();
        check.due("nothing is done or saved", town.digest(), before);
        check.due("a text of 120 bytes", run(town, "*;".repeat(60)), 60);
        check.due("a fault at its end", run(town, "*;".repeat(59) + "=1"), -10 - 120);
        check.due("nothing before a fault is done", run(town, "+c;+cd;+"), -10 - 8);
        check.due("names", town.whole(0), 2);
    }

    // ---- 27 undo

    private void undoing() {
        RoadNames town = new RoadNames();
        refused(town, "undo of nothing", town::undo, STATE);
        for (int i = 1; i <= 7; i++) {
            add(town, "abcdefgh".substring(0, i), i);
        }
        for (int left = 3; left >= 0; left--) {
            check.due("undo", town.undo(), left);
            check.due("names then", town.whole(0), left + 3);
            check.due("houses built then", town.whole(9), left + 3);
        }
        refused(town, "undo of a fifth one", town::undo, STATE);
        add(town, "h", 1);
        check.due("undo behind a new change", town.undo(), 0);
        check.due("names", town.whole(0), 3);
        refused(town, "undo of an undo", town::undo, STATE);
    }

    private void undoingEverything() {
        List<Change> changes = List.of(town -> add(town, "abhh", 9), town -> remove(town, "abcd"),
                town -> town.setWeight(7, 1, 9), town -> town.setLimit(8), town -> town.setLimit(3),
                town -> moveIn(town, "ef"), town -> evict(town, "a"), RoadNames::compress, RoadNames::expand,
                town -> run(town, "-h;>ab;<ef;+c;"), town -> run(town, ""), town -> run(town, "-c;"));
        for (int i = 0; i < changes.size(); i++) {
            RoadNames town = new RoadNames();
            check.due("run", run(town, "+abcd3;+abce4;+h5;*;+efgh6;<e;"), 6);
            town.clearCommands();
            long before = town.digest();
            changes.get(i).on(town);
            town.clearCommands();
            check.due("undo of change " + i, town.undo(), 1);
            check.due("as before change " + i, town.digest(), before);
        }
    }

    private void savingNothing() {
        RoadNames town = townOf("abc", "abd");
        town.rank(0, 1);
        town.nth(0, 0);
        town.weight(0, 1);
        town.count(0, 1);
        town.house(0, 0);
        town.houseOf(0, 1);
        town.between(0, 1);
        town.tour();
        town.whole(3);
        town.reason(0, 1);
        town.savedBy(0);
        town.bestMove();
        town.costWith(2);
        town.housesFor(0, 1);
        run(town, "+");
        town.clearCommands();
        town.digest();
        check.due("only changes save", town.undo(), 1);
        check.due("the last change is undone", town.whole(0), 1);
    }

    // ---- 28 digest

    private void digests() {
        RoadNames town = townOf("abc5", "abd7");
        town.setLimit(2);
        town.compress();
        town.type('*');
        long hash = mix(43504, 4);
        int[] whole = {2, 4, 2, 24, 4, 2, 2, 1, 0, 4, 0, 1};
        int[] names = {letters("abc"), 3, 5, 2, letters("abd"), 3, 7, 2};
        int[] houses = {0, 0, 0, 0, 1, 0, 2, 12, 0, -1, letters("ab"), 2, letters("ab"), 2, 2, 0, 2, 12, 1, -1,
            letters("abc"), 3, 2, 1, 0, 1, 1, 5, 2, -1, letters("abd"), 3, 3, 1, 0, 1, 1, 7, 2, -1};
        check.due("digest", town.digest(), mix(hash, whole, names, houses, new int[] {6, -1}));
        long before = town.digest();
        check.due("digest changes nothing", town.digest(), before);
        int[] empty = {0, 0, 1, 3, 0, 0, 0, 0, 0, 0, 0, 0, 0, 0, 0, 0, 0, 0, 0, 0, 0, 0, -1, 0, -1};
        check.due("digest of a new town", new RoadNames().digest(), mix(43504, empty));
    }
}
