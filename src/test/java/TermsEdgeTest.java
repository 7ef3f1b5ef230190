/** A test for each sentence of the terms on names, houses, changes and postmen that names a boundary case. */
public final class TermsEdgeTest extends TownCase {
    private static final String MOST = "abcdefgh";

    public static void main(String[] args) {
        TermsEdgeTest test = new TermsEdgeTest();
        test.namesAndPrefixes();
        test.housesAndRoads();
        test.addedNames();
        test.removedNames();
        test.movesAndEvictions();
        test.postmen();
        test.check.end("TermsEdgeTest");
    }

    private void namesAndPrefixes() {
        shortestAndLongestNames();
        firstAndLastLetters();
        emptyPrefix();
        beginningsFirst();
        atMost24Names();
        eachNameOnce();
        leastAndMostWeight();
    }

    private void housesAndRoads() {
        houseOfAnyPrefix();
        shortestAndLongestLabels();
        labelsThatBeginAlike();
        housesWithoutChildren();
        prefixesInTown();
        prefixesWithinALabel();
        limits();
    }

    private void addedNames() {
        longestPrefix();
        evictedFirst();
        housesForTheRest();
        noRest();
    }

    private void removedNames() {
        tornDownUpToTheRoot();
        tornDownUpToAHome();
        tornDownUpToAChild();
    }

    private void movesAndEvictions() {
        conditionsOfMoves();
        rootFirst();
        homesBeforeChildren();
        childrenBeforeLabels();
        labelsLast();
        partedRoads();
    }

    private void postmen() {
        ways();
        leastAndMostCost();
        orderOfHouses();
    }

    // ---- names and prefixes

    private void shortestAndLongestNames() {
        check.about("A name has 1 to 8 letters");
        RoadNames town = new RoadNames();
        check.due("add of 1 letter", add(town, "d", 1), 0);
        check.due("add of 8 letters", add(town, MOST, 1), 0);
        refused(town, "add of 0 letters", () -> town.add(0, 0, 1), ARGUMENT);
        refused(town, "add of 9 letters", () -> town.add(0, 9, 1), ARGUMENT);
        check.due("the house of 1 letter", houseOf(town, "d"), 9);
        check.due("the house of 8 letters", houseOf(town, MOST), 8);
    }

    private void firstAndLastLetters() {
        check.about("its letters, 3 bits for each, a is 0 and h is 7, the last letter in the lowest bits");
        RoadNames town = new RoadNames();
        check.due("add a", town.add(0, 1, 1), 0);
        check.due("add h", town.add(7, 1, 2), 1);
        check.due("add aaaaaaah", town.add(7, 8, 3), 1);
        check.due("add haaaaaaa", town.add(7 << 21, 8, 4), 3);
        check.due("add hhhhhhhh", town.add((1 << 24) - 1, 8, 5), 4);
        check.due("8 a's come before", town.add(0, 8, 6), 1);
        check.due("the house of hh", town.houseOf(7 * 8 + 7, 2), 18);
        check.due("the label of hh", town.house(18, 2), 7);
    }

    private void emptyPrefix() {
        check.about("A prefix is told likewise, and may have the length 0 (its letters are 0 then).");
        RoadNames town = townOf("abc", "b");
        check.due("count", town.count(0, 0), 2);
        check.due("houseOf", town.houseOf(0, 0), 0);
        check.due("reason", town.reason(0, 0), 1);
        refused(town, "moveIn", () -> town.moveIn(0, 0), STATE);
        refused(town, "evict", () -> town.evict(0, 0), STATE);
        for (int letters : new int[] {1, 7, -1, Integer.MIN_VALUE, Integer.MAX_VALUE}) {
            refused(town, "count of letters " + letters, () -> town.count(letters, 0), ARGUMENT);
            refused(town, "houseOf of letters " + letters, () -> town.houseOf(letters, 0), ARGUMENT);
            refused(town, "reason of letters " + letters, () -> town.reason(letters, 0), ARGUMENT);
            refused(town, "moveIn of letters " + letters, () -> town.moveIn(letters, 0), ARGUMENT);
            refused(town, "evict of letters " + letters, () -> town.evict(letters, 0), ARGUMENT);
        }
    }

    private void beginningsFirst() {
        check.about("a name that is the beginning of another one comes first");
        String[] order = {"a", "aa", "aaa", "aaaaaaaa", "aab", "ab", "b", "ba", "hhhhhhh", "hhhhhhhh"};
        RoadNames town = new RoadNames();
        for (int i = order.length - 1; i >= 0; i--) {
            check.due("add " + order[i], add(town, order[i], 0), 0);
        }
        for (int i = 0; i < order.length; i++) {
            check.due("rank " + order[i], rank(town, order[i]), i);
            check.due("letters of rank " + i, town.nth(i, 0), letters(order[i]));
            check.due("length of rank " + i, town.nth(i, 1), order[i].length());
        }
    }

    private void atMost24Names() {
        check.about("There are at most 24 names in the town");
        RoadNames town = fullTown();
        check.due("names", town.whole(0), 24);
        check.due("the last one", town.nth(23, 0), 2 * 512 + 7);
        refused(town, "a 25th one", () -> add(town, "h", 0), STATE);
        remove(town, "aaaa");
        check.due("a 24th one again", add(town, "h", 0), 23);
        refused(town, "a 25th one again", () -> add(town, "aaaa", 0), STATE);
        check.due("a 25th one in a run", run(town, "+aaaa;"), 0);
        check.due("names then", town.whole(0), 24);
    }

    private void eachNameOnce() {
        check.about("each once");
        RoadNames town = townOf("ab5");
        refused(town, "the same again", () -> add(town, "ab", 5), STATE);
        refused(town, "with another weight", () -> add(town, "ab", 6), STATE);
        check.due("letters alike, but another length", town.add(letters("ab"), 3, 7), 0);
        check.due("names", town.whole(0), 2);
        remove(town, "ab");
        check.due("again when it has gone", add(town, "ab", 8), 1);
    }

    private void leastAndMostWeight() {
        check.about("each with a weight (0 to 99)");
        RoadNames town = townOf("a0", "b99");
        check.due("the least", weight(town, "a"), 0);
        check.due("the most", weight(town, "b"), 99);
        refused(town, "less", () -> add(town, "c", -1), ARGUMENT);
        refused(town, "more", () -> add(town, "c", 100), ARGUMENT);
        refused(town, "far less", () -> add(town, "c", Integer.MIN_VALUE), ARGUMENT);
        refused(town, "far more", () -> add(town, "c", Integer.MAX_VALUE), ARGUMENT);
    }

    // ---- houses and roads

    private void houseOfAnyPrefix() {
        check.about("The root stands for the empty prefix.");
        RoadNames town = new RoadNames();
        check.due("houses of an empty town", town.whole(1), 1);
        check.due("the root's place", town.houseOf(0, 0), 0);
        check.due("the length of its prefix", town.house(0, 1), 0);
        RoadNames full = mostHouses();
        check.due("the root's place in a full town", full.houseOf(0, 0), 0);
        check.due("the length of its prefix there", full.house(0, 1), 0);
        check.due("the names of the full town", full.house(0, 6), 24);
    }

    private void shortestAndLongestLabels() {
        check.about("a label of 1 letter or more; it stands for the prefix of its parent followed by its label");
        RoadNames town = compressed(8, MOST, "h");
        labelsAre("labels of 8 and of 1", town, "abcdefgh:abcdefgh", "h:h");
        add(town, "abcdefgg", 0);
        labelsAre("labels of 7 and of 1", town, "abcdefg:abcdefg", "abcdefgg:g", "abcdefgh:h", "h:h");
        add(town, "b", 0);
        add(town, "aabcdefg", 0);
        check.due("parted behind the first letter", town.house(houseOf(town, "abcdefg"), 3), 6);
        check.due("the house there", town.house(houseOf(town, "a"), 3), 1);
    }

    private void labelsThatBeginAlike() {
        check.about("No two roads from a house have labels that begin with the same letter.");
        RoadNames town = fullTown();
        check.due("the most children", town.house(houseOf(town, "aaa"), 4), 8);
        RoadNames wide = new RoadNames();
        for (int letter = 0; letter < 8; letter++) {
            wide.add(letter, 1, 0);
        }
        check.due("the most children of the root", wide.house(0, 4), 8);
        RoadNames parted = compressed(8, MOST);
        for (int length = 7; length > 0; length--) {
            add(parted, MOST.substring(0, length) + (length < 7 ? "aa" : "a"), 0);
            check.due("children of the root behind name " + length, parted.house(0, 4), 1);
            check.due("children where it is parted", parted.house(houseOf(parted, MOST.substring(0, length)), 4), 2);
        }
    }

    private void housesWithoutChildren() {
        check.about("A house that is neither the root nor a home has at least one child; "
                + "each name in the town has its home.");
        String[] names = {"abcd", "ab", "abce", MOST, "abcdhhhh", "b", "bbbbbbbb", "a"};
        RoadNames town = townOf(names);
        town.compress();
        add(town, "abcdeff", 1);
        soundHouses(town, "all", 9);
        for (int i = 0; i < names.length; i++) {
            remove(town, names[i]);
            soundHouses(town, "without " + names[i], names.length - i);
        }
        remove(town, "abcdeff");
        check.due("houses without names", town.whole(1), 1);
    }

    private void soundHouses(RoadNames town, String what, int names) {
        int homes = 0;
        int idle = 0;
        for (int i = 1; i < town.whole(1); i++) {
            homes += town.house(i, 5);
            idle += town.house(i, 5) == 0 && town.house(i, 4) == 0 ? 1 : 0;
        }
        check.due("names, " + what, town.whole(0), names);
        check.due("homes, " + what, homes, names);
        check.due("idle houses, " + what, idle, 0);
    }

    private void prefixesInTown() {
        check.about("A prefix is in the town if it is the beginning of some name in the town, or empty.");
        RoadNames empty = new RoadNames();
        check.due("the empty prefix of an empty town", empty.houseOf(0, 0), 0);
        check.due("nothing else is in it", housesFor(empty, MOST), 8);
        RoadNames town = compressed(8, MOST);
        for (int length = 1; length <= 8; length++) {
            check.due("names with a beginning of " + length, count(town, MOST.substring(0, length)), 1);
        }
        check.due("a name is its own beginning", housesFor(town, MOST.substring(0, 7) + "a"), 2);
        RoadNames one = townOf("ab");
        check.due("a longer one is not in the town", count(one, "aba"), 0);
        check.due("nor one of other letters", count(one, "b"), 0);
    }

    private void prefixesWithinALabel() {
        check.about("It has a house if a house stands for it; otherwise it lies within the label of one road.");
        for (int length = 1; length <= 7; length++) {
            RoadNames town = compressed(8, MOST);
            String prefix = MOST.substring(0, length);
            check.due("no house at " + prefix, houseOf(town, prefix), -1);
            check.due("within the label: " + prefix, evict(town, prefix), 8 - length);
            check.due("a house at " + prefix, houseOf(town, prefix), 1);
            refused(town, "no label any more at " + prefix, () -> evict(town, prefix), STATE);
        }
        RoadNames town = compressed(8, MOST);
        refused(town, "the empty prefix has a house", () -> evict(town, ""), STATE);
        refused(town, "the whole name has a house", () -> evict(town, MOST), STATE);
    }

    private void limits() {
        check.about("There is a setting, the limit (1 to 8; 3 at first): "
                + "no label that is made by a house that moves in may have more letters.");
        check.due("the limit at first", new RoadNames().whole(2), 3);
        for (int limit = 1; limit <= 8; limit++) {
            RoadNames town = compressed(limit, MOST);
            check.due("the longest label with limit " + limit, town.whole(5), limit);
            check.due("roads with limit " + limit, town.whole(1) - 1, (8 + limit - 1) / limit);
        }
        RoadNames first = townOf(MOST);
        first.compress();
        check.due("the longest label with the limit at first", first.whole(5), 3);
        refused(first, "limit 0", () -> first.setLimit(0), ARGUMENT);
        refused(first, "limit 9", () -> first.setLimit(9), ARGUMENT);
    }

    // ---- added names

    private void longestPrefix() {
        check.about("the house of its longest prefix that is in the town is looked for");
        RoadNames town = new RoadNames();
        add(town, MOST, 0);
        check.due("built from the root on: nothing is in an empty town", town.whole(9), 8);
        add(town, "bbbbbbbb", 0);
        check.due("built from the root on: nothing begins so", town.whole(9), 16);
        add(town, "abcdefga", 0);
        check.due("built from the last house but one on", town.whole(9), 17);
        add(town, "abcdefg", 0);
        check.due("all of it is there", town.whole(9), 17);
        check.due("nothing was evicted", town.whole(8), 0);
    }

    private void evictedFirst() {
        check.about("if that prefix lies within a label, a house is evicted there first");
        RoadNames first = compressed(8, MOST);
        add(first, "ah", 0);
        labelsAre("behind the first letter", first, "a:a", "abcdefgh:bcdefgh", "ah:h");
        RoadNames last = compressed(8, MOST);
        add(last, "abcdefga", 0);
        labelsAre("before the last letter", last, "abcdefg:abcdefg", "abcdefga:a", "abcdefgh:h");
        RoadNames none = compressed(8, MOST);
        add(none, "b", 0);
        labelsAre("nowhere, at the root", none, "abcdefgh:abcdefgh", "b:b");
        check.due("evicted at the first letter", first.whole(8), 1);
        check.due("evicted at the last letter", last.whole(8), 1);
        check.due("evicted nowhere", none.whole(8), 0);
        RoadNames behind = compressed(8, "abc");
        add(behind, "abcd", 0);
        labelsAre("nowhere, at a home", behind, "abc:abc", "abcd:d");
    }

    private void housesForTheRest() {
        check.about("If the rest of the name has letters, houses are built for them, one for each letter, "
                + "each on a road of one letter; the last one is the home.");
        for (int known = 0; known < 8; known++) {
            RoadNames town = known == 0 ? new RoadNames() : townOf(MOST.substring(0, known));
            town.setLimit(8);
            town.compress();
            int houses = town.whole(1);
            add(town, MOST, 1);
            check.due("built behind " + known, town.whole(1) - houses, 8 - known);
            check.due("the last label behind " + known, town.house(town.whole(1) - 1, 3), 1);
            check.due("the home behind " + known, town.house(town.whole(1) - 1, 5), 1);
            check.due("homes behind " + known, town.whole(0), known == 0 ? 1 : 2);
        }
    }

    private void noRest() {
        check.about("If there is no rest, the house becomes a home.");
        RoadNames standing = townOf("abc");
        add(standing, "ab", 4);
        check.due("a house that stands", standing.house(houseOf(standing, "ab"), 5), 1);
        check.due("houses", standing.whole(1), 4);
        check.due("built", standing.whole(9), 3);
        RoadNames within = compressed(8, "abc");
        add(within, "ab", 4);
        check.due("a house that is evicted", within.house(houseOf(within, "ab"), 5), 1);
        check.due("houses with it", within.whole(1), 3);
        check.due("evicted", within.whole(8), 1);
        check.due("built before", within.whole(9), 3);
    }

    // ---- removed names

    private void tornDownUpToTheRoot() {
        check.about("as long as the house is not the root");
        for (int limit = 1; limit <= 8; limit++) {
            RoadNames town = compressed(limit, MOST);
            int roads = town.whole(1) - 1;
            check.due("torn down with limit " + limit, remove(town, MOST), roads);
            check.due("the root stays with limit " + limit, town.whole(1), 1);
            check.due("its children with limit " + limit, town.house(0, 4), 0);
        }
        RoadNames one = townOf("a");
        check.due("one house", remove(one, "a"), 1);
    }

    private void tornDownUpToAHome() {
        check.about("not a home");
        RoadNames town = townOf(MOST, "abcdefg", "a");
        check.due("right below a home", remove(town, MOST), 1);
        check.due("six houses below a home", remove(town, "abcdefg"), 6);
        labelsAre("the last home stays", town, "a:a");
        RoadNames other = townOf(MOST, "abcdefg");
        check.due("a home with a child", remove(other, "abcdefg"), 0);
        check.due("then all houses", remove(other, MOST), 8);
    }

    private void tornDownUpToAChild() {
        check.about("and has no child, it is torn down, and its parent is looked at");
        RoadNames town = townOf("aaa", "aab", "b");
        check.due("a parent with another child", remove(town, "aab"), 1);
        labelsAre("the other child stays", town, "a:a", "aa:a", "aaa:a", "b:b");
        check.due("the root with another child", remove(town, "aaa"), 3);
        labelsAre("the root's other child stays", town, "b:b");
        RoadNames homes = townOf("a", "ab", "ac");
        check.due("a home with two children", remove(homes, "a"), 0);
        check.due("it is a house still", houseOf(homes, "a"), 1);
        check.due("it is torn down with the last child, 1", remove(homes, "ab"), 1);
        check.due("it is torn down with the last child, 2", remove(homes, "ac"), 2);
    }

    // ---- moves and evictions

    private void conditionsOfMoves() {
        check.about("It can do so if it is not the root, not a home, has just one child, "
                + "and the new label has at most as many letters as the limit.");
        for (int limit = 2; limit <= 8; limit++) {
            RoadNames town = compressed(limit - 1, MOST.substring(0, limit));
            check.due("houses with a label of " + (limit - 1), town.whole(1), 3);
            String house = MOST.substring(0, limit - 1);
            refused(town, "one letter more than " + (limit - 1), () -> moveIn(town, house), STATE);
            town.setLimit(limit);
            check.due("as many letters as the limit " + limit, moveIn(town, house), limit);
        }
        RoadNames town = townOf("a", "bc", "bd", "bda");
        refused(town, "the root", () -> moveIn(town, ""), STATE);
        refused(town, "a home without children", () -> moveIn(town, "a"), STATE);
        refused(town, "a home with one child", () -> moveIn(town, "bd"), STATE);
        refused(town, "two children", () -> moveIn(town, "b"), STATE);
    }

    private void rootFirst() {
        check.about("For a house that cannot, the reason is the first of these that applies: 1 it is the root");
        check.due("without children", reason(new RoadNames(), ""), 1);
        check.due("with one child and a short label", reason(townOf("ab"), ""), 1);
        check.due("with one child and a long label", reason(compressed(8, MOST), ""), 1);
        check.due("with two children", reason(townOf("a", "b"), ""), 1);
        check.due("with most houses", reason(mostHouses(), ""), 1);
    }

    private void homesBeforeChildren() {
        check.about("2 it is a home");
        RoadNames town = townOf("a", "b", "ba", "c", "ca", "cb", MOST.substring(1));
        check.due("without children", reason(town, "a"), 2);
        check.due("with two children", reason(town, "b"), 2);
        check.due("with two homes as children", reason(town, "c"), 2);
        RoadNames one = compressed(8, "abcd", MOST);
        one.setLimit(4);
        check.due("with one child and a label too long", reason(one, "abcd"), 2);
        add(one, "abcda", 0);
        check.due("with two children and a label too long", reason(one, "abcd"), 2);
    }

    private void childrenBeforeLabels() {
        check.about("3 it has more than one child");
        RoadNames town = townOf("ab", "ac");
        check.due("two children", reason(town, "a"), 3);
        town.setLimit(1);
        check.due("two children and a label too long", reason(town, "a"), 3);
        RoadNames full = fullTown();
        full.setLimit(1);
        check.due("eight children and a label too long", reason(full, "aaa"), 3);
        check.due("the one child of a house that stands over it", reason(full, "aa"), 4);
    }

    private void labelsLast() {
        check.about("4 the label would be too long");
        RoadNames town = compressed(3, "abcde");
        labelsAre("labels", town, "abc:abc", "abcde:de");
        check.due("two letters too long", reason(town, "abc"), 4);
        town.setLimit(4);
        check.due("one letter too long", reason(town, "abc"), 4);
        town.setLimit(5);
        check.due("just as long as may be", reason(town, "abc"), 0);
        town.setLimit(1);
        check.due("far too long", reason(town, "abc"), 4);
    }

    private void partedRoads() {
        check.about("the road is parted there, and the new house stands for this prefix, with one child");
        RoadNames first = compressed(8, MOST);
        check.due("behind the first letter", evict(first, "a"), 7);
        labelsAre("parted behind the first letter", first, "a:a", "abcdefgh:bcdefgh");
        check.due("its children", first.house(1, 4), 1);
        check.due("it is no home", first.house(1, 5), 0);
        RoadNames last = compressed(8, MOST);
        check.due("before the last letter", evict(last, "abcdefg"), 1);
        labelsAre("parted before the last letter", last, "abcdefg:abcdefg", "abcdefgh:h");
        RoadNames many = compressed(2, "aa", "aaaa", "aaab");
        check.due("a road to a house with children", evict(many, "a"), 1);
        check.due("the children of the new house", many.house(1, 4), 1);
        check.due("the children of the other one", many.house(2, 4), 1);
    }

    // ---- postmen

    private void ways() {
        check.about("The way of a name is the number of roads from the root to its home.");
        RoadNames town = townOf(MOST, "h");
        check.due("the longest", town.nth(0, 3), 8);
        check.due("the shortest", town.nth(1, 3), 1);
        town.setLimit(8);
        town.compress();
        check.due("one road of eight letters", town.nth(0, 3), 1);
    }

    private void leastAndMostCost() {
        check.about("The cost is the sum of weight * way over all names in the town.");
        check.due("no names", new RoadNames().whole(3), 0);
        check.due("no weights", townOf(MOST, "h").whole(3), 0);
        check.due("the least that is not 0", townOf("a1").whole(3), 1);
        check.due("the most", mostHouses().whole(3), 24 * 99 * 8);
    }

    private void orderOfHouses() {
        check.about("The order of houses is that of their prefixes, as of names (the root first).");
        check.due("the root of an empty town", new RoadNames().houseOf(0, 0), 0);
        RoadNames town = townOf("hh", "h", "ah", "aahh", "b");
        String[] order = {"", "a", "aa", "aah", "aahh", "ah", "b", "h", "hh"};
        for (int i = 0; i < order.length; i++) {
            check.due("house of " + order[i], houseOf(town, order[i]), i);
            check.due("letters of house " + i, town.house(i, 0), letters(order[i]));
            check.due("length of house " + i, town.house(i, 1), order[i].length());
        }
        RoadNames most = mostHouses();
        check.due("the last of the most houses", most.house(most.whole(1) - 1, 0), most.nth(23, 0));
    }
}
