import java.util.ArrayList;
import java.util.List;

/** A test for each sentence of the terms on texts of commands, undo and exceptions that names a boundary case. */
public final class CommandsEdgeTest extends TownCase {
    private static final String LETTERS = "abcdefgh";
    private static final String DIGITS = "0123456789";

    public static void main(String[] args) {
        CommandsEdgeTest test = new CommandsEdgeTest();
        test.texts();
        test.commands();
        test.faults();
        test.runs();
        test.undo();
        test.exceptions();
        test.longUse();
        test.check.end("CommandsEdgeTest");
    }

    private void texts() {
        fullText();
        emptyText();
    }

    private void commands() {
        addCommands();
        removeCommands();
        moveCommands();
        evictCommands();
        limitCommands();
        compressCommands();
        spaces();
    }

    private void faults() {
        everyByteAtEveryPlace();
        firstAndLastFault();
        ninthLettersAndThirdDigits();
        textsThatEndTooSoon();
        numbersOutOfRange();
    }

    private void runs() {
        faultyRuns();
        runsUntilAFailure();
        oneStateForARun();
    }

    private void undo() {
        savedWithoutChange();
        savedByNothingElse();
        textIsNotSaved();
        latestFourStates();
        ringOfStates();
    }

    private void exceptions() {
        refusedChanges();
        refusedQuestions();
        firstExceptionOfChanges();
        firstExceptionOfQuestions();
        exceptionsBeforeNone();
    }

    private void faultIs(String text, int fault) {
        RoadNames town = new RoadNames();
        check.due("the fault of \"" + text + "\"", run(town, text), -10 - fault);
        check.throwing("it saves nothing: \"" + text + "\"", town::undo, STATE);
    }

    private void noFault(String text, int done) {
        RoadNames town = new RoadNames();
        check.due("run \"" + text + "\"", run(town, text), done);
        check.due("it saves a state: \"" + text + "\"", town.undo(), 0);
    }

    // ---- texts

    private void fullText() {
        check.about("The command text has at most 120 bytes.");
        RoadNames town = new RoadNames();
        check.due("60 commands", type(town, "*;".repeat(60)), 120);
        check.due("length", town.whole(11), 120);
        refused(town, "a 121st byte", () -> town.type(';'), STATE);
        check.due("they run", town.runCommands(), 60);
        refused(town, "a 121st byte behind a run", () -> town.type(';'), STATE);
        town.undo();
        check.due("the length behind undo", town.whole(11), 120);
        check.due("emptied", town.clearCommands(), 120);
        check.due("room again", town.type('*'), 1);
    }

    private void emptyText() {
        check.about("It is a sequence of commands, each ended by a semicolon (perhaps none)");
        noFault("", 0);
        noFault("*;", 1);
        noFault("*;*;", 2);
        faultIs(";", 0);
        faultIs("*;;", 2);
        faultIs("*", 1);
        faultIs("*;*", 3);
        faultIs("**;", 1);
        faultIs("+a+b;", 2);
    }

    // ---- commands

    private void addCommands() {
        check.about("\"+\", 1 to 8 letters a to h, and perhaps a weight of one or two digits (0, if there is none): "
                + "add the name with this weight");
        String[] weights = {"", "0", "9", "00", "09", "10", "99"};
        for (String weight : weights) {
            RoadNames town = new RoadNames();
            check.due("run +h" + weight, run(town, "+h" + weight + ";"), 1);
            check.due("weight " + weight, town.weight(7, 1), weight.isEmpty() ? 0 : Integer.parseInt(weight));
        }
        for (int length = 1; length <= 8; length++) {
            RoadNames town = new RoadNames();
            String name = LETTERS.substring(8 - length);
            check.due("run +" + name, run(town, "+" + name + "99;"), 1);
            check.due("weight of " + name, weight(town, name), 99);
            check.due("houses for " + name, town.whole(9), length);
        }
        faultIs("+;", 1);
        faultIs("+5;", 1);
        faultIs("+aaaaaaaaa;", 9);
        faultIs("+a100;", 4);
        faultIs("+aaaaaaaa100;", 11);
        faultIs("+a-1;", 2);
        faultIs("+a1a;", 3);
    }

    private void removeCommands() {
        check.about("\"-\" and 1 to 8 letters: remove the name");
        nameCommands("-", town -> town.whole(0), 0);
    }

    private void moveCommands() {
        check.about("\"<\" and 1 to 8 letters: moveIn() of the house of this prefix");
        faultsOfNames("<");
        RoadNames town = townOf("abcdefgh");
        town.setLimit(8);
        check.due("run with 1 to 7 letters", run(town, "<a;<ab;<abc;<abcd;<abcde;<abcdef;<abcdefg;"), 7);
        check.due("the longest label", town.whole(5), 8);
        check.due("moved in", town.whole(7), 7);
        check.due("run with 8 letters, a home", run(town, "<abcdefgh;"), 0);
    }

    private void evictCommands() {
        check.about("\">\" and 1 to 8 letters: evict() at this prefix");
        faultsOfNames(">");
        RoadNames town = compressed(8, "abcdefgh");
        check.due("run with 1 to 7 letters", run(town, ">abcdefg;>abcdef;>abcde;>abcd;>abc;>ab;>a;"), 7);
        check.due("the longest label", town.whole(5), 1);
        check.due("evicted", town.whole(8), 7);
        check.due("run with 8 letters, a home", run(town, ">abcdefgh;"), 0);
    }

    /** Runs the command with the only name of a town, of 1 to 8 letters, and looks at a value. */
    private void nameCommands(String kind, Change value, int want) {
        faultsOfNames(kind);
        for (int length = 1; length <= 8; length++) {
            String name = LETTERS.substring(8 - length);
            RoadNames town = townOf(name);
            check.due("run " + kind + name, run(town, kind + name + ";"), 1);
            check.due("the value behind it", value.on(town), want);
        }
    }

    private void faultsOfNames(String kind) {
        faultIs(kind, 1);
        faultIs(kind + ";", 1);
        faultIs(kind + "a", 2);
        faultIs(kind + "a0;", 2);
        faultIs(kind + "0;", 1);
        faultIs(kind + "aaaaaaaa", 9);
        faultIs(kind + "aaaaaaaaa;", 9);
        faultIs(kind + "aaaaaaaa0;", 9);
        faultIs(kind + "i;", 1);
    }

    private void limitCommands() {
        check.about("\"=\" and a digit: setLimit(digit)");
        for (int limit = 1; limit <= 8; limit++) {
            RoadNames town = new RoadNames();
            check.due("run =" + limit, run(town, "=" + limit + ";"), 1);
            check.due("limit " + limit, town.whole(2), limit);
        }
        faultIs("=", 1);
        faultIs("=;", 1);
        faultIs("=3", 2);
        faultIs("=33;", 2);
        faultIs("=a;", 1);
        faultIs("=-1;", 1);
    }

    private void compressCommands() {
        check.about("\"*\": compress()");
        RoadNames town = townOf("abcdefgh");
        check.due("run *", run(town, "*;"), 1);
        check.due("moved in", town.whole(7), 5);
        check.due("run * twice, without any move", run(town, "*;*;"), 2);
        check.due("moved in still", town.whole(7), 5);
        noFault("*;", 1);
        faultIs("*a;", 1);
        faultIs("*1;", 1);
    }

    private void spaces() {
        check.about("There are no spaces.");
        String text = "+ab12;-a;<a;>a;=1;*;";
        for (int i = 0; i <= text.length(); i++) {
            faultIs(text.substring(0, i) + " " + text.substring(i), i);
        }
    }

    // ---- faults

    private void everyByteAtEveryPlace() {
        check.about("The fault of a command text is the index of the first byte that cannot stand at its place");
        byteBehind("", "+-<>=*");
        byteBehind("*;", "+-<>=*");
        byteBehind("*", ";");
        byteBehind("=", DIGITS);
        byteBehind("=8", ";");
        byteBehind("+", LETTERS);
        byteBehind("+h", LETTERS + DIGITS + ";");
        byteBehind("+bcdefgh", LETTERS + DIGITS + ";");
        byteBehind("+abcdefgh", DIGITS + ";");
        byteBehind("+h9", DIGITS + ";");
        byteBehind("+h99", ";");
        byteBehind("+abcdefgh00", ";");
        for (String kind : new String[] {"-", "<", ">"}) {
            byteBehind(kind, LETTERS);
            byteBehind(kind + "h", LETTERS + ";");
            byteBehind(kind + "bcdefgh", LETTERS + ";");
            byteBehind(kind + "abcdefgh", ";");
        }
    }

    /** Each of the 128 bytes behind a beginning: those that can stand there are no fault, all others are. */
    private void byteBehind(String beginning, String right) {
        for (int sign = 0; sign < 128; sign++) {
            RoadNames town = new RoadNames();
            type(town, beginning);
            town.type(sign);
            int fault = beginning.length() + (right.indexOf(sign) < 0 ? 0 : 1);
            boolean ended = sign == ';' && right.indexOf(sign) >= 0;
            String what = "byte " + sign + " behind \"" + beginning + "\"";
            check.due(what, Math.min(town.runCommands(), 0), ended ? 0 : -10 - fault);
        }
    }

    private void firstAndLastFault() {
        check.about("-10 minus the fault if it has one");
        faultIs("a", 0);
        faultIs("*".repeat(120), 1);
        faultIs("*;".repeat(59) + "+;", 119);
        faultIs("*;".repeat(59) + "*a", 119);
        faultIs("*;".repeat(59) + "=1", 120);
        faultIs("*;".repeat(59) + "+a", 120);
        faultIs("*;".repeat(59) + "*", 119);
        faultIs("a" + "*;".repeat(59), 0);
        faultIs("+a;;", 3);
        faultIs("+a ;+", 2);
    }

    private void ninthLettersAndThirdDigits() {
        check.about("(a ninth letter, a third digit, too)");
        for (String kind : new String[] {"+", "-", "<", ">"}) {
            faultIs(kind + "hhhhhhhhh", 9);
            faultIs("*;" + kind + "hhhhhhhhh;", 11);
        }
        faultIs("+a000", 4);
        faultIs("+hhhhhhhh123;", 11);
        faultIs("*;+a999;", 6);
        noFault("+hhhhhhhh99;", 1);
    }

    private void textsThatEndTooSoon() {
        check.about("or the length of the text if it ends too soon");
        String text = "+abcdefgh99;-abcdefgh;+ab5;<a;=2;*;>a;";
        for (int length = 0; length <= text.length(); length++) {
            String cut = text.substring(0, length);
            if (length == 0 || cut.endsWith(";")) {
                noFault(cut, (int) cut.chars().filter(sign -> sign == ';').count());
            } else {
                faultIs(cut, length);
            }
        }
    }

    private void numbersOutOfRange() {
        check.about("(That a number is out of its range is no fault.)");
        noFault("=0;", 0);
        noFault("=9;", 0);
        noFault("+a;=0;+b;", 1);
        noFault("+a;=9;+b;", 1);
        RoadNames town = new RoadNames();
        check.due("=9 behind others", run(town, "+a;=8;=9;=7;"), 2);
        check.due("the limit", town.whole(2), 8);
    }

    // ---- runs

    private void faultyRuns() {
        check.about("To run a command text means: if it has a fault, nothing is done");
        String[] texts = {"+c;-b;=5;*;+", "+c;-b;=5;*;;", "-b;+a123;", "*;+", "i*;", "+c"};
        for (String text : texts) {
            RoadNames town = busyTown();
            town.clearCommands();
            type(town, text);
            long before = town.digest();
            check.due("a fault in " + text, town.runCommands() <= -10 ? 1 : 0, 1);
            check.due("digest behind " + text, town.digest(), before);
        }
    }

    private void runsUntilAFailure() {
        check.about("otherwise the commands are carried out in their order, until one of them would throw "
                + "an exception, which is not thrown; those before it stay done, and they alone count.");
        String[] failing = {"+a;", "-b;", "-abc;", "<a;", "<b;", "<ab;", ">a;", ">ab;", ">b;", "=0;", "=9;"};
        for (String command : failing) {
            runBefore(command, "", 0);
            runBefore(command, "+h7;", 1);
            runBefore(command, "=8;+h7;*;", 3);
        }
        RoadNames full = fullTown();
        check.due("a 25th name", run(full, "*;+h1;*;"), 1);
        check.due("names", full.whole(0), 24);
    }

    /** A command that fails in a town of "a", behind some that do not, and before one that would show. */
    private void runBefore(String failing, String done, int count) {
        RoadNames town = townOf("a");
        check.due("run " + done + failing, run(town, done + failing + "+g9;"), count);
        check.due("done before " + failing, town.weight(7, 1), count > 0 ? 7 : -1);
        check.due("not done behind " + failing, town.weight(6, 1), -1);
        check.due("one state behind " + failing, town.undo(), 1);
        check.due("as before the run of " + failing, town.digest(), digestWithText(done + failing + "+g9;"));
    }

    private static long digestWithText(String text) {
        RoadNames town = townOf("a");
        type(town, text);
        return town.digest();
    }

    private void oneStateForARun() {
        check.about("A run saves one state, the one from before it; its commands save none.");
        RoadNames town = townOf("a1");
        long before = town.digest();
        check.due("run six commands", run(town, "+b;+c;-a;=5;*;+ddd;"), 6);
        town.clearCommands();
        check.due("one state more", town.undo(), 1);
        check.due("as before the run", town.digest(), before);
        for (int i = 1; i <= 4; i++) {
            run(town, "=" + i + ";=8;");
        }
        town.clearCommands();
        check.due("four runs, four states", town.undo(), 3);
        check.due("the limit before the last one", town.whole(2), 8);
        town.undo();
        town.undo();
        check.due("none left", town.undo(), 0);
        check.due("the limit before the first one", town.whole(2), 3);
        check.due("the name of before", town.weight(0, 1), 1);
    }

    // ---- undo

    private void savedWithoutChange() {
        check.about("Every method that is marked \"undoable\" saves the whole state but the command text "
                + "on an undo stack when it ends normally, also if it changes nothing.");
        saves("setWeight", town -> setWeight(town, "a", 5), 5);
        saves("setLimit", town -> town.setLimit(3), 3);
        saves("compress", RoadNames::compress, 0);
        saves("expand", RoadNames::expand, 0);
        saves("an empty run", RoadNames::runCommands, 0);
        saves("a run that fails at once", town -> run(town, "+a;"), 0);
        saves("a run without effect", town -> run(town, "=3;*;"), 2);
        saves("add", town -> add(town, "b", 0), 1);
        saves("remove", town -> remove(town, "a"), 1);
        RoadNames moved = townOf("ab");
        moveIn(moved, "a");
        check.due("states behind moveIn and undo", moved.undo(), 1);
        moveIn(moved, "a");
        evict(moved, "a");
        check.due("states behind evict and undo", moved.undo(), 2);
    }

    private void saves(String what, Change change, int want) {
        RoadNames town = townOf("a5");
        long before = town.digest();
        check.due(what, change.on(town), want);
        check.due("states behind " + what + " and undo", town.undo(), 1);
        town.clearCommands();
        check.due("as before " + what, town.digest(), before);
    }

    private void savedByNothingElse() {
        check.about("Every method that is marked \"undoable\" saves");
        RoadNames town = compressed(3, "abcd", "abce");
        town.undo();
        town.undo();
        town.undo();
        Change[] calls = {t -> t.rank(0, 1), t -> t.nth(0, 0), t -> t.weight(0, 1), t -> t.count(0, 0),
            t -> t.house(0, 0), t -> t.houseOf(0, 0), t -> t.between(0, 0), RoadNames::tour, t -> t.whole(0),
            t -> t.reason(0, 0), t -> t.savedBy(0), RoadNames::bestMove, t -> t.costWith(8),
            t -> t.housesFor(0, 1), t -> t.type('+'), RoadNames::runCommands, RoadNames::clearCommands,
            t -> (int) t.digest()};
        for (Change call : calls) {
            call.on(town);
        }
        check.due("states left", town.undo(), 0);
        check.throwing("no more", town::undo, STATE);
    }

    private void textIsNotSaved() {
        check.about("saves the whole state but the command text");
        RoadNames town = new RoadNames();
        type(town, "+a;");
        town.setLimit(8);
        town.clearCommands();
        type(town, "+bc;");
        check.due("undo", town.undo(), 0);
        check.due("length", town.whole(11), 4);
        check.due("the text is the later one", town.runCommands(), 1);
        check.due("its name", weight(town, "bc"), 0);
        town.clearCommands();
        town.undo();
        check.due("the text stays empty", town.whole(11), 0);
    }

    private void latestFourStates() {
        check.about("The stack keeps the latest 4 saved states and drops older ones.");
        for (int saved = 1; saved <= 9; saved++) {
            RoadNames town = new RoadNames();
            for (int i = 0; i < saved; i++) {
                town.add(i, 2, i);
            }
            int kept = Math.min(saved, 4);
            for (int left = kept - 1; left >= 0; left--) {
                check.due("states left of " + saved, town.undo(), left);
                check.due("names then", town.whole(0), saved - kept + left);
            }
            refused(town, "one more of " + saved, town::undo, STATE);
        }
    }

    private void ringOfStates() {
        check.about("Restores the latest saved state and removes it from the undo stack.");
        RoadNames town = new RoadNames();
        List<Integer> limits = new ArrayList<>();
        int limit = 3;
        for (int i = 0; i < 60; i++) {
            if (i % 7 < 4 || limits.isEmpty()) {
                limits.add(limit);
                if (limits.size() > 4) {
                    limits.remove(0);
                }
                limit = 1 + i % 8;
                town.setLimit(limit);
            } else {
                limit = limits.remove(limits.size() - 1);
                check.due("states left at step " + i, town.undo(), limits.size());
            }
            check.due("the limit at step " + i, town.whole(2), limit);
        }
    }

    // ---- exceptions

    private void refusedChanges() {
        check.about("A call that throws an exception changes nothing.");
        changesNothing("add of a wrong length", town -> town.add(0, 9, 1), ARGUMENT);
        changesNothing("add of wrong letters", town -> town.add(8, 1, 1), ARGUMENT);
        changesNothing("add of a wrong weight", town -> add(town, "c", 100), ARGUMENT);
        changesNothing("add of a name in the town", town -> add(town, "b", 1), STATE);
        changesNothing("remove of wrong letters", town -> town.remove(-1, 1), ARGUMENT);
        changesNothing("remove of a prefix", town -> remove(town, "a"), STATE);
        changesNothing("setWeight to a wrong one", town -> setWeight(town, "b", -1), ARGUMENT);
        changesNothing("setWeight of a prefix", town -> setWeight(town, "hg", 1), STATE);
        changesNothing("setLimit to a wrong one", town -> town.setLimit(9), ARGUMENT);
        changesNothing("moveIn of wrong letters", town -> town.moveIn(1, 0), ARGUMENT);
        changesNothing("moveIn of the root", town -> town.moveIn(0, 0), STATE);
        changesNothing("moveIn of a home", town -> moveIn(town, "b"), STATE);
        changesNothing("moveIn of no house", town -> moveIn(town, "ab"), STATE);
        changesNothing("evict of wrong letters", town -> town.evict(64, 2), ARGUMENT);
        changesNothing("evict at a house", town -> evict(town, "hg"), STATE);
        changesNothing("evict outside the town", town -> evict(town, "d"), STATE);
        changesNothing("type of a wrong byte", town -> town.type(128), ARGUMENT);
    }

    private void refusedQuestions() {
        check.about("A call that throws an exception changes nothing.");
        changesNothing("rank", town -> town.rank(0, 0), ARGUMENT);
        changesNothing("nth of a wrong rank", town -> town.nth(4, 0), INDEX);
        changesNothing("nth of a wrong value", town -> town.nth(0, 4), ARGUMENT);
        changesNothing("weight", town -> town.weight(0, 0), ARGUMENT);
        changesNothing("count", town -> town.count(0, -1), ARGUMENT);
        changesNothing("house of a wrong index", town -> town.house(-1, 0), INDEX);
        changesNothing("house of a wrong value", town -> town.house(0, 9), ARGUMENT);
        changesNothing("houseOf", town -> town.houseOf(0, 9), ARGUMENT);
        changesNothing("between", town -> town.between(0, 4), INDEX);
        changesNothing("whole", town -> town.whole(12), ARGUMENT);
        changesNothing("reason", town -> town.reason(1, 0), ARGUMENT);
        changesNothing("savedBy", town -> town.savedBy(-1), INDEX);
        changesNothing("costWith", town -> town.costWith(0), ARGUMENT);
        changesNothing("housesFor", town -> town.housesFor(0, 0), ARGUMENT);
        RoadNames full = new RoadNames();
        type(full, "*;".repeat(60));
        refused(full, "type into a full text", () -> full.type('*'), STATE);
        check.due("the full text runs", full.runCommands(), 60);
        refused(fullTown(), "undo of nothing", new RoadNames()::undo, STATE);
    }

    /** A town that has refused a call goes on like one that was never asked: in its values, states and commands. */
    private void changesNothing(String what, Change call, Class<? extends RuntimeException> due) {
        RoadNames asked = busyTown();
        RoadNames other = busyTown();
        check.throwing(what, () -> call.on(asked), due);
        check.due(what + ", digest behind it", asked.digest(), other.digest());
        for (int i = 0; i < 5; i++) {
            check.tell(what + ", then undo " + i, Check.answer(asked::undo), Check.answer(other::undo));
            check.due(what + ", digest behind undo " + i, asked.digest(), other.digest());
        }
        check.due(what + ", then a run", asked.runCommands(), other.runCommands());
        check.due(what + ", digest behind the run", asked.digest(), other.digest());
    }

    private void firstExceptionOfChanges() {
        check.about("If several exceptions of a method apply, the one that is listed first is thrown.");
        RoadNames full = fullTown();
        check.throwing("add, full and of a wrong weight", () -> add(full, "h", 100), ARGUMENT);
        check.throwing("add, full and of wrong letters", () -> full.add(8, 1, 0), ARGUMENT);
        check.throwing("add, full and of a wrong length", () -> full.add(0, 0, 0), ARGUMENT);
        check.throwing("add, in the town and of a wrong weight", () -> add(full, "aaaa", -1), ARGUMENT);
        check.throwing("add, full and in the town", () -> add(full, "aaaa", 0), STATE);
        check.throwing("remove, not in the town and of a wrong length", () -> full.remove(0, 9), ARGUMENT);
        check.throwing("remove, not in the town and of wrong letters", () -> full.remove(64, 2), ARGUMENT);
        check.throwing("setWeight, not in the town and of a wrong weight", () -> setWeight(full, "a", 100), ARGUMENT);
        check.throwing("setWeight, not in the town and of a wrong length", () -> full.setWeight(0, 0, 0), ARGUMENT);
        check.throwing("moveIn, of no house and of wrong letters", () -> full.moveIn(8, 1), ARGUMENT);
        check.throwing("moveIn, of no house and of a wrong length", () -> full.moveIn(0, -1), ARGUMENT);
        check.throwing("evict, in no label and of wrong letters", () -> full.evict(-1, 8), ARGUMENT);
        check.throwing("evict, in no label and of a wrong length", () -> full.evict(0, 9), ARGUMENT);
        RoadNames text = new RoadNames();
        type(text, "*;".repeat(60));
        check.throwing("type, a wrong byte into a full text", () -> text.type(128), ARGUMENT);
        check.throwing("type, a byte below 0 into a full text", () -> text.type(-1), ARGUMENT);
    }

    private void firstExceptionOfQuestions() {
        check.about("If several exceptions of a method apply, the one that is listed first is thrown.");
        RoadNames town = townOf("a", "b");
        check.throwing("nth, too large and a wrong value", () -> town.nth(2, 4), INDEX);
        check.throwing("nth, too small and a wrong value", () -> town.nth(-1, -1), INDEX);
        check.throwing("nth, in an empty town and a wrong value", () -> new RoadNames().nth(0, 4), INDEX);
        check.throwing("nth, a wrong value alone", () -> town.nth(1, 4), ARGUMENT);
        check.throwing("house, too large and a wrong value", () -> town.house(3, 9), INDEX);
        check.throwing("house, too small and a wrong value", () -> town.house(-1, -1), INDEX);
        check.throwing("house, a wrong value alone", () -> town.house(2, 9), ARGUMENT);
    }

    private void exceptionsBeforeNone() {
        check.about("NONE is returned only if no exception applies.");
        RoadNames town = townOf("ab");
        check.due("weight of none", weight(town, "h"), RoadNames.NONE);
        check.throwing("weight of a wrong length", () -> town.weight(0, 9), ARGUMENT);
        check.due("houseOf of none", houseOf(town, "h"), RoadNames.NONE);
        check.throwing("houseOf of wrong letters", () -> town.houseOf(8, 1), ARGUMENT);
        check.due("reason of none", reason(town, "h"), RoadNames.NONE);
        check.throwing("reason of a wrong length", () -> town.reason(0, -1), ARGUMENT);
        check.due("savedBy of a house that stays", town.savedBy(0), RoadNames.NONE);
        check.throwing("savedBy of no house", () -> town.savedBy(3), INDEX);
        check.due("bestMove of none", new RoadNames().bestMove(), RoadNames.NONE);
        check.due("housesFor a name in the town", housesFor(town, "ab"), RoadNames.NONE);
        check.throwing("housesFor a wrong length", () -> town.housesFor(0, 0), ARGUMENT);
    }

    // ---- long use

    private void longUse() {
        check.about("An object is used for at most 512 calls after it has been made");
        RoadNames town = mostHouses();
        town.setLimit(8);
        int houses = town.whole(1);
        int moves = 0;
        for (int i = 0; i < 241; i++) {
            moves += town.compress();
            town.expand();
        }
        check.due("moved in, in all", town.whole(7), moves);
        check.due("evicted, in all", town.whole(8), moves);
        check.due("houses", town.whole(1), houses);
        check.due("the 512th call", town.undo(), 3);
    }
}
