import java.util.function.ToIntFunction;

/** Promises 24 to 32, the sentences that name a boundary case: changes, undo and snapshots. */
final class ChangeBoundaryTest {
    private static final int LEAST = Integer.MIN_VALUE;
    private static final int MOST = Integer.MAX_VALUE;
    /** Work v needs a rehearsal, u has no cast, t can be on day 1 alone. */
    private static final String TEXT = "days 4;hall a 0;hall b 1;player p 2 50 x;player q 1 30 y x;player r 0 10 y;"
            + "work w 0 0 3 7 x;work v 1 0 3 5 y;work u 0 0 3 1 y y y;work t 0 1 1 1 x y;double 20;absent r 3;";

    private ChangeBoundaryTest() {
    }

    static void run() {
        changes();
        exceptions();
        services();
        contracts();
        snapshots();
    }

    private static void changes() {
        Sentences.test(30, "The methods from rehearse to setContract are changes if they throw no exception",
                ChangeBoundaryTest::everyChange);
        Sentences.test(30, "also if they alter nothing.", ChangeBoundaryTest::changesThatAlterNothing);
        Sentences.test(30, "The latest 10 changes can be undone, the latest first.", ChangeBoundaryTest::latestTen);
        Sentences.test(30, "Undoes the latest change that has not been undone.",
                ChangeBoundaryTest::notUndoneTwice);
        Sentences.test(30, "Returns the number of changes that can still be undone; NONE if there was none to undo.",
                ChangeBoundaryTest::answersOfUndo);
        Sentences.test(30, "A successful parse clears the undo history", ChangeBoundaryTest::parseClearsHistory);
    }

    private static void exceptions() {
        Sentences.test(24, "A method that throws an exception changes nothing.",
                ChangeBoundaryTest::exceptionsChangeNothing);
        Sentences.test(24, "a hall, slot of the season, player, work, seat, service or snapshot slot that does not exist "
                + "causes an IndexOutOfBoundsException, which is checked before any other exception",
                ChangeBoundaryTest::indexesComeFirst);
        Sentences.test(25, "then a set of works that has a bit of no work, or not 1 to 3 works (for a rehearsal not just "
                + "one), causes an IllegalArgumentException.", ChangeBoundaryTest::setsComeSecond);
    }

    private static void services() {
        Sentences.test(24, "Returns the number of the service then.", ChangeBoundaryTest::numbersOfRehearsals);
        Sentences.test(24, "Throws `IndexOutOfBoundsException` if there is no such hall, slot or work (checked first)",
                ChangeBoundaryTest::rehearsalsWithoutPlace);
        Sentences.test(24, "Throws `IllegalStateException` if it cannot be", ChangeBoundaryTest::refusedRehearsals);
        Sentences.test(25, "Returns the number of the service then.", ChangeBoundaryTest::numbersOfConcerts);
        Sentences.test(25, "Throws `IndexOutOfBoundsException` if there is no such hall or slot (checked first)",
                ChangeBoundaryTest::concertsWithoutPlace);
        Sentences.test(25, "Throws `IllegalArgumentException` if the set of works is not right (checked second)",
                ChangeBoundaryTest::concertsWithWrongSets);
        Sentences.test(25, "Throws `IllegalStateException` if it cannot be", ChangeBoundaryTest::refusedConcerts);
        Sentences.test(26, "Returns the number of services then.", ChangeBoundaryTest::servicesLeft);
        Sentences.test(26, "Throws `IndexOutOfBoundsException` if there is no such service (checked first)",
                ChangeBoundaryTest::noServiceToCancel);
        Sentences.test(26, "Throws `IllegalStateException` if a concert would have a work with fewer rehearsals at "
                + "earlier slots than need then", ChangeBoundaryTest::neededRehearsals);
        Sentences.test(27, "Moves a service to another slot (or to its own) of its hall.",
                ChangeBoundaryTest::movesInItsHall);
        Sentences.test(27, "Returns the number of the service then.", ChangeBoundaryTest::numbersAfterMoves);
        Sentences.test(27, "Throws `IndexOutOfBoundsException` if there is no such service or slot (checked first)",
                ChangeBoundaryTest::nothingToMove);
        Sentences.test(27, "Throws `IllegalStateException` if whyNotMove is not 0", ChangeBoundaryTest::refusedMoves);
        Sentences.test(28, "Casts a service anew, as if it was not there and came now.",
                ChangeBoundaryTest::castsAnew);
        Sentences.test(28, "Returns the number of its doublings then.", ChangeBoundaryTest::doublingsOfRecast);
        Sentences.test(28, "Throws `IndexOutOfBoundsException` if there is no such service",
                ChangeBoundaryTest::nothingToRecast);
    }

    private static void contracts() {
        Sentences.test(29, "`contract`: 0 to 40", ChangeBoundaryTest::leastAndMostContracts);
        Sentences.test(29, "Returns the previous one.", ChangeBoundaryTest::previousContracts);
        Sentences.test(29, "Throws `IndexOutOfBoundsException` if there is no such player (checked first)",
                ChangeBoundaryTest::noSuchPlayer);
        Sentences.test(29, "Throws `IllegalArgumentException` if contract is out of range",
                ChangeBoundaryTest::contractsOutOfRange);
    }

    private static void snapshots() {
        Sentences.test(31, "There are two snapshot slots, 0 and 1", ChangeBoundaryTest::twoSlots);
        Sentences.test(31, "Saves a snapshot in a slot, in place of an earlier one.",
                ChangeBoundaryTest::inPlaceOfAnEarlierOne);
        Sentences.test(31, "Returns whether there was an earlier one.", ChangeBoundaryTest::wasThereAnEarlierOne);
        Sentences.test(31, "empties both slots.", ChangeBoundaryTest::parseEmptiesBothSlots);
        Sentences.test(31, "Throws `IndexOutOfBoundsException` if there is no such slot",
                ChangeBoundaryTest::noSuchSlotToSave);
        Sentences.test(32, "a snapshot holds everything that changes can change.",
                ChangeBoundaryTest::snapshotsHoldEverything);
        Sentences.test(32, "Restores the snapshot of a slot, which stays stored.", ChangeBoundaryTest::staysStored);
        Sentences.test(32, "The undo history is cleared.", ChangeBoundaryTest::restoreClearsHistory);
        Sentences.test(32, "Returns the number of services then.", ChangeBoundaryTest::servicesRestored);
        Sentences.test(32, "Throws `IndexOutOfBoundsException` if there is no such slot (checked first)",
                ChangeBoundaryTest::noSuchSlotToRestore);
        Sentences.test(32, "Throws `IllegalStateException` if the slot is empty", ChangeBoundaryTest::emptySlots);
    }

    /** A rehearsal of v at slot 3, its concert with w at slot 6, a rehearsal of w at slot 8. */
    private static OrchestraSeason planned() {
        OrchestraSeason x = Texts.season(TEXT);
        x.rehearse(0, 3, 1);
        x.concert(0, 6, 3);
        x.rehearse(1, 8, 0);
        return x;
    }

    /** Twenty rehearsals of the one work in hall 0 at the slots 0 to 19. */
    private static OrchestraSeason twenty() {
        OrchestraSeason x = Texts.season("days 10;hall a 0;hall b 0;player p 0 0 x;work w 0 0 9 0 x;");
        for (int slot = 0; slot < 20; slot++) {
            x.rehearse(0, slot, 0);
        }
        return x;
    }

    // ---- what is a change

    private static void isUndone(String change, ToIntFunction<OrchestraSeason> call) {
        OrchestraSeason x = planned();
        String before = State.of(x);
        call.applyAsInt(x);
        Checks.due(change + ", size(7)", 4, x.size(7));
        Checks.due(change + ", undo()", 3, x.undo());
        Checks.dueText(change + ", the state after undo()", before, State.of(x));
    }

    private static void everyChange() {
        isUndone("rehearse", x -> x.rehearse(0, 0, 1));
        isUndone("concert", x -> x.concert(1, 5, 2));
        isUndone("cancel of a rehearsal", x -> x.cancel(2));
        isUndone("cancel of a concert", x -> x.cancel(1));
        isUndone("move of a rehearsal", x -> x.move(2, 0));
        isUndone("move of a concert", x -> x.move(1, 11));
        isUndone("recast", x -> x.recast(0));
        isUndone("setContract", x -> x.setContract(2, 40));
    }

    private static void changesThatAlterNothing() {
        isUndone("recast with the same cast", x -> x.recast(1));
        isUndone("move to its own slot", x -> x.move(1, 6));
        isUndone("setContract to what it is", x -> x.setContract(0, 2));
        OrchestraSeason x = planned();
        x.setContract(0, 3);
        for (int i = 0; i < 10; i++) {
            x.recast(0);
        }
        for (int left = 9; left >= 0; left--) {
            Checks.due("undo()", left, x.undo());
        }
        Checks.due("they push the others out, undo()", -1, x.undo());
        Checks.due("player(0, 0)", 3, x.player(0, 0));
    }

    private static void latestTen() {
        for (int changes = 9; changes <= 23; changes++) {
            OrchestraSeason x = Texts.season(TEXT);
            for (int i = 1; i <= changes; i++) {
                x.setContract(0, 2 + i);
                Checks.due("size(7) after change " + i, Math.min(10, i), x.size(7));
            }
            int kept = Math.min(10, changes);
            for (int i = 1; i <= kept; i++) {
                Checks.due(changes + " changes, undo()", kept - i, x.undo());
                Checks.due("the latest first, player(0, 0)", 2 + changes - i, x.player(0, 0));
            }
            Checks.due(changes + " changes, one undo() more", -1, x.undo());
            Checks.due("player(0, 0)", 2 + changes - kept, x.player(0, 0));
        }
    }

    private static void notUndoneTwice() {
        OrchestraSeason x = Texts.season(TEXT);
        x.setContract(0, 10);
        x.setContract(0, 11);
        x.undo();
        x.setContract(0, 12);
        x.undo();
        Checks.due("the second change is gone, player(0, 0)", 10, x.player(0, 0));
        x.undo();
        Checks.due("player(0, 0)", 2, x.player(0, 0));
        for (int i = 0; i < 10; i++) {
            x.setContract(0, 20 + i);
        }
        x.undo();
        x.undo();
        x.setContract(0, 35);
        x.setContract(0, 36);
        x.setContract(0, 37);
        int[] due = {36, 35, 27, 26, 25, 24, 23, 22, 21, 20};
        for (int contract : due) {
            x.undo();
            Checks.due("player(0, 0)", contract, x.player(0, 0));
        }
        Checks.due("undo()", -1, x.undo());
        changesBehind("rehearse and undo", y -> y.rehearse(0, 0, 0) + y.undo());
        changesBehind("cancel and undo", y -> y.cancel(1) + y.undo());
        changesBehind("setContract and undo", y -> y.setContract(0, 0) + y.undo());
    }

    private static void answersOfUndo() {
        OrchestraSeason x = Texts.season(TEXT);
        Checks.due("after parse, undo()", -1, x.undo());
        x.rehearse(0, 0, 0);
        Checks.due("the only change, undo()", 0, x.undo());
        Checks.due("none is left, undo()", -1, x.undo());
        Checks.due("undo() is no change, size(7)", 0, x.size(7));
        Checks.badState("rehearse(0, 0, 2)", () -> x.rehearse(0, 0, 2));
        Checks.due("a refused change, undo()", -1, x.undo());
        x.whyNot(0, 0, 1, true);
        x.costsWith(0, 0, 1, true);
        x.saveSnapshot(0);
        Checks.due("questions and a snapshot, undo()", -1, x.undo());
        Checks.due("size(5)", 0, x.size(5));
        changesBehind("whyNotMove", y -> y.whyNotMove(2, 11));
        changesBehind("costsWith", y -> y.costsWith(0, 0, 1, false));
        changesBehind("earliest", y -> y.earliest(0, 0, 1, true));
        changesBehind("saveSnapshot", y -> y.saveSnapshot(1) ? 1 : 0);
    }

    private static void parseClearsHistory() {
        OrchestraSeason x = planned();
        Texts.parse(x, "days 0;");
        Checks.due("an error does not, size(7)", 3, x.size(7));
        Texts.parse(x, TEXT);
        Checks.due("a success does, size(7)", 0, x.size(7));
        Checks.due("undo()", -1, x.undo());
        Checks.due("size(5)", 0, x.size(5));
    }

    // ---- exceptions

    private static void refused(String kind, ToIntFunction<OrchestraSeason> call) {
        OrchestraSeason x = planned();
        Checks.dueText("the exception", kind, Checks.outcome(() -> call.applyAsInt(x)));
        Checks.dueText("the state behind it, and what can be undone", State.withUndo(planned()), State.withUndo(x));
        Checks.dueFalse("no slot was filled, saveSnapshot(0)", x.saveSnapshot(0));
        Checks.dueFalse("no slot was filled, saveSnapshot(1)", x.saveSnapshot(1));
    }

    private static void exceptionsChangeNothing() {
        refused("IllegalStateException", x -> x.rehearse(0, 3, 0));
        refused("IllegalStateException", x -> x.concert(0, 3, 1));
        refused("IllegalStateException", x -> x.cancel(0));
        refused("IllegalStateException", x -> x.move(0, 7));
        refused("IllegalStateException", x -> x.restoreSnapshot(0));
        refused("IllegalArgumentException", x -> x.concert(0, 0, 0));
        refused("IllegalArgumentException", x -> x.setContract(0, 41));
        refused("IllegalArgumentException", x -> x.parse(1));
        refused("IllegalArgumentException", x -> x.find(4));
        refused("IndexOutOfBoundsException", x -> x.rehearse(0, 12, 0));
        refused("IndexOutOfBoundsException", x -> x.concert(2, 0, 1));
        refused("IndexOutOfBoundsException", x -> x.cancel(3));
        refused("IndexOutOfBoundsException", x -> x.move(0, 12));
        refused("IndexOutOfBoundsException", x -> x.recast(3));
        refused("IndexOutOfBoundsException", x -> x.setContract(3, 1));
        refused("IndexOutOfBoundsException", x -> x.saveSnapshot(2) ? 1 : 0);
        refused("IndexOutOfBoundsException", x -> x.restoreSnapshot(2));
        changesBehind("a refused cancel", y -> refusal(() -> y.cancel(0)));
        changesBehind("a refused move", y -> refusal(() -> y.move(0, 7)));
        changesBehind("a refused rehearsal", y -> refusal(() -> y.rehearse(0, 3, 0)));
        changesBehind("a refused concert", y -> refusal(() -> y.concert(0, 3, 1)));
        changesBehind("a refused contract", y -> refusal(() -> y.setContract(0, 41)));
    }

    private static int refusal(Checks.Call call) {
        return Checks.outcome(call).length();
    }

    /** Every change behind calls that leave the state as it was is as if they had not been. */
    private static void changesBehind(String what, ToIntFunction<OrchestraSeason> calls) {
        isAsWithout(what + ", then rehearse", calls, x -> x.rehearse(0, 0, 1));
        isAsWithout(what + ", then concert", calls, x -> x.concert(1, 5, 2));
        isAsWithout(what + ", then cancel", calls, x -> x.cancel(2));
        isAsWithout(what + ", then move", calls, x -> x.move(2, 0));
        isAsWithout(what + ", then recast", calls, x -> x.recast(1));
        isAsWithout(what + ", then setContract", calls, x -> x.setContract(2, 40));
    }

    private static void isAsWithout(String what, ToIntFunction<OrchestraSeason> calls,
            ToIntFunction<OrchestraSeason> change) {
        OrchestraSeason x = planned();
        OrchestraSeason y = planned();
        calls.applyAsInt(x);
        Checks.due(what, change.applyAsInt(y), change.applyAsInt(x));
        Checks.dueText(what + ", the state", State.withUndo(y), State.withUndo(x));
    }

    private static void indexesComeFirst() {
        OrchestraSeason x = planned();
        Checks.outOfBounds("rehearse in no hall, at a taken slot", () -> x.rehearse(2, 3, 0));
        Checks.outOfBounds("rehearse of no work, at a taken slot", () -> x.rehearse(0, 3, 4));
        Checks.outOfBounds("concert in no hall, of no works", () -> x.concert(2, 3, 0));
        Checks.outOfBounds("concert at no slot, of no works", () -> x.concert(0, 12, 0));
        Checks.outOfBounds("whyNot in no hall, of no works", () -> x.whyNot(2, 0, 0, true));
        Checks.outOfBounds("earliest at no slot, of no works", () -> x.earliest(0, 12, 0, true));
        Checks.outOfBounds("costsWith at no slot, of no works", () -> x.costsWith(0, 12, 0, true));
        Checks.outOfBounds("player, no such property", () -> x.player(3, 8));
        Checks.outOfBounds("work, no such property", () -> x.work(4, 8));
        Checks.outOfBounds("service, no such property", () -> x.service(3, 6));
        Checks.outOfBounds("setContract, out of range", () -> x.setContract(3, 41));
        Checks.outOfBounds("move of no service", () -> x.move(3, 3));
        Checks.outOfBounds("move of a needed rehearsal to no slot", () -> x.move(0, 12));
        Checks.outOfBounds("restoreSnapshot", () -> x.restoreSnapshot(2));
        Checks.outOfBounds("seat", () -> x.seat(0, 1));
        OrchestraSeason y = twenty();
        Checks.outOfBounds("with twenty services, rehearse of no work", () -> y.rehearse(0, 20, 1));
        Checks.outOfBounds("with twenty services, concert at no slot", () -> y.concert(0, 30, 1));
    }

    private static void setsComeSecond() {
        OrchestraSeason x = planned();
        for (int set : new int[] {0, 15, 16, 17, 31, -1, LEAST, LEAST | 1, MOST}) {
            Checks.badArgument("concert(0, 3, " + set + ") at a taken slot", () -> x.concert(0, 3, set));
            Checks.badArgument("costsWith(0, 3, " + set + ", true)", () -> x.costsWith(0, 3, set, true));
            Checks.badArgument("costsWith(0, 3, " + set + ", false)", () -> x.costsWith(0, 3, set, false));
            Checks.badArgument("whyNot(0, 3, " + set + ", true)", () -> x.whyNot(0, 3, set, true));
            Checks.badArgument("whyNot(0, 3, " + set + ", false)", () -> x.whyNot(0, 3, set, false));
            Checks.badArgument("earliest(0, 3, " + set + ", true)", () -> x.earliest(0, 3, set, true));
            Checks.badArgument("earliest(0, 3, " + set + ", false)", () -> x.earliest(0, 3, set, false));
        }
        for (int set : new int[] {3, 7, 9}) {
            Checks.badArgument("two or three works are no rehearsal", () -> x.whyNot(0, 3, set, false));
            Checks.badState("but a concert that cannot be", () -> x.concert(0, 3, set));
        }
        Checks.due("one work is a concert", 0, x.concert(0, 0, 1));
        Checks.due("two works are a concert", 2, x.concert(0, 4, 9));
        Checks.due("three works are a concert", 3, x.concert(0, 5, 11));
        OrchestraSeason y = twenty();
        Checks.badArgument("with twenty services", () -> y.concert(0, 20, 2));
    }

    // ---- promises 24 and 25

    private static void numbersOfRehearsals() {
        OrchestraSeason x = planned();
        Checks.due("before all", 0, x.rehearse(1, 0, 0));
        Checks.due("behind all", 4, x.rehearse(1, 11, 0));
        Checks.due("at one slot in an earlier hall", 3, x.rehearse(0, 8, 1));
        Checks.due("at one slot in a later hall", 3, x.rehearse(1, 6, 1));
        Checks.due("size(5)", 7, x.size(5));
        OrchestraSeason y = twenty();
        y.cancel(19);
        Checks.due("the twentieth service, the last", 19, y.rehearse(1, 29, 0));
        y.cancel(0);
        Checks.due("the twentieth service, the first", 0, y.rehearse(1, 0, 0));
        y.cancel(10);
        Checks.due("the twentieth service, in the middle", 10, y.rehearse(1, 10, 0));
        Checks.due("serviceAt(1, 29)", 19, y.serviceAt(1, 29));
    }

    private static void rehearsalsWithoutPlace() {
        OrchestraSeason x = planned();
        for (int wrong : new int[] {-1, 12, LEAST, MOST}) {
            Checks.outOfBounds("rehearse(" + wrong + ", 0, 0)", () -> x.rehearse(wrong, 0, 0));
            Checks.outOfBounds("rehearse(0, " + wrong + ", 0)", () -> x.rehearse(0, wrong, 0));
            Checks.outOfBounds("rehearse(0, 0, " + wrong + ")", () -> x.rehearse(0, 0, wrong));
        }
        Checks.outOfBounds("rehearse(2, 0, 0)", () -> x.rehearse(2, 0, 0));
        for (int work : new int[] {4, 5, 31, 32, 33, 64}) {
            Checks.outOfBounds("rehearse(0, 0, " + work + ")", () -> x.rehearse(0, 0, work));
        }
        Checks.due("size(5)", 3, x.size(5));
    }

    private static void refusedRehearsals() {
        OrchestraSeason x = planned();
        Checks.badState("2, the slot before its day", () -> x.rehearse(0, 2, 3));
        Checks.due("the first slot of its day", 0, x.whyNot(1, 3, 1, false));
        Checks.badState("3, a taken slot", () -> x.rehearse(0, 6, 0));
        Checks.badState("3, near to a service", () -> x.rehearse(1, 7, 0));
        Checks.badState("5, no cast", () -> x.rehearse(0, 0, 2));
        Checks.due("size(5)", 3, x.size(5));
        OrchestraSeason y = twenty();
        Checks.badState("1, twenty services", () -> y.rehearse(1, 25, 0));
        Checks.due("size(5)", 20, y.size(5));
    }

    private static void numbersOfConcerts() {
        OrchestraSeason x = planned();
        Checks.due("before all", 0, x.concert(1, 0, 1));
        Checks.due("behind all", 4, x.concert(1, 11, 1));
        Checks.due("at one slot in an earlier hall", 3, x.concert(0, 8, 2));
        Checks.due("at one slot in a later hall", 3, x.concert(1, 6, 2));
        Checks.due("service(3, 1)", 1, x.service(3, 1));
        Checks.due("service(3, 2)", 1, x.service(3, 2));
        OrchestraSeason y = twenty();
        y.cancel(19);
        Checks.due("the twentieth service", 19, y.concert(1, 29, 1));
    }

    private static void concertsWithoutPlace() {
        OrchestraSeason x = planned();
        for (int hall : new int[] {-1, 2, LEAST, MOST}) {
            Checks.outOfBounds("concert(" + hall + ", 3, 1)", () -> x.concert(hall, 3, 1));
            Checks.outOfBounds("concert(" + hall + ", 3, 0)", () -> x.concert(hall, 3, 0));
        }
        for (int slot : new int[] {-1, 12, LEAST, MOST}) {
            Checks.outOfBounds("concert(0, " + slot + ", 1)", () -> x.concert(0, slot, 1));
            Checks.outOfBounds("concert(0, " + slot + ", 16)", () -> x.concert(0, slot, 16));
        }
    }

    private static void concertsWithWrongSets() {
        OrchestraSeason x = planned();
        for (int set : new int[] {0, 15, 16, 17, -1, LEAST, LEAST | 1, MOST}) {
            Checks.badArgument("concert(0, 0, " + set + ")", () -> x.concert(0, 0, set));
            Checks.badArgument("concert(0, 3, " + set + ")", () -> x.concert(0, 3, set));
        }
        Checks.due("size(5)", 3, x.size(5));
    }

    private static void refusedConcerts() {
        OrchestraSeason x = planned();
        Checks.badState("2, the slot behind its day", () -> x.concert(1, 6, 8));
        Checks.badState("3, a taken slot", () -> x.concert(0, 6, 1));
        Checks.badState("4, at the slot of its rehearsal", () -> x.concert(1, 3, 2));
        Checks.badState("5, no cast", () -> x.concert(0, 0, 5));
        Checks.due("size(5)", 3, x.size(5));
        Checks.due("the slot behind its rehearsal", 1, x.concert(1, 4, 2));
        OrchestraSeason y = twenty();
        Checks.badState("1, twenty services", () -> y.concert(1, 25, 1));
    }

    // ---- promise 26

    private static void servicesLeft() {
        OrchestraSeason x = planned();
        Checks.due("the last one", 2, x.cancel(2));
        Checks.due("the concert", 1, x.cancel(1));
        Checks.due("the only one", 0, x.cancel(0));
        Checks.due("size(5)", 0, x.size(5));
        OrchestraSeason y = twenty();
        Checks.due("the last of twenty", 19, y.cancel(19));
        Checks.due("the first", 18, y.cancel(0));
        Checks.due("the number of the second then, service(0, 0)", 1, y.service(0, 0));
        Checks.due("service(17, 0)", 18, y.service(17, 0));
    }

    private static void noServiceToCancel() {
        OrchestraSeason x = planned();
        for (int service : new int[] {-1, 3, 20, LEAST, MOST}) {
            Checks.outOfBounds("cancel(" + service + ")", () -> x.cancel(service));
        }
        OrchestraSeason y = Texts.season(TEXT);
        Checks.outOfBounds("without services, cancel(0)", () -> y.cancel(0));
    }

    private static void neededRehearsals() {
        OrchestraSeason x = planned();
        Checks.badState("the only rehearsal, cancel(0)", () -> x.cancel(0));
        x.rehearse(1, 6, 1);
        Checks.badState("the other one is at the slot of the concert", () -> x.cancel(0));
        x.move(2, 5);
        Checks.due("the other one is at the slot before", 3, x.cancel(0));
        Checks.badState("and is needed now", () -> x.cancel(0));
        Checks.due("the concert can be cancelled", 2, x.cancel(1));
        Checks.due("then the rehearsal, too", 1, x.cancel(0));
        OrchestraSeason y = planned();
        y.rehearse(0, 8, 1);
        Checks.due("a rehearsal behind the concert", 3, y.cancel(2));
        Checks.due("a rehearsal of a work without need", 2, y.cancel(2));
        OrchestraSeason z = Texts.season("days 3;hall a 0;player p 0 0 x;work w 2 0 2 0 x;work v 1 0 2 0 x;");
        z.rehearse(0, 0, 0);
        z.rehearse(0, 1, 0);
        z.rehearse(0, 2, 1);
        z.concert(0, 4, 3);
        for (int service = 0; service < 3; service++) {
            int needed = service;
            Checks.badState("both works need theirs, cancel(" + needed + ")", () -> z.cancel(needed));
        }
        z.rehearse(0, 3, 0);
        Checks.due("three of two needed", 4, z.cancel(0));
        Checks.badState("two of two needed", () -> z.cancel(0));
    }

    // ---- promise 27

    private static void movesInItsHall() {
        OrchestraSeason x = planned();
        x.move(2, 0);
        Checks.due("its hall stays, serviceAt(1, 0)", 0, x.serviceAt(1, 0));
        Checks.due("its old slot, serviceAt(1, 8)", -1, x.serviceAt(1, 8));
        x.move(0, 11);
        Checks.due("the last slot, serviceAt(1, 11)", 2, x.serviceAt(1, 11));
        x.move(2, 10);
        Checks.due("within its own turn, serviceAt(1, 10)", 2, x.serviceAt(1, 10));
        x.move(2, 10);
        Checks.due("to its own slot, serviceAt(1, 10)", 2, x.serviceAt(1, 10));
        Checks.due("its work, service(2, 3)", 1, x.service(2, 3));
        Checks.due("a rehearsal, service(2, 2)", 0, x.service(2, 2));
        x.move(1, 4);
        Checks.due("the works of a concert, service(1, 3)", 3, x.service(1, 3));
        Checks.due("a concert, service(1, 2)", 1, x.service(1, 2));
        Checks.due("size(5)", 3, x.size(5));
    }

    private static void numbersAfterMoves() {
        OrchestraSeason x = Texts.season("days 4;hall a 0;hall b 0;player p 0 0 x;player q 0 0 x;work w 0 0 3 0 x;");
        x.rehearse(0, 3, 0);
        x.rehearse(0, 6, 0);
        x.rehearse(1, 8, 0);
        Checks.due("to its own slot", 1, x.move(1, 6));
        Checks.due("the last one before all", 0, x.move(2, 0));
        Checks.due("the first one behind all", 2, x.move(0, 11));
        Checks.due("to the slot of one in an earlier hall", 2, x.move(2, 6));
        Checks.due("away from it", 2, x.move(1, 8));
        Checks.due("to the slot of one in a later hall", 1, x.move(2, 6));
        Checks.due("the one in the later hall, serviceAt(1, 6)", 2, x.serviceAt(1, 6));
        OrchestraSeason y = twenty();
        Checks.due("the first of twenty behind all", 19, y.move(0, 29));
        Checks.due("the last of twenty before all", 0, y.move(19, 0));
    }

    private static void nothingToMove() {
        OrchestraSeason x = planned();
        for (int service : new int[] {-1, 3, 20, LEAST, MOST}) {
            Checks.outOfBounds("move(" + service + ", 3)", () -> x.move(service, 3));
        }
        for (int slot : new int[] {-1, 12, LEAST, MOST}) {
            Checks.outOfBounds("move(0, " + slot + ")", () -> x.move(0, slot));
        }
    }

    private static void refusedMoves() {
        OrchestraSeason x = Texts.season(TEXT);
        x.rehearse(0, 3, 3);
        x.rehearse(0, 5, 1);
        x.concert(0, 7, 2);
        for (int service = 0; service < 3; service++) {
            for (int slot = 0; slot < 12; slot++) {
                int moved = service;
                int to = slot;
                boolean isRefused = x.whyNotMove(moved, to) != 0;
                String answer = Checks.outcome(() -> x.move(moved, to));
                String call = "move(" + moved + ", " + to + ")";
                Checks.dueText(call, isRefused ? "IllegalStateException" : answer, answer);
                Checks.dueTrue(call + " is refused or not", isRefused == answer.startsWith("Illegal"));
                if (!isRefused) {
                    x.undo();
                }
            }
        }
        Checks.badState("2", () -> x.move(0, 2));
        Checks.badState("3", () -> x.move(0, 5));
        Checks.badState("4", () -> x.move(2, 4));
        Checks.badState("6", () -> x.move(1, 8));
        x.rehearse(1, 4, 3);
        Checks.badState("5", () -> x.move(0, 4));
        Checks.due("size(5)", 4, x.size(5));
    }

    // ---- promise 28

    /** Work w is played by p and by q, who doubles, at slot 4; p's service can go. */
    private static OrchestraSeason doubled() {
        OrchestraSeason x = Texts.season(TEXT);
        x.rehearse(0, 4, 0);
        x.rehearse(1, 4, 0);
        return x;
    }

    private static void castsAnew() {
        OrchestraSeason x = doubled();
        Checks.due("q doubles, cast(1, 0, 0)", 1, x.cast(1, 0, 0));
        x.recast(1);
        Checks.due("p is busy, cast(1, 0, 0)", 1, x.cast(1, 0, 0));
        x.recast(0);
        Checks.due("its own player is free for it, cast(0, 0, 0)", 0, x.cast(0, 0, 0));
        x.cancel(0);
        Checks.due("the cast stays, cast(0, 0, 0)", 1, x.cast(0, 0, 0));
        x.recast(0);
        Checks.due("p is free, cast(0, 0, 0)", 0, x.cast(0, 0, 0));
        Checks.due("its slot stays, service(0, 0)", 4, x.service(0, 0));
        Checks.due("its hall stays, service(0, 1)", 1, x.service(0, 1));
        OrchestraSeason y = Texts.season(TEXT);
        y.rehearse(0, 3, 0);
        y.concert(1, 3, 1);
        y.rehearse(1, 1, 1);
        y.cancel(1);
        y.rehearse(0, 5, 0);
        y.recast(1);
        Checks.due("each work of a concert, cast(1, 0, 0)", 0, y.cast(1, 0, 0));
        OrchestraSeason z = twenty();
        Checks.due("the last of twenty", 0, z.recast(19));
        OrchestraSeason alone = planned();
        String before = State.of(alone).replace(" 3 turns", " 4 turns");
        Checks.due("a concert, its own players are the best", 0, alone.recast(1));
        Checks.dueText("the same cast", before, State.of(alone));
    }

    private static void doublingsOfRecast() {
        OrchestraSeason x = doubled();
        Checks.due("recast(1)", 1, x.recast(1));
        Checks.due("recast(0)", 0, x.recast(0));
        x.cancel(0);
        Checks.due("before, service(0, 5)", 1, x.service(0, 5));
        Checks.due("recast(0)", 0, x.recast(0));
        Checks.due("after, service(0, 5)", 0, x.service(0, 5));
        OrchestraSeason y = Texts.season("days 1;hall a 0;player p 0 0 y x;player q 0 0 y x;work w 0 0 0 0 x x;"
                + "work v 0 0 0 0 x;work u 0 0 0 0 y x;");
        y.concert(0, 0, 7);
        Checks.due("a concert of three works", 4, y.recast(0));
    }

    private static void nothingToRecast() {
        OrchestraSeason x = planned();
        for (int service : new int[] {-1, 3, 20, LEAST, MOST}) {
            Checks.outOfBounds("recast(" + service + ")", () -> x.recast(service));
        }
        Checks.due("size(7)", 3, x.size(7));
    }

    // ---- promise 29

    private static void leastAndMostContracts() {
        OrchestraSeason x = Texts.season(TEXT);
        for (int contract : new int[] {0, 1, 39, 40}) {
            x.setContract(2, contract);
            Checks.due("player(2, 0)", contract, x.player(2, 0));
        }
        Checks.due("another player, player(1, 0)", 1, x.player(1, 0));
    }

    private static void previousContracts() {
        OrchestraSeason x = Texts.season(TEXT);
        Checks.due("from the text", 2, x.setContract(0, 40));
        Checks.due("the largest", 40, x.setContract(0, 0));
        Checks.due("the least", 0, x.setContract(0, 0));
        Checks.due("the same again", 0, x.setContract(0, 7));
        x.undo();
        Checks.due("after undo()", 0, x.setContract(0, 8));
        Checks.due("another player", 1, x.setContract(1, 8));
    }

    private static void noSuchPlayer() {
        OrchestraSeason x = Texts.season(TEXT);
        for (int player : new int[] {-1, 3, 8, LEAST, MOST}) {
            Checks.outOfBounds("setContract(" + player + ", 1)", () -> x.setContract(player, 1));
            Checks.outOfBounds("setContract(" + player + ", 41)", () -> x.setContract(player, 41));
            Checks.outOfBounds("setContract(" + player + ", -1)", () -> x.setContract(player, -1));
        }
    }

    private static void contractsOutOfRange() {
        OrchestraSeason x = Texts.season(TEXT);
        for (int contract : new int[] {-1, 41, LEAST, MOST}) {
            Checks.badArgument("setContract(0, " + contract + ")", () -> x.setContract(0, contract));
        }
        Checks.due("player(0, 0)", 2, x.player(0, 0));
        Checks.due("size(7)", 0, x.size(7));
    }

    // ---- promises 31 and 32

    private static void twoSlots() {
        OrchestraSeason x = Texts.season(TEXT);
        x.saveSnapshot(0);
        x.rehearse(0, 0, 0);
        x.saveSnapshot(1);
        x.rehearse(0, 5, 0);
        Checks.due("restoreSnapshot(0)", 0, x.restoreSnapshot(0));
        Checks.due("restoreSnapshot(1)", 1, x.restoreSnapshot(1));
        Checks.outOfBounds("saveSnapshot(2)", () -> x.saveSnapshot(2) ? 1 : 0);
        Checks.outOfBounds("restoreSnapshot(2)", () -> x.restoreSnapshot(2));
    }

    private static void inPlaceOfAnEarlierOne() {
        OrchestraSeason x = planned();
        x.saveSnapshot(0);
        x.cancel(2);
        x.saveSnapshot(1);
        x.cancel(1);
        x.saveSnapshot(0);
        x.cancel(0);
        Checks.due("the later one, restoreSnapshot(0)", 1, x.restoreSnapshot(0));
        Checks.due("the other slot, restoreSnapshot(1)", 2, x.restoreSnapshot(1));
        Checks.due("an exception keeps it", 2, keptSnapshot(x));
    }

    private static int keptSnapshot(OrchestraSeason x) {
        Checks.outOfBounds("saveSnapshot(-1)", () -> x.saveSnapshot(-1) ? 1 : 0);
        return x.restoreSnapshot(1);
    }

    private static void wasThereAnEarlierOne() {
        OrchestraSeason x = Texts.season(TEXT);
        Checks.dueFalse("saveSnapshot(1)", x.saveSnapshot(1));
        Checks.dueFalse("saveSnapshot(0)", x.saveSnapshot(0));
        Checks.dueTrue("saveSnapshot(1) again", x.saveSnapshot(1));
        x.restoreSnapshot(0);
        Checks.dueTrue("after it was restored, saveSnapshot(0)", x.saveSnapshot(0));
        x.setContract(0, 9);
        x.undo();
        Checks.dueTrue("undo() keeps it, saveSnapshot(1)", x.saveSnapshot(1));
    }

    private static void parseEmptiesBothSlots() {
        OrchestraSeason x = planned();
        x.saveSnapshot(0);
        x.saveSnapshot(1);
        Texts.parse(x, "days 0;");
        Checks.due("an error does not, restoreSnapshot(0)", 3, x.restoreSnapshot(0));
        Checks.due("an error does not, restoreSnapshot(1)", 3, x.restoreSnapshot(1));
        Texts.parse(x, TEXT);
        Checks.badState("a success does, restoreSnapshot(0)", () -> x.restoreSnapshot(0));
        Checks.badState("a success does, restoreSnapshot(1)", () -> x.restoreSnapshot(1));
        Checks.dueFalse("saveSnapshot(0)", x.saveSnapshot(0));
        Checks.dueFalse("saveSnapshot(1)", x.saveSnapshot(1));
    }

    private static void noSuchSlotToSave() {
        OrchestraSeason x = planned();
        for (int slot : new int[] {-1, 2, LEAST, MOST}) {
            Checks.outOfBounds("saveSnapshot(" + slot + ")", () -> x.saveSnapshot(slot) ? 1 : 0);
        }
    }

    private static void snapshotsHoldEverything() {
        OrchestraSeason x = doubled();
        x.concert(0, 6, 1);
        x.setContract(2, 33);
        x.cancel(0);
        x.saveSnapshot(1);
        String saved = State.of(x).replaceFirst("[0-9]+ turns", "0 turns");
        x.recast(0);
        x.move(1, 9);
        x.rehearse(1, 0, 0);
        x.setContract(2, 0);
        x.setContract(0, 40);
        x.cancel(1);
        Checks.due("restoreSnapshot(1)", 2, x.restoreSnapshot(1));
        Checks.dueText("the state", saved, State.of(x));
        Checks.due("the cast of then, cast(0, 0, 0)", 1, x.cast(0, 0, 0));
        Checks.due("the contract of then, player(2, 0)", 33, x.player(2, 0));
        OrchestraSeason y = twenty();
        y.saveSnapshot(0);
        for (int i = 0; i < 20; i++) {
            y.cancel(0);
        }
        Checks.due("all twenty services", 20, y.restoreSnapshot(0));
        Checks.due("service(19, 0)", 19, y.service(19, 0));
        Checks.due("cast(19, 0, 0)", 0, y.cast(19, 0, 0));
    }

    private static void staysStored() {
        OrchestraSeason x = planned();
        x.saveSnapshot(0);
        String saved = State.of(x).replaceFirst("3 turns", "0 turns");
        for (int i = 0; i < 2; i++) {
            x.cancel(2);
            x.setContract(1, 20 + i);
            Checks.due("restoreSnapshot(0), time " + i, 3, x.restoreSnapshot(0));
            Checks.dueText("the state", saved, State.of(x));
        }
        x.cancel(2);
        x.undo();
        x.cancel(2);
        Checks.due("changes after it do not alter it", 3, x.restoreSnapshot(0));
    }

    private static void restoreClearsHistory() {
        OrchestraSeason x = planned();
        x.saveSnapshot(0);
        Checks.due("saving does not, size(7)", 3, x.size(7));
        x.restoreSnapshot(0);
        Checks.due("size(7)", 0, x.size(7));
        Checks.due("undo()", -1, x.undo());
        Checks.due("size(5)", 3, x.size(5));
        x.cancel(2);
        Checks.due("size(7)", 1, x.size(7));
        Checks.due("back to what was restored, undo()", 0, x.undo());
        Checks.due("size(5)", 3, x.size(5));
        Checks.badState("an empty slot", () -> planned().restoreSnapshot(1));
        OrchestraSeason y = planned();
        Checks.badState("an empty slot", () -> y.restoreSnapshot(1));
        Checks.due("an exception does not, undo()", 2, y.undo());
    }

    private static void servicesRestored() {
        OrchestraSeason x = Texts.season(TEXT);
        x.saveSnapshot(0);
        x.rehearse(0, 0, 0);
        Checks.due("none", 0, x.restoreSnapshot(0));
        x.rehearse(0, 0, 0);
        x.saveSnapshot(1);
        x.cancel(0);
        Checks.due("one", 1, x.restoreSnapshot(1));
        OrchestraSeason y = twenty();
        y.saveSnapshot(1);
        y.cancel(19);
        Checks.due("twenty", 20, y.restoreSnapshot(1));
    }

    private static void noSuchSlotToRestore() {
        OrchestraSeason x = planned();
        for (int slot : new int[] {-1, 2, LEAST, MOST}) {
            Checks.outOfBounds("restoreSnapshot(" + slot + ")", () -> x.restoreSnapshot(slot));
        }
    }

    private static void emptySlots() {
        OrchestraSeason x = planned();
        Checks.badState("restoreSnapshot(0)", () -> x.restoreSnapshot(0));
        Checks.badState("restoreSnapshot(1)", () -> x.restoreSnapshot(1));
        x.saveSnapshot(1);
        Checks.badState("the other slot, restoreSnapshot(0)", () -> x.restoreSnapshot(0));
        Checks.due("restoreSnapshot(1)", 3, x.restoreSnapshot(1));
        Checks.due("size(5)", 3, x.size(5));
    }
}
