/** Promises 24 to 32: changes, undo and snapshots. */
final class ChangeTest {
    /** Instruments: 0 violin, 1 oboe, 2 flute. */
    private static final String TEXT = "days 4;hall a 1;hall b 0;player p 2 50 violin;player q 1 30 oboe flute;"
            + "player r 0 10 flute oboe;work v 1 0 2 5 violin oboe;work w 0 1 3 7 flute;work u 0 0 3 7 oboe;"
            + "work t 0 0 3 0 flute flute;double 20;absent r 0;";

    private ChangeTest() {
    }

    static void run() {
        promise24Rehearse();
        promise25Concert();
        promise26Cancel();
        promise27Move();
        promise27MoveCastsAnew();
        promise28Recast();
        castsStay();
        promise29SetContract();
        promise30Undo();
        promise30TenChanges();
        promise30EveryChange();
        promise31SaveSnapshot();
        promise32RestoreSnapshot();
        exceptionsChangeNothing();
    }

    private static void promise24Rehearse() {
        OrchestraSeason x = Texts.season(TEXT);
        Checks.due("rehearse(0, 6, 0)", 0, x.rehearse(0, 6, 0));
        Checks.due("rehearse(1, 3, 1)", 0, x.rehearse(1, 3, 1));
        Checks.due("rehearse(1, 6, 2)", 2, x.rehearse(1, 6, 2));
        Checks.due("service(1, 2)", 0, x.service(1, 2));
        Checks.due("service(1, 3)", 1, x.service(1, 3));
        Checks.due("service(2, 3)", 4, x.service(2, 3));
        Checks.due("size(7)", 3, x.size(7));
        Checks.badState("outside its days", () -> x.rehearse(0, 9, 0));
        Checks.badState("a taken hall", () -> x.rehearse(0, 7, 2));
        Checks.badState("no cast", () -> x.rehearse(1, 0, 3));
        Checks.outOfBounds("hall 2", () -> x.rehearse(2, 9, 0));
        Checks.outOfBounds("hall -1", () -> x.rehearse(-1, 0, 0));
        Checks.outOfBounds("slot 12", () -> x.rehearse(0, 12, 0));
        Checks.outOfBounds("slot -1", () -> x.rehearse(0, -1, 0));
        Checks.outOfBounds("work 4", () -> x.rehearse(0, 6, 4));
        Checks.outOfBounds("work -1", () -> x.rehearse(0, 6, -1));
        Checks.outOfBounds("work 32", () -> x.rehearse(0, 6, 32));
        Checks.due("size(5)", 3, x.size(5));
    }

    private static void promise25Concert() {
        OrchestraSeason x = Texts.season(TEXT);
        Checks.badState("unrehearsed", () -> x.concert(0, 3, 1));
        x.rehearse(0, 0, 0);
        Checks.due("concert(0, 3, 7)", 1, x.concert(0, 3, 7));
        Checks.due("service(1, 2)", 1, x.service(1, 2));
        Checks.due("service(1, 3)", 7, x.service(1, 3));
        Checks.due("the only oboe is busy, whyNot(1, 0, 4, true)", 5, x.whyNot(1, 0, 4, true));
        Checks.due("concert(1, 2, 4)", 1, x.concert(1, 2, 4));
        Checks.due("size(7)", 3, x.size(7));
        Checks.badState("one of two works unrehearsed", () -> x.concert(1, 0, 5));
        Checks.badArgument("no work", () -> x.concert(0, 3, 0));
        Checks.badArgument("four works", () -> x.concert(0, 3, 15));
        Checks.badArgument("a bit of no work", () -> x.concert(0, 3, 16));
        Checks.badArgument("the sign bit", () -> x.concert(0, 3, Integer.MIN_VALUE));
        Checks.outOfBounds("hall 2", () -> x.concert(2, 3, 15));
        Checks.outOfBounds("hall -1", () -> x.concert(-1, 3, 1));
        Checks.outOfBounds("slot 12", () -> x.concert(0, 12, 0));
        Checks.outOfBounds("slot -1", () -> x.concert(0, -1, 0));
        Checks.due("size(5)", 3, x.size(5));
    }

    private static void promise26Cancel() {
        OrchestraSeason x = Texts.season(TEXT);
        x.rehearse(0, 0, 0);
        x.rehearse(0, 2, 0);
        x.concert(0, 4, 1);
        x.rehearse(0, 6, 0);
        Checks.due("one of two rehearsals, cancel(0)", 3, x.cancel(0));
        Checks.due("service(0, 0)", 2, x.service(0, 0));
        Checks.badState("the one that is needed, cancel(0)", () -> x.cancel(0));
        Checks.due("size(5)", 3, x.size(5));
        Checks.due("one after the concert, cancel(2)", 2, x.cancel(2));
        Checks.due("the concert, cancel(1)", 1, x.cancel(1));
        Checks.due("the last one, cancel(0)", 0, x.cancel(0));
        Checks.due("size(7)", 8, x.size(7));
        Checks.outOfBounds("cancel(0)", () -> x.cancel(0));
        Checks.outOfBounds("cancel(-1)", () -> x.cancel(-1));
        Checks.due("the hall is free again", 0, x.rehearse(0, 3, 0));
        Checks.dueFalse("its players are not", x.isFree(0, 3));
        x.cancel(0);
        Checks.dueTrue("its players are again", x.isFree(0, 3));
        Checks.due("serviceAt(0, 3)", -1, x.serviceAt(0, 3));
    }

    private static void promise27Move() {
        OrchestraSeason x = Texts.season(TEXT);
        x.rehearse(0, 0, 0);
        x.concert(0, 3, 1);
        x.rehearse(1, 6, 1);
        Checks.due("the concert, move(1, 8)", 2, x.move(1, 8));
        Checks.due("service(2, 0)", 8, x.service(2, 0));
        Checks.due("service(2, 1)", 0, x.service(2, 1));
        Checks.due("service(2, 2)", 1, x.service(2, 2));
        Checks.due("service(2, 3)", 1, x.service(2, 3));
        Checks.due("service(1, 3)", 2, x.service(1, 3));
        Checks.due("the rehearsal, move(0, 6)", 0, x.move(0, 6));
        Checks.due("its hall comes first, service(0, 1)", 0, x.service(0, 1));
        Checks.due("to its own slot, move(0, 6)", 0, x.move(0, 6));
        Checks.due("size(7)", 6, x.size(7));
        Checks.badState("too near, move(0, 7)", () -> x.move(0, 7));
        Checks.badState("behind the concert, move(0, 10)", () -> x.move(0, 10));
        Checks.badState("the concert before it, move(2, 4)", () -> x.move(2, 4));
        Checks.badState("outside its days, move(1, 2)", () -> x.move(1, 2));
        Checks.outOfBounds("move(3, 0)", () -> x.move(3, 0));
        Checks.outOfBounds("move(-1, 0)", () -> x.move(-1, 0));
        Checks.outOfBounds("move(0, 12)", () -> x.move(0, 12));
        Checks.outOfBounds("move(0, -1)", () -> x.move(0, -1));
        Checks.due("size(7)", 6, x.size(7));
        OrchestraSeason y = Texts.season("days 2;hall a 0;player p 0 0 a;work w 1 0 1 0 a;");
        y.rehearse(0, 0, 0);
        y.concert(0, 2, 1);
        Checks.badState("the needed rehearsal behind its concert", () -> y.move(0, 3));
        Checks.due("just before the concert", 0, y.move(0, 1));
    }

    private static void promise27MoveCastsAnew() {
        OrchestraSeason x = Texts.season(TEXT);
        x.rehearse(0, 0, 2);
        x.rehearse(1, 3, 2);
        Checks.due("cast(0, 2, 0)", 1, x.cast(0, 2, 0));
        Checks.due("move(0, 3)", 0, x.move(0, 3));
        Checks.due("q is in the other service, cast(0, 2, 0)", 2, x.cast(0, 2, 0));
        Checks.due("cast(1, 2, 0)", 1, x.cast(1, 2, 0));
        Checks.due("its doublings", 1, x.service(0, 5));
        x.cancel(1);
        Checks.due("cast(0, 2, 0) stays", 2, x.cast(0, 2, 0));
        Checks.due("move to its own slot", 0, x.move(0, 3));
        Checks.due("cast(0, 2, 0) is new", 1, x.cast(0, 2, 0));
    }

    private static void promise28Recast() {
        OrchestraSeason x = Texts.season(TEXT);
        x.rehearse(0, 3, 1);
        x.rehearse(1, 3, 1);
        Checks.due("w is played by q, too", 1, x.cast(1, 1, 0));
        Checks.due("recast(1) while r is busy", 1, x.recast(1));
        Checks.due("it is a change, size(7)", 3, x.size(7));
        x.cancel(0);
        Checks.due("the cast stays", 1, x.cast(0, 1, 0));
        Checks.due("recast(0)", 0, x.recast(0));
        Checks.due("the cast is new", 2, x.cast(0, 1, 0));
        Checks.due("recast(0) again", 0, x.recast(0));
        Checks.due("both are changes, size(7)", 6, x.size(7));
        Checks.due("undo()", 5, x.undo());
        Checks.due("cast(0, 1, 0)", 2, x.cast(0, 1, 0));
        Checks.due("undo()", 4, x.undo());
        Checks.due("cast(0, 1, 0)", 1, x.cast(0, 1, 0));
        Checks.outOfBounds("recast(1)", () -> x.recast(1));
        Checks.outOfBounds("recast(-1)", () -> x.recast(-1));
        OrchestraSeason y = Texts.season(TEXT);
        y.rehearse(1, 1, 0);
        y.concert(1, 4, 5);
        Checks.due("recast of a concert", 0, y.recast(1));
        Checks.due("cast(1, 0, 0)", 0, y.cast(1, 0, 0));
        Checks.due("cast(1, 2, 0)", 1, y.cast(1, 2, 0));
        Checks.due("cast(1, 1, 0)", -1, y.cast(1, 1, 0));
    }

    private static void castsStay() {
        OrchestraSeason x = Texts.season(TEXT);
        x.rehearse(1, 3, 2);
        x.rehearse(0, 3, 2);
        Checks.due("the first keeps q", 1, x.cast(1, 2, 0));
        Checks.due("the second has r", 2, x.cast(0, 2, 0));
        x.cancel(1);
        Checks.due("and keeps r", 2, x.cast(0, 2, 0));
        x.setContract(2, 5);
        x.rehearse(0, 6, 2);
        x.move(1, 8);
        x.recast(1);
        Checks.due("whatever happens to others", 2, x.cast(0, 2, 0));
    }

    private static void promise29SetContract() {
        OrchestraSeason x = Texts.season(TEXT);
        Checks.due("setContract(0, 40)", 2, x.setContract(0, 40));
        Checks.due("setContract(0, 0)", 40, x.setContract(0, 0));
        Checks.due("setContract(0, 0) again", 0, x.setContract(0, 0));
        x.rehearse(0, 0, 0);
        x.undo();
        x.setContract(1, 1);
        Checks.due("setContract alters nothing else, size(5)", 0, x.size(5));
        x.undo();
        Checks.due("player(0, 0)", 0, x.player(0, 0));
        Checks.due("player(1, 0)", 1, x.player(1, 0));
        Checks.due("size(7)", 3, x.size(7));
        Checks.badArgument("setContract(0, 41)", () -> x.setContract(0, 41));
        Checks.badArgument("setContract(0, -1)", () -> x.setContract(0, -1));
        Checks.outOfBounds("setContract(3, 1)", () -> x.setContract(3, 1));
        Checks.outOfBounds("setContract(-1, 1)", () -> x.setContract(-1, 1));
        Checks.outOfBounds("setContract(3, 41)", () -> x.setContract(3, 41));
        Checks.due("size(7)", 3, x.size(7));
    }

    private static void promise30Undo() {
        OrchestraSeason x = Texts.season(TEXT);
        Checks.due("undo() of nothing", -1, x.undo());
        x.rehearse(0, 0, 0);
        x.concert(0, 3, 1);
        Checks.due("undo()", 1, x.undo());
        Checks.due("size(5)", 1, x.size(5));
        Checks.due("a change after it", 1, x.concert(0, 4, 1));
        Checks.due("size(7)", 2, x.size(7));
        Checks.due("undo()", 1, x.undo());
        Checks.due("undo()", 0, x.undo());
        Checks.due("size(5)", 0, x.size(5));
        Checks.due("costs(3)", 0, x.costs(3));
        Checks.due("undo()", -1, x.undo());
    }

    private static void promise30TenChanges() {
        OrchestraSeason x = Texts.season(TEXT);
        for (int i = 1; i <= 10; i++) {
            x.setContract(0, 10 + i);
            Checks.due("size(7)", i, x.size(7));
        }
        x.setContract(0, 21);
        x.setContract(0, 22);
        x.setContract(0, 23);
        Checks.due("size(7) after thirteen changes", 10, x.size(7));
        for (int i = 9; i >= 5; i--) {
            Checks.due("undo()", i, x.undo());
            Checks.due("player(0, 0)", 13 + i, x.player(0, 0));
        }
        x.setContract(0, 39);
        x.setContract(0, 40);
        Checks.due("undo()", 6, x.undo());
        Checks.due("player(0, 0)", 39, x.player(0, 0));
        for (int i = 5; i >= 0; i--) {
            Checks.due("undo()", i, x.undo());
            Checks.due("player(0, 0)", 13 + i, x.player(0, 0));
        }
        Checks.due("undo()", -1, x.undo());
        Checks.due("player(0, 0)", 13, x.player(0, 0));
    }

    private static void promise30EveryChange() {
        OrchestraSeason x = Texts.season(TEXT);
        x.rehearse(1, 4, 1);
        x.rehearse(0, 4, 1);
        x.cancel(1);
        x.recast(0);
        x.move(0, 5);
        x.concert(1, 8, 4);
        x.setContract(1, 7);
        x.undo();
        Checks.due("setContract undone, player(1, 0)", 1, x.player(1, 0));
        x.undo();
        Checks.due("concert undone, size(5)", 1, x.size(5));
        x.undo();
        Checks.due("move undone, service(0, 0)", 4, x.service(0, 0));
        Checks.due("move undone, cast(0, 1, 0)", 2, x.cast(0, 1, 0));
        x.undo();
        Checks.due("recast undone, cast(0, 1, 0)", 1, x.cast(0, 1, 0));
        x.undo();
        Checks.due("cancel undone, cast(1, 1, 0)", 2, x.cast(1, 1, 0));
        Checks.due("cancel undone, service(1, 1)", 1, x.service(1, 1));
        x.undo();
        Checks.due("rehearse undone, service(0, 1)", 1, x.service(0, 1));
        Checks.due("all undone", 0, x.undo());
        Checks.due("size(5)", 0, x.size(5));
    }

    private static void promise31SaveSnapshot() {
        OrchestraSeason x = Texts.season(TEXT);
        Checks.dueFalse("saveSnapshot(0)", x.saveSnapshot(0));
        Checks.dueTrue("saveSnapshot(0) again", x.saveSnapshot(0));
        x.rehearse(0, 0, 0);
        Checks.dueFalse("saveSnapshot(1)", x.saveSnapshot(1));
        Checks.due("it is no change, size(7)", 1, x.size(7));
        x.rehearse(0, 3, 0);
        Checks.dueTrue("in place of an earlier one, saveSnapshot(0)", x.saveSnapshot(0));
        x.cancel(0);
        Checks.due("restoreSnapshot(0)", 2, x.restoreSnapshot(0));
        Checks.due("restoreSnapshot(1)", 1, x.restoreSnapshot(1));
        Checks.outOfBounds("saveSnapshot(2)", () -> x.saveSnapshot(2) ? 1 : 0);
        Checks.outOfBounds("saveSnapshot(-1)", () -> x.saveSnapshot(-1) ? 1 : 0);
    }

    private static void promise32RestoreSnapshot() {
        OrchestraSeason x = Texts.season(TEXT);
        Checks.badState("restoreSnapshot(0)", () -> x.restoreSnapshot(0));
        Checks.badState("restoreSnapshot(1)", () -> x.restoreSnapshot(1));
        x.rehearse(1, 3, 2);
        x.rehearse(0, 3, 2);
        x.setContract(2, 17);
        x.saveSnapshot(1);
        x.cancel(1);
        x.recast(0);
        x.setContract(2, 3);
        Checks.badState("the other slot is empty", () -> x.restoreSnapshot(0));
        Checks.due("an exception keeps the undo history, size(7)", 6, x.size(7));
        Checks.due("restoreSnapshot(1)", 2, x.restoreSnapshot(1));
        Checks.due("player(2, 0)", 17, x.player(2, 0));
        Checks.due("cast(0, 2, 0)", 2, x.cast(0, 2, 0));
        Checks.due("cast(1, 2, 0)", 1, x.cast(1, 2, 0));
        Checks.due("size(7)", 0, x.size(7));
        Checks.due("undo()", -1, x.undo());
        x.cancel(0);
        x.setContract(2, 4);
        Checks.due("it stays stored, restoreSnapshot(1)", 2, x.restoreSnapshot(1));
        Checks.due("player(2, 0)", 17, x.player(2, 0));
        Checks.due("a change after it", 1, x.cancel(1));
        Checks.due("undo()", 0, x.undo());
        Checks.due("size(5)", 2, x.size(5));
        Checks.outOfBounds("restoreSnapshot(2)", () -> x.restoreSnapshot(2));
        Checks.outOfBounds("restoreSnapshot(-1)", () -> x.restoreSnapshot(-1));
    }

    private static void exceptionsChangeNothing() {
        OrchestraSeason x = Texts.season(TEXT);
        x.rehearse(0, 0, 0);
        x.concert(0, 3, 1);
        Checks.badState("rehearse", () -> x.rehearse(0, 0, 0));
        Checks.badState("concert", () -> x.concert(0, 0, 1));
        Checks.badState("cancel", () -> x.cancel(0));
        Checks.badState("move", () -> x.move(0, 6));
        Checks.badArgument("setContract", () -> x.setContract(0, 41));
        Checks.outOfBounds("recast", () -> x.recast(2));
        Checks.due("size(5)", 2, x.size(5));
        Checks.due("size(7)", 2, x.size(7));
        Checks.due("service(0, 0)", 0, x.service(0, 0));
        Checks.due("service(1, 0)", 3, x.service(1, 0));
        Checks.due("undo()", 1, x.undo());
        Checks.due("size(5)", 1, x.size(5));
    }
}
