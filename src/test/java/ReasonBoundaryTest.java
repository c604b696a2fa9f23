/** Promises 16 to 18, the sentences on the reasons why a service cannot be that name a boundary case. */
final class ReasonBoundaryTest {
    private static final int LEAST = Integer.MIN_VALUE;
    private static final int MOST = Integer.MAX_VALUE;
    /** Work w can always be, v needs two rehearsals on days 1 and 2, u has no cast, t needs one. */
    private static final String TEXT = "days 4;hall a 0;hall b 0;hall c 1;player p 0 0 x y;player q 0 0 x;player r 0 0 y;"
            + "player s 0 0 y;work w 0 0 3 0 x;work v 2 1 2 0 y;work u 0 0 3 0 x x x x;work t 1 0 3 0 x y;";

    private ReasonBoundaryTest() {
    }

    static void run() {
        reasons();
        arguments();
        earliest();
        moves();
    }

    private static void reasons() {
        Sentences.test(16, "A service cannot be for the first of these reasons that applies",
                ReasonBoundaryTest::firstReason);
        Sentences.test(16, "1 there are 20 services already", ReasonBoundaryTest::twentyAlready);
        Sentences.test(16, "2 for one of its works, the day of the slot is not from first to last",
                ReasonBoundaryTest::firstAndLastDay);
        Sentences.test(16, "3 there is another service in this hall", ReasonBoundaryTest::sameHallAlone);
        Sentences.test(16, "at a slot that is earlier or later by not more than turn of the hall",
                ReasonBoundaryTest::nearSlots);
        Sentences.test(16, "(at the same slot, too)", ReasonBoundaryTest::sameSlot);
        Sentences.test(16, "4 it is a concert", ReasonBoundaryTest::rehearsalsNeedNone);
        Sentences.test(16, "and for one of its works there are fewer rehearsals than need",
                ReasonBoundaryTest::fewerThanNeed);
        Sentences.test(16, "at earlier slots", ReasonBoundaryTest::earlierSlots);
        Sentences.test(16, "5 for one of its works there is no cast.", ReasonBoundaryTest::noCast);
        Sentences.test(16, "Returns the reason, 1 to 5; 0 if there is none.", ReasonBoundaryTest::reasonOrNone);
    }

    private static void arguments() {
        Sentences.test(16, "Throws `IndexOutOfBoundsException` if there is no such hall or slot",
                ReasonBoundaryTest::noSuchHallOrSlot);
        Sentences.test(16, "Throws `IllegalArgumentException` if the set of works is not right",
                ReasonBoundaryTest::wrongSets);
    }

    private static void earliest() {
        Sentences.test(17, "`from`: the first slot that is looked at", ReasonBoundaryTest::firstSlotLookedAt);
        Sentences.test(17, "Returns the slot; NONE if there is none from there on.", ReasonBoundaryTest::slotOrNone);
        Sentences.test(17, "Throws `IndexOutOfBoundsException` if there is no such hall or slot",
                ReasonBoundaryTest::earliestWithoutPlace);
        Sentences.test(17, "Throws `IllegalArgumentException` if the set of works is not right",
                ReasonBoundaryTest::earliestWithWrongSets);
    }

    private static void moves() {
        Sentences.test(18, "as if it was not there, and came at that slot.", ReasonBoundaryTest::asIfNotThere);
        Sentences.test(18, "Returns the reason why it could not come there, 1 to 5",
                ReasonBoundaryTest::reasonsAgainstMoves);
        Sentences.test(18, "otherwise 6 if a concert (perhaps itself) would have a work with fewer rehearsals at earlier "
                + "slots than need then", ReasonBoundaryTest::concertsLeftShort);
        Sentences.test(18, "0 if there is none.", ReasonBoundaryTest::movesThatCanBe);
        Sentences.test(18, "Throws `IndexOutOfBoundsException` if there is no such service or slot",
                ReasonBoundaryTest::noSuchServiceOrSlot);
    }

    /** Twenty services in hall 0 at the slots from 0 on, with a work w that can be at any slot. */
    private static OrchestraSeason twenty(String otherWorks) {
        OrchestraSeason x = Texts.season("days 10;hall a 0;hall b 0;player p 0 0 x;work w 0 0 9 0 x;" + otherWorks);
        for (int slot = 0; slot < 20; slot++) {
            x.rehearse(0, slot, 0);
        }
        return x;
    }

    // ---- promise 16

    private static void firstReason() {
        OrchestraSeason x = twenty("work v 0 9 9 0 x;work u 9 0 9 0 x;work t 0 0 9 0 x x;");
        Checks.due("1 before 2", 1, x.whyNot(1, 26, 2, false));
        Checks.due("1 before 3", 1, x.whyNot(0, 19, 1, false));
        Checks.due("1 before 4", 1, x.whyNot(1, 20, 4, true));
        Checks.due("1 before 5", 1, x.whyNot(1, 20, 8, false));
        x.cancel(0);
        Checks.due("2 before 3", 2, x.whyNot(0, 19, 2, false));
        Checks.due("2 before 4", 2, x.whyNot(1, 20, 6, true));
        Checks.due("2 before 5", 2, x.whyNot(1, 20, 10, true));
        Checks.due("3 before 4", 3, x.whyNot(0, 19, 4, true));
        Checks.due("3 before 5", 3, x.whyNot(0, 19, 8, false));
        Checks.due("4 before 5", 4, x.whyNot(1, 20, 12, true));
        Checks.due("5 alone", 5, x.whyNot(1, 20, 8, false));
        Checks.due("the work with the later reason first", 2, x.whyNot(1, 20, 14, true));
    }

    private static void twentyAlready() {
        OrchestraSeason x = twenty("");
        Checks.due("with twenty", 1, x.whyNot(0, 20, 1, false));
        Checks.due("a concert with twenty", 1, x.whyNot(0, 29, 1, true));
        x.cancel(19);
        Checks.due("with nineteen", 0, x.whyNot(0, 20, 1, false));
        x.concert(0, 29, 1);
        Checks.due("with twenty again", 1, x.whyNot(0, 20, 1, false));
        x.undo();
        Checks.due("with nineteen again", 0, x.whyNot(0, 20, 1, false));
    }

    private static void firstAndLastDay() {
        OrchestraSeason x = Texts.season("days 6;hall a 0;player p 0 0 x;work w 0 2 4 0 x;work v 0 3 3 0 x;"
                + "work u 0 0 5 0 x;");
        for (int slot = 0; slot < 18; slot++) {
            boolean isW = slot >= 6 && slot <= 14;
            boolean isV = slot >= 9 && slot <= 11;
            Checks.due("w at " + slot, isW ? 0 : 2, x.whyNot(0, slot, 1, false));
            Checks.due("a concert of w at " + slot, isW ? 0 : 2, x.whyNot(0, slot, 1, true));
            Checks.due("v at " + slot, isV ? 0 : 2, x.whyNot(0, slot, 2, false));
            Checks.due("u at " + slot, 0, x.whyNot(0, slot, 4, false));
            Checks.due("w and u at " + slot, isW ? 0 : 2, x.whyNot(0, slot, 5, true));
            Checks.due("all at " + slot, isV ? 0 : 2, x.whyNot(0, slot, 7, true));
        }
    }

    private static void sameHallAlone() {
        OrchestraSeason x = Texts.season("days 2;hall a 9;hall b 9;player p 0 0 x;player q 0 0 x;work w 0 0 1 0 x;");
        Checks.due("an empty hall", 0, x.whyNot(0, 2, 1, false));
        x.rehearse(0, 2, 0);
        Checks.due("this hall", 3, x.whyNot(0, 3, 1, false));
        Checks.due("another hall at the same slot", 0, x.whyNot(1, 2, 1, false));
        Checks.due("another hall at the next slot", 0, x.whyNot(1, 3, 1, false));
        x.cancel(0);
        Checks.due("empty again", 0, x.whyNot(0, 3, 1, false));
    }

    private static void nearSlots() {
        for (int turn = 0; turn <= 9; turn++) {
            OrchestraSeason x = Texts.season("days 10;hall a 5;hall b " + turn + ";player p 0 0 x;work w 0 0 9 0 x;");
            x.rehearse(1, 14, 0);
            for (int slot = 0; slot < 30; slot++) {
                boolean isNear = slot >= 14 - turn && slot <= 14 + turn;
                Checks.due("turn " + turn + ", whyNot(1, " + slot + ", 1, false)", isNear ? 3 : 0,
                        x.whyNot(1, slot, 1, false));
            }
            Checks.due("a concert near by", 3, x.whyNot(1, 14 + turn, 1, true));
        }
    }

    private static void sameSlot() {
        OrchestraSeason x = Texts.season(TEXT);
        x.rehearse(0, 4, 0);
        Checks.due("turn 0, the same slot", 3, x.whyNot(0, 4, 1, false));
        Checks.due("turn 0, a concert at the same slot", 3, x.whyNot(0, 4, 1, true));
        Checks.due("turn 0, the slot before", 0, x.whyNot(0, 3, 1, false));
        Checks.due("turn 0, the slot behind", 0, x.whyNot(0, 5, 1, false));
        Checks.badState("rehearse(0, 4, 0)", () -> x.rehearse(0, 4, 0));
    }

    private static void rehearsalsNeedNone() {
        OrchestraSeason x = Texts.season(TEXT);
        Checks.due("a rehearsal of v", 0, x.whyNot(0, 3, 2, false));
        Checks.due("a concert of v", 4, x.whyNot(0, 3, 2, true));
        Checks.due("need 0, a concert of w", 0, x.whyNot(0, 0, 1, true));
    }

    private static void fewerThanNeed() {
        for (int need = 0; need <= 9; need++) {
            OrchestraSeason x = Texts.season("days 10;hall a 0;player p 0 0 x;work w 0 0 9 0 x;work v " + need
                    + " 0 9 0 x;");
            x.rehearse(0, 0, 0);
            x.concert(0, 1, 1);
            for (int slot = 2; slot < 13; slot++) {
                Checks.due("need " + need + ", " + (slot - 2) + " rehearsals", slot - 2 < need ? 4 : 0,
                        x.whyNot(0, 20, 2, true));
                Checks.due("need " + need + ", with w", slot - 2 < need ? 4 : 0, x.whyNot(0, 20, 3, true));
                x.rehearse(0, slot, 1);
            }
        }
        OrchestraSeason y = Texts.season("days 2;hall a 0;player p 0 0 x;work w 1 0 1 0 x;work v 1 0 1 0 x;");
        y.rehearse(0, 0, 0);
        Checks.due("the second work is short", 4, y.whyNot(0, 2, 3, true));
        y.rehearse(0, 1, 1);
        Checks.due("none is short", 0, y.whyNot(0, 2, 3, true));
        y.cancel(0);
        Checks.due("the first work is short", 4, y.whyNot(0, 2, 3, true));
        y.concert(0, 2, 2);
        Checks.due("a concert is no rehearsal", 4, y.whyNot(0, 3, 1, true));
    }

    private static void earlierSlots() {
        OrchestraSeason x = Texts.season(TEXT);
        x.rehearse(1, 4, 3);
        Checks.due("two slots before", 4, x.whyNot(0, 2, 8, true));
        Checks.due("the slot before", 4, x.whyNot(0, 3, 8, true));
        x.rehearse(2, 2, 0);
        Checks.due("the same slot", 4, x.whyNot(0, 4, 8, true));
        Checks.due("the slot behind", 0, x.whyNot(0, 5, 8, true));
        Checks.due("the last slot", 0, x.whyNot(0, 11, 8, true));
    }

    private static void noCast() {
        OrchestraSeason x = Texts.season(TEXT);
        Checks.due("two players for four seats", 5, x.whyNot(0, 0, 4, false));
        Checks.due("the other work has a cast", 5, x.whyNot(0, 0, 5, true));
        x.rehearse(0, 3, 3);
        Checks.due("q and s are left, w", 0, x.whyNot(1, 3, 1, false));
        Checks.due("q and s are left, v", 0, x.whyNot(1, 3, 2, false));
        x.rehearse(1, 3, 0);
        Checks.due("s is left, w", 5, x.whyNot(2, 3, 1, false));
        Checks.due("s is left, v", 0, x.whyNot(2, 3, 2, false));
        x.rehearse(2, 3, 1);
        Checks.due("nobody is left at the slot, but at the next one", 0, x.whyNot(0, 4, 1, false));
        OrchestraSeason y = Texts.season("days 2;hall a 0;player p 0 0 x;work w 0 0 1 0 x;absent p 1;");
        Checks.due("the last slot before the absence", 0, y.whyNot(0, 2, 1, false));
        Checks.due("the first slot of the absence", 5, y.whyNot(0, 3, 1, false));
        Checks.due("the last slot of the absence", 5, y.whyNot(0, 5, 1, false));
    }

    private static void reasonOrNone() {
        OrchestraSeason x = Texts.season(TEXT);
        x.rehearse(2, 4, 0);
        Checks.due("none", 0, x.whyNot(0, 4, 1, false));
        Checks.due("2", 2, x.whyNot(0, 0, 2, false));
        Checks.due("3", 3, x.whyNot(2, 4, 1, false));
        Checks.due("4", 4, x.whyNot(0, 4, 2, true));
        Checks.due("5", 5, x.whyNot(0, 4, 4, false));
        Checks.due("1", 1, twenty("").whyNot(0, 29, 1, false));
        Checks.due("it is no change, size(7)", 1, x.size(7));
        Checks.due("it plans nothing, size(5)", 1, x.size(5));
    }

    private static void noSuchHallOrSlot() {
        OrchestraSeason x = Texts.season(TEXT);
        for (int hall : new int[] {-1, 3, LEAST, MOST}) {
            Checks.outOfBounds("whyNot(" + hall + ", 0, 1, true)", () -> x.whyNot(hall, 0, 1, true));
            Checks.outOfBounds("whyNot(" + hall + ", 0, 0, true)", () -> x.whyNot(hall, 0, 0, true));
        }
        for (int slot : new int[] {-1, 12, LEAST, MOST}) {
            Checks.outOfBounds("whyNot(0, " + slot + ", 1, false)", () -> x.whyNot(0, slot, 1, false));
            Checks.outOfBounds("whyNot(0, " + slot + ", 16, false)", () -> x.whyNot(0, slot, 16, false));
        }
    }

    private static void wrongSets() {
        OrchestraSeason x = Texts.season(TEXT);
        for (int set : new int[] {0, 16, 17, 15, 32, -1, -2, LEAST, LEAST | 1, MOST, 1 << 16}) {
            Checks.badArgument("whyNot(0, 0, " + set + ", true)", () -> x.whyNot(0, 0, set, true));
            Checks.badArgument("whyNot(0, 0, " + set + ", false)", () -> x.whyNot(0, 0, set, false));
        }
        for (int set : new int[] {3, 5, 9, 7, 14}) {
            Checks.badArgument("whyNot(0, 0, " + set + ", false)", () -> x.whyNot(0, 0, set, false));
            Checks.due("whyNot(0, 11, " + set + ", true)", set == 5 ? 5 : set == 9 ? 4 : 2, x.whyNot(0, 11, set, true));
        }
        OrchestraSeason y = twenty("");
        Checks.badArgument("before reason 1", () -> y.whyNot(0, 0, 0, true));
        OrchestraSeason z = Texts.season("days 1;hall a 0;");
        Checks.badArgument("without works", () -> z.whyNot(0, 0, 1, true));
        Checks.badArgument("no work of none", () -> z.whyNot(0, 0, 0, false));
    }

    // ---- promise 17

    private static void firstSlotLookedAt() {
        OrchestraSeason x = Texts.season(TEXT);
        for (int from = 0; from < 12; from++) {
            Checks.due("earliest(0, " + from + ", 1, false)", from, x.earliest(0, from, 1, false));
        }
        x.rehearse(2, 5, 0);
        int[] due = {0, 1, 2, 3, 7, 7, 7, 7, 8, 9, 10, 11};
        for (int from = 0; from < 12; from++) {
            Checks.due("earliest(2, " + from + ", 1, false)", due[from], x.earliest(2, from, 1, false));
        }
        Checks.due("an earlier one is not looked at", 3, x.earliest(0, 0, 2, false));
    }

    private static void slotOrNone() {
        OrchestraSeason x = Texts.season(TEXT);
        Checks.due("the last one of its days", 8, x.earliest(0, 8, 2, false));
        Checks.due("behind its days", -1, x.earliest(0, 9, 2, false));
        Checks.due("the last slot", 11, x.earliest(0, 11, 1, false));
        Checks.due("never a cast", -1, x.earliest(0, 0, 4, false));
        Checks.due("never rehearsed", -1, x.earliest(0, 0, 8, true));
        x.rehearse(0, 11, 0);
        Checks.due("the last slot is taken", -1, x.earliest(0, 11, 1, false));
        x.rehearse(1, 0, 3);
        Checks.due("the first slot behind its rehearsal", 1, x.earliest(0, 0, 8, true));
        Checks.due("twenty services", -1, twenty("").earliest(0, 20, 1, false));
        Checks.due("it is no change, size(7)", 2, x.size(7));
    }

    private static void earliestWithoutPlace() {
        OrchestraSeason x = Texts.season(TEXT);
        for (int hall : new int[] {-1, 3, LEAST, MOST}) {
            Checks.outOfBounds("earliest(" + hall + ", 0, 0, true)", () -> x.earliest(hall, 0, 0, true));
        }
        for (int slot : new int[] {-1, 12, LEAST, MOST}) {
            Checks.outOfBounds("earliest(0, " + slot + ", 16, false)", () -> x.earliest(0, slot, 16, false));
            Checks.outOfBounds("earliest(0, " + slot + ", 1, false)", () -> x.earliest(0, slot, 1, false));
        }
    }

    private static void earliestWithWrongSets() {
        OrchestraSeason x = Texts.season(TEXT);
        for (int set : new int[] {0, 16, 17, 15, -1, LEAST, LEAST | 1, MOST}) {
            Checks.badArgument("earliest(0, 0, " + set + ", true)", () -> x.earliest(0, 0, set, true));
            Checks.badArgument("earliest(0, 11, " + set + ", false)", () -> x.earliest(0, 11, set, false));
        }
        Checks.badArgument("earliest(0, 0, 3, false)", () -> x.earliest(0, 0, 3, false));
        OrchestraSeason y = twenty("");
        Checks.badArgument("with twenty services", () -> y.earliest(0, 0, 2, true));
    }

    // ---- promise 18

    private static void asIfNotThere() {
        OrchestraSeason x = Texts.season("days 4;hall a 9;hall b 0;player p 0 0 x;work w 0 0 3 0 x;work v 1 0 3 0 x;");
        x.rehearse(0, 5, 0);
        for (int slot = 0; slot < 12; slot++) {
            Checks.due("within its own turn, whyNotMove(0, " + slot + ")", 0, x.whyNotMove(0, slot));
        }
        x.rehearse(1, 7, 0);
        Checks.due("at the slot of another one", 5, x.whyNotMove(0, 7));
        Checks.due("the other one at its slot", 5, x.whyNotMove(1, 5));
        Checks.due("its own slot, its own player", 0, x.whyNotMove(1, 7));
        Checks.due("one of twenty", 0, twenty("").whyNotMove(7, 20));
        OrchestraSeason y = Texts.season("days 4;hall a 0;hall b 0;player p 0 0 x;work v 1 0 3 0 x;");
        y.rehearse(0, 5, 0);
        y.rehearse(0, 7, 0);
        y.concert(0, 9, 1);
        Checks.due("a rehearsal is not its own earlier one", 0, y.whyNotMove(1, 6));
        Checks.due("the concert behind the first rehearsal", 0, y.whyNotMove(2, 6));
        Checks.due("whyNotMove is no change, size(7)", 3, y.size(7));
        Checks.due("whyNotMove moves nothing, service(2, 0)", 9, y.service(2, 0));
    }

    private static void reasonsAgainstMoves() {
        OrchestraSeason x = Texts.season(TEXT);
        x.rehearse(1, 3, 1);
        x.rehearse(1, 5, 1);
        x.concert(1, 7, 2);
        Checks.due("2, the slot before its days", 2, x.whyNotMove(0, 2));
        Checks.due("2, the slot behind its days", 2, x.whyNotMove(2, 9));
        Checks.due("2 before 6", 2, x.whyNotMove(1, 9));
        Checks.due("3", 3, x.whyNotMove(0, 5));
        Checks.due("3 before 6", 3, x.whyNotMove(0, 7));
        Checks.due("4, at a slot behind one rehearsal", 4, x.whyNotMove(2, 4));
        x.rehearse(0, 6, 3);
        x.rehearse(2, 6, 1);
        Checks.due("5, p and r, then s are busy", 5, x.whyNotMove(4, 6));
        x.cancel(3);
        Checks.due("s is free", 0, x.whyNotMove(3, 6));
        OrchestraSeason y = Texts.season("days 2;hall a 0;hall b 0;player p 0 0 x;work v 1 0 1 0 x;");
        y.rehearse(0, 0, 0);
        y.concert(1, 2, 1);
        Checks.due("5 before 6", 5, y.whyNotMove(0, 2));
        Checks.due("6", 6, y.whyNotMove(0, 3));
    }

    private static void concertsLeftShort() {
        OrchestraSeason x = Texts.season("days 4;hall a 0;hall b 0;player p 0 0 x;player q 0 0 x;work v 1 0 3 0 x;"
                + "work w 0 0 3 0 x;");
        x.rehearse(0, 2, 0);
        x.concert(1, 5, 3);
        Checks.due("the slot before the concert", 0, x.whyNotMove(0, 4));
        Checks.due("the slot of the concert", 6, x.whyNotMove(0, 5));
        Checks.due("the slot behind the concert", 6, x.whyNotMove(0, 6));
        Checks.due("the last slot", 6, x.whyNotMove(0, 11));
        Checks.due("the concert itself at the slot of its rehearsal: 4 comes first", 4, x.whyNotMove(1, 2));
        Checks.due("the concert itself before it: 4 comes first", 4, x.whyNotMove(1, 0));
        x.rehearse(0, 4, 0);
        Checks.due("with another rehearsal", 0, x.whyNotMove(0, 6));
        Checks.due("the other one, with the first", 0, x.whyNotMove(1, 6));
        x.concert(1, 3, 1);
        Checks.due("an earlier concert needs the first", 6, x.whyNotMove(0, 6));
        Checks.due("at its slot", 6, x.whyNotMove(0, 3));
        Checks.due("but not the other one", 0, x.whyNotMove(2, 6));
        x.rehearse(0, 6, 1);
        Checks.due("a work without need", 0, x.whyNotMove(4, 9));
    }

    private static void movesThatCanBe() {
        OrchestraSeason x = Texts.season(TEXT);
        x.rehearse(1, 3, 1);
        x.rehearse(1, 5, 1);
        x.concert(1, 7, 2);
        for (int service = 0; service < 3; service++) {
            Checks.due("to its own slot, " + service, 0, x.whyNotMove(service, x.service(service, 0)));
        }
        Checks.due("the first slot of its days", 0, x.whyNotMove(1, 4));
        Checks.due("the last slot of its days", 0, x.whyNotMove(2, 8));
        Checks.due("the first slot behind both rehearsals", 0, x.whyNotMove(2, 6));
    }

    private static void noSuchServiceOrSlot() {
        OrchestraSeason x = Texts.season(TEXT);
        Checks.outOfBounds("without services", () -> x.whyNotMove(0, 0));
        x.rehearse(0, 0, 0);
        for (int service : new int[] {-1, 1, 20, LEAST, MOST}) {
            Checks.outOfBounds("whyNotMove(" + service + ", 0)", () -> x.whyNotMove(service, 0));
        }
        for (int slot : new int[] {-1, 12, LEAST, MOST}) {
            Checks.outOfBounds("whyNotMove(0, " + slot + ")", () -> x.whyNotMove(0, slot));
        }
    }
}
