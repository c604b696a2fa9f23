/** Promises 19 to 23, the sentences that name a boundary case: rents, overtime, doublings, balance and clashes. */
final class CostBoundaryTest {
    private static final int LEAST = Integer.MIN_VALUE;
    private static final int MOST = Integer.MAX_VALUE;
    private static final String TEXT = "days 30;hall a 0;hall b 0;player p 1 100 x;player q 0 10 y x;work w 0 0 29 7 x;"
            + "work v 0 0 29 999 y;work u 0 0 29 1 x x;work t 1 0 29 1 x;double 50;";

    private CostBoundaryTest() {
    }

    static void run() {
        costs();
        with();
        balance();
    }

    private static void costs() {
        Sentences.test(19, "The rent of a work is its fee times the number of days from that of its first service to that "
                + "of its last one (both included)", CostBoundaryTest::rents);
        Sentences.test(19, "0 without services.", CostBoundaryTest::rentWithoutServices);
        Sentences.test(19, "The overtime of a player is the player's fee times the number of services beyond the contract",
                CostBoundaryTest::overtime);
        Sentences.test(19, "(a concert of several works is one service)", CostBoundaryTest::concertIsOneService);
        Sentences.test(19, "Each doubling costs the fee of double.", CostBoundaryTest::doublings);
        Sentences.test(19, "`what`: 0 all rents, 1 all overtime, 2 all doublings, 3 all together",
                CostBoundaryTest::sums);
        Sentences.test(19, "Throws `IllegalArgumentException` if what is out of range", CostBoundaryTest::noSuchCosts);
    }

    private static void with() {
        Sentences.test(20, "Returns what the season would cost with one more service.",
                CostBoundaryTest::oneMoreService);
        Sentences.test(20, "Returns all costs together; NONE if the service cannot be.",
                CostBoundaryTest::costsOrNone);
        Sentences.test(20, "Throws `IndexOutOfBoundsException` if there is no such hall or slot",
                CostBoundaryTest::noSuchPlace);
        Sentences.test(20, "Throws `IllegalArgumentException` if the set of works is not right",
                CostBoundaryTest::wrongSets);
    }

    private static void balance() {
        Sentences.test(21, "Returns whether every player is in just as many services as the contract tells.",
                CostBoundaryTest::balanced);
        Sentences.test(22, "Returns whether nobody is in two services at one slot, or has two seats of a work in a "
                + "service.", CostBoundaryTest::withoutClash);
        Sentences.test(22, "(Nobody ever is or has.)", CostBoundaryTest::neverClash);
        Sentences.test(23, "Returns the player with the most services beyond the contract (or the fewest below it).",
                CostBoundaryTest::mostBeyondOrFewestBelow);
        Sentences.test(23, "Returns the player, of several the first one; NONE without players.",
                CostBoundaryTest::firstOfSeveralOrNone);
    }

    private static void costs(OrchestraSeason x, int... due) {
        for (int what = 0; what < due.length; what++) {
            Checks.due("costs(" + what + ")", due[what], x.costs(what));
        }
    }

    // ---- promise 19

    private static void rents() {
        OrchestraSeason x = Texts.season("days 30;hall a 0;hall b 0;player p 40 1 x;player q 40 1 x;"
                + "work w 0 0 29 7 x;work v 0 0 29 100 x;");
        x.rehearse(0, 5, 0);
        costs(x, 7);
        x.rehearse(0, 3, 0);
        Checks.due("the same day, costs(0)", 7, x.costs(0));
        x.rehearse(0, 2, 0);
        Checks.due("the day before, costs(0)", 14, x.costs(0));
        x.concert(0, 6, 1);
        Checks.due("the day behind, costs(0)", 21, x.costs(0));
        x.rehearse(1, 89, 0);
        Checks.due("the last day, costs(0)", 7 * 30, x.costs(0));
        x.rehearse(1, 40, 1);
        Checks.due("another work, costs(0)", 7 * 30 + 100, x.costs(0));
        x.concert(1, 45, 3);
        Checks.due("both works, costs(0)", 7 * 30 + 300, x.costs(0));
        x.cancel(x.serviceAt(1, 89));
        Checks.due("the last service of w is gone, costs(0)", 7 * 16 + 300, x.costs(0));
        x.cancel(0);
        Checks.due("the first service of w is gone, costs(0)", 7 * 15 + 300, x.costs(0));
        Checks.due("work(0, 7)", 7 * 15, x.work(0, 7));
        Checks.due("work(1, 7)", 300, x.work(1, 7));
    }

    private static void rentWithoutServices() {
        OrchestraSeason x = Texts.season(TEXT);
        costs(x, 0, 0, 0, 0);
        for (int work = 0; work < 4; work++) {
            Checks.due("work(" + work + ", 7)", 0, x.work(work, 7));
        }
        x.rehearse(0, 0, 1);
        Checks.due("of another work, work(0, 7)", 0, x.work(0, 7));
        Checks.due("costs(0)", 999, x.costs(0));
        x.cancel(0);
        Checks.due("the only service is gone, costs(0)", 0, x.costs(0));
        OrchestraSeason y = Texts.season("days 1;");
        costs(y, 0, 0, 0, 0);
    }

    private static void overtime() {
        OrchestraSeason x = Texts.season("days 30;hall a 0;player p 2 100 x;player q 0 999 y;player r 1 10 z;"
                + "work w 0 0 29 0 x;work v 0 0 29 0 z;");
        int[] due = {0, 0, 100, 200};
        for (int slot = 0; slot < due.length; slot++) {
            x.rehearse(0, slot, 0);
            Checks.due((slot + 1) + " services, costs(1)", due[slot], x.costs(1));
        }
        x.rehearse(0, 10, 1);
        Checks.due("the contract of another one, costs(1)", 200, x.costs(1));
        x.rehearse(0, 11, 1);
        Checks.due("one beyond it, costs(1)", 210, x.costs(1));
        x.setContract(0, 4);
        Checks.due("just the contract, costs(1)", 10, x.costs(1));
        x.setContract(0, 40);
        Checks.due("what is missing is no gain, costs(1)", 10, x.costs(1));
        x.setContract(0, 0);
        Checks.due("no contract, costs(1)", 410, x.costs(1));
    }

    private static void concertIsOneService() {
        OrchestraSeason x = Texts.season(TEXT);
        x.concert(0, 0, 7);
        Checks.due("player(0, 4)", 1, x.player(0, 4));
        Checks.due("player(1, 4)", 1, x.player(1, 4));
        Checks.due("costs(1)", 10, x.costs(1));
        x.concert(0, 1, 5);
        Checks.due("costs(1)", 100 + 20, x.costs(1));
    }

    private static void doublings() {
        OrchestraSeason x = Texts.season(TEXT);
        x.rehearse(0, 0, 0);
        Checks.due("none, costs(2)", 0, x.costs(2));
        x.rehearse(1, 0, 0);
        Checks.due("one, costs(2)", 50, x.costs(2));
        x.concert(0, 1, 5);
        Checks.due("two, costs(2)", 100, x.costs(2));
        OrchestraSeason y = Texts.season(TEXT.replace("double 50;", ""));
        y.rehearse(0, 0, 2);
        Checks.due("without double, costs(2)", 0, y.costs(2));
        Checks.due("without double, service(0, 5)", 1, y.service(0, 5));
        OrchestraSeason z = Texts.season("days 1;hall a 0;player p 40 0 y x;work w 0 0 0 0 x;work v 0 0 0 0 x;"
                + "work u 0 0 0 0 x;double 999;");
        z.concert(0, 0, 7);
        Checks.due("one player doubles in three works, costs(2)", 2997, z.costs(2));
    }

    private static void sums() {
        OrchestraSeason x = Texts.season(TEXT);
        x.concert(0, 0, 7);
        x.rehearse(1, 7, 2);
        costs(x, 7 + 999 + 3, 100 + 20, 100, 1009 + 120 + 100);
        StringBuilder text = new StringBuilder("days 30;hall a 0;");
        for (char name = 'a'; name <= 'h'; name++) {
            text.append("player ").append(name).append(" 0 999 y x;");
        }
        for (char name = 'a'; name <= 'e'; name++) {
            text.append("work ").append(name).append(" 0 0 29 999 x x x x x x;");
        }
        OrchestraSeason y = Texts.season(text + "double 999;");
        int[] sets = {7, 28, 7};
        for (int i = 0; i < 20; i++) {
            y.concert(0, i < 10 ? i : 70 + i, sets[i % 3]);
        }
        costs(y, 5 * 999 * 30, 6 * 20 * 999, 20 * 18 * 999, 999 * (150 + 120 + 360));
    }

    private static void noSuchCosts() {
        OrchestraSeason x = Texts.season(TEXT);
        for (int what : new int[] {-1, 4, LEAST, MOST}) {
            Checks.badArgument("costs(" + what + ")", () -> x.costs(what));
        }
    }

    // ---- promise 20

    private static void oneMoreService() {
        OrchestraSeason x = Texts.season(TEXT);
        Checks.due("the first one", 7, x.costsWith(0, 0, 1, false));
        x.rehearse(0, 0, 0);
        Checks.due("an earlier-numbered hall or not, the doubler plays", 7 + 10 + 50, x.costsWith(1, 0, 1, false));
        Checks.due("the same day", 7 + 100, x.costsWith(0, 1, 1, false));
        Checks.due("the next day", 14 + 100, x.costsWith(0, 3, 1, true));
        Checks.due("the last slot", 7 * 30 + 100, x.costsWith(0, 89, 1, true));
        Checks.due("two more works", 7 + 999 + 1 + 100 + 10 + 50, x.costsWith(0, 2, 7, true));
        costs(x, 7, 0, 0, 7);
        Checks.due("size(5)", 1, x.size(5));
        Checks.due("size(7)", 1, x.size(7));
        Checks.due("service(0, 0)", 0, x.service(0, 0));
        x.concert(0, 2, 7);
        Checks.due("as it was told, costs(3)", 7 + 999 + 1 + 100 + 10 + 50, x.costs(3));
    }

    private static void costsOrNone() {
        OrchestraSeason x = Texts.season(TEXT + "absent p 9;");
        x.rehearse(0, 0, 0);
        Checks.due("reason 3", -1, x.costsWith(0, 0, 1, false));
        Checks.due("reason 4", -1, x.costsWith(0, 5, 8, true));
        Checks.due("reason 5", -1, x.costsWith(0, 27, 4, false));
        Checks.due("the slot before", 7 + 1 + 100 + 10 + 50, x.costsWith(0, 26, 4, false));
        OrchestraSeason y = Texts.season("days 9;hall a 0;player p 0 1 x;work w 0 0 7 1 x;");
        Checks.due("reason 2", -1, y.costsWith(0, 24, 1, false));
        Checks.due("the slot before", 2, y.costsWith(0, 23, 1, false));
        for (int slot = 0; slot < 19; slot++) {
            y.rehearse(0, slot, 0);
        }
        Checks.due("with nineteen", 20 + 8, y.costsWith(0, 23, 1, false));
        y.rehearse(0, 19, 0);
        Checks.due("reason 1", -1, y.costsWith(0, 23, 1, false));
    }

    private static void noSuchPlace() {
        OrchestraSeason x = Texts.season(TEXT);
        for (int hall : new int[] {-1, 2, LEAST, MOST}) {
            Checks.outOfBounds("costsWith(" + hall + ", 0, 0, true)", () -> x.costsWith(hall, 0, 0, true));
        }
        for (int slot : new int[] {-1, 90, LEAST, MOST}) {
            Checks.outOfBounds("costsWith(0, " + slot + ", 16, false)", () -> x.costsWith(0, slot, 16, false));
        }
    }

    private static void wrongSets() {
        OrchestraSeason x = Texts.season(TEXT);
        x.rehearse(0, 0, 0);
        for (int set : new int[] {0, 16, 17, 15, -1, LEAST, LEAST | 1, MOST}) {
            Checks.badArgument("a taken hall, costsWith(0, 0, " + set + ", true)", () -> x.costsWith(0, 0, set, true));
            Checks.badArgument("costsWith(0, 9, " + set + ", false)", () -> x.costsWith(0, 9, set, false));
        }
        Checks.badArgument("costsWith(0, 9, 3, false)", () -> x.costsWith(0, 9, 3, false));
        Checks.due("costsWith(0, 9, 7, true)", 7 * 4 + 999 + 1 + 100 + 10 + 50, x.costsWith(0, 9, 7, true));
    }

    // ---- promises 21 to 23

    private static void balanced() {
        Checks.dueTrue("without players", new OrchestraSeason().isBalanced());
        OrchestraSeason x = Texts.season("days 2;hall a 0;player p 0 0 x;player q 0 0 y;player r 0 0 z;"
                + "work w 0 0 1 0 x y;work v 0 0 1 0 z;");
        Checks.dueTrue("no contracts, no services", x.isBalanced());
        x.setContract(2, 1);
        Checks.dueFalse("the last player one below", x.isBalanced());
        x.rehearse(0, 0, 1);
        Checks.dueTrue("just as many", x.isBalanced());
        x.rehearse(0, 1, 1);
        Checks.dueFalse("the last player one beyond", x.isBalanced());
        x.setContract(2, 2);
        x.concert(0, 2, 3);
        Checks.dueFalse("all players one beyond", x.isBalanced());
        x.setContract(0, 1);
        x.setContract(2, 3);
        Checks.dueFalse("the second player one beyond", x.isBalanced());
        x.setContract(1, 1);
        Checks.dueTrue("a concert of two works counts once", x.isBalanced());
        x.setContract(0, 2);
        Checks.dueFalse("the first player one below", x.isBalanced());
        x.setContract(1, 0);
        Checks.dueFalse("one below and one beyond", x.isBalanced());
        String seven = "player a 0 0 x;player b 0 0 x;player c 0 0 x;player d 0 0 x;player e 0 0 x;player f 0 0 x;"
                + "player g 0 0 x;";
        OrchestraSeason y = Texts.season("days 1;" + seven + "player h 1 0 x;");
        Checks.dueFalse("the last of eight one below", y.isBalanced());
        y.setContract(7, 0);
        Checks.dueTrue("eight without contracts", y.isBalanced());
        y.setContract(7, 40);
        Texts.parse(y, "days 1;" + seven);
        Checks.dueTrue("a player of an earlier text does not count", y.isBalanced());
    }

    private static void withoutClash() {
        Checks.dueTrue("a new object", new OrchestraSeason().isWithoutClash());
        OrchestraSeason x = Texts.season(TEXT);
        x.rehearse(0, 0, 0);
        x.rehearse(1, 0, 0);
        Checks.dueTrue("two services at one slot", x.isWithoutClash());
        x.concert(0, 1, 7);
        Checks.dueTrue("one player has seats of several works", x.isWithoutClash());
        x.rehearse(1, 2, 2);
        Checks.dueTrue("two seats of one instrument", x.isWithoutClash());
    }

    private static void neverClash() {
        OrchestraSeason x = Texts.season(TEXT);
        x.rehearse(0, 0, 0);
        Checks.due("p is busy, q is not", 0, x.whyNot(1, 0, 1, false));
        x.rehearse(1, 1, 0);
        x.move(1, 0);
        Checks.dueTrue("a service moved to the slot of another", x.isWithoutClash());
        Checks.due("cast(0, 0, 0)", 0, x.cast(0, 0, 0));
        Checks.due("cast(1, 0, 0)", 1, x.cast(1, 0, 0));
        x.recast(1);
        x.recast(0);
        Checks.dueTrue("both cast anew", x.isWithoutClash());
        Checks.due("a third service at the slot before the next one", 1, x.earliest(0, 0, 1, false));
        x.undo();
        x.saveSnapshot(0);
        x.cancel(0);
        x.recast(0);
        x.restoreSnapshot(0);
        Checks.dueTrue("restored", x.isWithoutClash());
    }

    private static void mostBeyondOrFewestBelow() {
        OrchestraSeason x = Texts.season("days 2;hall a 0;player p 5 0 x;player q 3 0 y;player r 4 0 z;"
                + "work w 0 0 1 0 z;work v 0 0 1 0 x;");
        Checks.due("the fewest below", 1, x.busiest());
        x.rehearse(0, 0, 0);
        x.rehearse(0, 1, 0);
        Checks.due("two below", 2, x.busiest());
        x.setContract(2, 0);
        Checks.due("two beyond", 2, x.busiest());
        x.setContract(0, 0);
        x.rehearse(0, 2, 1);
        x.rehearse(0, 3, 1);
        x.rehearse(0, 4, 1);
        Checks.due("three beyond before two", 0, x.busiest());
        x.setContract(0, 40);
        x.setContract(1, 40);
        x.setContract(2, 40);
        Checks.due("37 below before 38 and 40", 0, x.busiest());
        OrchestraSeason y = Texts.season("days 1;player p 40 0 x;");
        Checks.due("forty below, alone", 0, y.busiest());
    }

    private static void firstOfSeveralOrNone() {
        Checks.due("a new object", -1, new OrchestraSeason().busiest());
        Checks.due("a text without players", -1, Texts.season("days 1;hall a 0;").busiest());
        OrchestraSeason x = Texts.season("days 2;hall a 0;player p 1 0 x;player q 1 0 y;player r 1 0 z;"
                + "work w 0 0 1 0 z;work v 0 0 1 0 y;");
        Checks.due("all alike", 0, x.busiest());
        x.rehearse(0, 0, 0);
        Checks.due("the last one alone", 2, x.busiest());
        x.rehearse(0, 1, 1);
        Checks.due("the last two alike", 1, x.busiest());
        x.setContract(0, 0);
        Checks.due("all alike again", 0, x.busiest());
    }
}
