/** Promises 19 to 23: rents, overtime, doublings, balance and clashes. */
final class CostTest {
    /** Instruments: 0 violin, 1 oboe, 2 flute. */
    private static final String TEXT = "days 5;hall a 0;hall b 0;player p 1 50 violin;player q 1 30 oboe flute;"
            + "player r 2 10 flute oboe;work v 1 0 4 5 violin oboe;work w 0 0 4 100 flute oboe flute;"
            + "work u 0 0 4 100 flute flute;double 7;absent p 4;";

    private CostTest() {
    }

    static void run() {
        promise19Costs();
        promise20CostsWith();
        promise21IsBalanced();
        promise22IsWithoutClash();
        promise23Busiest();
    }

    private static void costs(OrchestraSeason x, int... due) {
        for (int what = 0; what < due.length; what++) {
            Checks.due("costs(" + what + ")", due[what], x.costs(what));
        }
    }

    private static void promise19Costs() {
        OrchestraSeason x = Texts.season(TEXT);
        costs(x, 0, 0, 0, 0);
        x.rehearse(0, 3, 0);
        costs(x, 5, 0, 0, 5);
        x.rehearse(0, 5, 0);
        costs(x, 5, 80, 0, 85);
        x.rehearse(0, 0, 2);
        costs(x, 105, 110, 7, 222);
        x.concert(1, 10, 5);
        costs(x, 15 + 400, 100 + 90, 14, 619);
        x.cancel(0);
        costs(x, 15 + 100, 100 + 60, 7, 282);
        Checks.badArgument("costs(4)", () -> x.costs(4));
        Checks.badArgument("costs(-1)", () -> x.costs(-1));
        OrchestraSeason y = Texts.season("days 30;hall a 0;player p 0 999 a;work w 0 0 29 999 a;");
        y.rehearse(0, 89, 0);
        y.rehearse(0, 0, 0);
        costs(y, 999 * 30, 999 * 2, 0, 999 * 32);
    }

    private static void promise20CostsWith() {
        OrchestraSeason x = Texts.season(TEXT);
        Checks.due("a first rehearsal", 5, x.costsWith(0, 3, 1, false));
        x.rehearse(0, 3, 0);
        Checks.due("a concert two days later", 15 + 80, x.costsWith(0, 9, 1, true));
        Checks.due("a concert of two works", 15 + 100 + 80 + 7, x.costsWith(0, 9, 5, true));
        Checks.due("before", 10 + 80, x.costsWith(1, 0, 1, false));
        Checks.due("a taken hall", -1, x.costsWith(0, 3, 4, false));
        Checks.due("an unrehearsed concert", -1, x.costsWith(0, 2, 1, true));
        Checks.due("no cast", -1, x.costsWith(0, 4, 2, false));
        Checks.due("an absent player", -1, x.costsWith(0, 12, 1, false));
        Checks.due("costsWith changes nothing, costs(3)", 5, x.costs(3));
        Checks.due("costsWith changes nothing, size(5)", 1, x.size(5));
        Checks.due("costsWith is no change, size(7)", 1, x.size(7));
        Checks.badArgument("two works rehearsed", () -> x.costsWith(0, 0, 3, false));
        Checks.badArgument("no work", () -> x.costsWith(0, 0, 0, true));
        Checks.badArgument("a bit of no work", () -> x.costsWith(0, 0, 8, true));
        Checks.outOfBounds("hall 2", () -> x.costsWith(2, 0, 3, false));
        Checks.outOfBounds("hall -1", () -> x.costsWith(-1, 0, 1, false));
        Checks.outOfBounds("slot 15", () -> x.costsWith(0, 15, 0, true));
        Checks.outOfBounds("slot -1", () -> x.costsWith(0, -1, 1, true));
    }

    private static void promise21IsBalanced() {
        OrchestraSeason x = new OrchestraSeason();
        Checks.dueTrue("isBalanced() without players", x.isBalanced());
        Texts.parse(x, TEXT);
        Checks.dueFalse("isBalanced() without services", x.isBalanced());
        x.rehearse(0, 0, 0);
        x.setContract(2, 0);
        Checks.dueTrue("isBalanced()", x.isBalanced());
        x.setContract(2, 1);
        Checks.dueFalse("isBalanced() with one missing", x.isBalanced());
        x.setContract(2, 0);
        x.rehearse(0, 1, 0);
        Checks.dueFalse("isBalanced() with two beyond", x.isBalanced());
        x.setContract(1, 2);
        Checks.dueFalse("isBalanced() with the first player alone beyond", x.isBalanced());
        x.setContract(0, 2);
        x.setContract(2, 1);
        Checks.dueFalse("isBalanced() with the last player alone below", x.isBalanced());
        x.setContract(2, 0);
        Checks.dueTrue("isBalanced() again", x.isBalanced());
    }

    private static void promise22IsWithoutClash() {
        OrchestraSeason x = new OrchestraSeason();
        Checks.dueTrue("isWithoutClash(), new", x.isWithoutClash());
        Texts.parse(x, TEXT);
        x.rehearse(0, 0, 0);
        Checks.dueTrue("isWithoutClash() with a service", x.isWithoutClash());
        Texts.parse(x, "days 1;hall a 0;hall b 0;player p 0 0 a b;player q 0 0 b a;work v 0 0 0 0 a;work w 0 0 0 0 a b;");
        x.rehearse(0, 0, 0);
        x.rehearse(1, 0, 0);
        x.concert(0, 1, 3);
        Checks.dueTrue("isWithoutClash() with two at one slot and a shared player", x.isWithoutClash());
    }

    private static void promise23Busiest() {
        OrchestraSeason x = new OrchestraSeason();
        Checks.due("busiest() without players", -1, x.busiest());
        Texts.parse(x, TEXT);
        Checks.due("busiest() without services, the first of several", 0, x.busiest());
        x.setContract(0, 40);
        Checks.due("busiest(), the fewest below the contract", 1, x.busiest());
        x.setContract(1, 3);
        Checks.due("busiest(), player 2", 2, x.busiest());
        x.rehearse(0, 0, 0);
        Checks.due("busiest(), players 1 and 2", 1, x.busiest());
        x.rehearse(0, 1, 0);
        x.rehearse(0, 2, 0);
        x.rehearse(0, 3, 0);
        Checks.due("busiest(), player 1 beyond", 1, x.busiest());
        x.setContract(0, 0);
        Checks.due("busiest(), player 0 more beyond", 0, x.busiest());
    }
}
