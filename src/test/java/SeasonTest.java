/** Promises 7 to 11: halls, players, works and their seats. */
final class SeasonTest {
    private static final String TEXT = "days 3;hall a 0;hall b 9;player p 2 50 violin;player q 1 30 oboe flute;"
            + "player r 0 10 flute violin oboe;work v 1 0 1 5 oboe violin;work w 0 1 2 7 flute flute;double 3;"
            + "absent p 2;absent r 0;";

    private SeasonTest() {
    }

    static void run() {
        promise7Turn();
        promise8Player();
        promise9IsFree();
        promise10Work();
        promise11Seat();
    }

    private static void promise7Turn() {
        OrchestraSeason x = Texts.season(TEXT);
        Checks.due("turn(0)", 0, x.turn(0));
        Checks.due("turn(1)", 9, x.turn(1));
        Checks.outOfBounds("turn(2)", () -> x.turn(2));
        Checks.outOfBounds("turn(-1)", () -> x.turn(-1));
    }

    private static void players(OrchestraSeason x, int player, int... due) {
        for (int what = 0; what < due.length; what++) {
            Checks.due("player(" + player + ", " + what + ")", due[what], x.player(player, what));
        }
    }

    private static void promise8Player() {
        OrchestraSeason x = Texts.season(TEXT);
        players(x, 0, 2, 50, 0, 1, 0, 0, 2, 0);
        players(x, 1, 1, 30, 1, 6, 0, 0, 1, 0);
        players(x, 2, 0, 10, 2, 7, 0, 0, 0, 0);
        x.rehearse(0, 3, 1);
        players(x, 1, 1, 30, 1, 6, 1, 1, 0, 0);
        players(x, 2, 0, 10, 2, 7, 1, 0, 0, 10);
        x.rehearse(0, 4, 0);
        x.concert(0, 5, 3);
        players(x, 0, 2, 50, 0, 1, 2, 0, 0, 0);
        players(x, 1, 1, 30, 1, 6, 3, 2, 0, 60);
        players(x, 2, 0, 10, 2, 7, 2, 0, 0, 20);
        x.setContract(2, 40);
        players(x, 2, 40, 10, 2, 7, 2, 0, 38, 0);
        Checks.badArgument("player(0, 8)", () -> x.player(0, 8));
        Checks.badArgument("player(0, -1)", () -> x.player(0, -1));
        Checks.outOfBounds("player(3, 0)", () -> x.player(3, 0));
        Checks.outOfBounds("player(-1, 0)", () -> x.player(-1, 0));
        Checks.outOfBounds("player(3, 8)", () -> x.player(3, 8));
    }

    private static void promise9IsFree() {
        OrchestraSeason x = Texts.season(TEXT);
        Checks.dueFalse("isFree(2, 2)", x.isFree(2, 2));
        Checks.dueTrue("isFree(2, 3)", x.isFree(2, 3));
        Checks.dueTrue("isFree(0, 5)", x.isFree(0, 5));
        Checks.dueFalse("isFree(0, 6)", x.isFree(0, 6));
        x.rehearse(0, 1, 0);
        Checks.dueFalse("in a service, isFree(0, 1)", x.isFree(0, 1));
        Checks.dueFalse("in a service, isFree(1, 1)", x.isFree(1, 1));
        Checks.dueTrue("the slot before, isFree(0, 0)", x.isFree(0, 0));
        Checks.dueTrue("the slot behind, isFree(0, 2)", x.isFree(0, 2));
        Checks.outOfBounds("isFree(3, 0)", () -> x.isFree(3, 0) ? 1 : 0);
        Checks.outOfBounds("isFree(-1, 0)", () -> x.isFree(-1, 0) ? 1 : 0);
        Checks.outOfBounds("isFree(0, 9)", () -> x.isFree(0, 9) ? 1 : 0);
        Checks.outOfBounds("isFree(0, -1)", () -> x.isFree(0, -1) ? 1 : 0);
    }

    private static void works(OrchestraSeason x, int work, int... due) {
        for (int what = 0; what < due.length; what++) {
            Checks.due("work(" + work + ", " + what + ")", due[what], x.work(work, what));
        }
    }

    private static void promise10Work() {
        OrchestraSeason x = Texts.season(TEXT);
        works(x, 0, 1, 0, 1, 5, 2, 0, 0, 0);
        works(x, 1, 0, 1, 2, 7, 2, 0, 0, 0);
        x.rehearse(0, 2, 0);
        works(x, 0, 1, 0, 1, 5, 2, 1, 0, 5);
        x.concert(0, 3, 3);
        x.concert(1, 4, 1);
        works(x, 0, 1, 0, 1, 5, 2, 1, 2, 10);
        works(x, 1, 0, 1, 2, 7, 2, 0, 1, 7);
        x.rehearse(0, 8, 1);
        works(x, 1, 0, 1, 2, 7, 2, 1, 1, 14);
        Checks.badArgument("work(0, 8)", () -> x.work(0, 8));
        Checks.badArgument("work(0, -1)", () -> x.work(0, -1));
        Checks.outOfBounds("work(2, 0)", () -> x.work(2, 0));
        Checks.outOfBounds("work(-1, 0)", () -> x.work(-1, 0));
        Checks.outOfBounds("work(2, 8)", () -> x.work(2, 8));
    }

    private static void promise11Seat() {
        OrchestraSeason x = Texts.season(TEXT);
        Checks.due("seat(0, 0)", 1, x.seat(0, 0));
        Checks.due("seat(0, 1)", 0, x.seat(0, 1));
        Checks.due("seat(1, 0)", 2, x.seat(1, 0));
        Checks.due("seat(1, 1)", 2, x.seat(1, 1));
        Checks.outOfBounds("seat(0, 2)", () -> x.seat(0, 2));
        Checks.outOfBounds("seat(0, -1)", () -> x.seat(0, -1));
        Checks.outOfBounds("seat(2, 0)", () -> x.seat(2, 0));
        Checks.outOfBounds("seat(-1, 0)", () -> x.seat(-1, 0));
    }
}
