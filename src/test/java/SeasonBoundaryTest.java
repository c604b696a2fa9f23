/** Promises 7 to 11, the sentences that name a boundary case: halls, players, works and their seats. */
final class SeasonBoundaryTest {
    private static final int LEAST = Integer.MIN_VALUE;
    private static final int MOST = Integer.MAX_VALUE;
    /** Instruments: 0 oboe, 1 flute, 2 horn. */
    private static final String TEXT = "days 4;hall a 0;hall b 9;hall c 5;player p 2 50 oboe;player q 0 999 flute oboe;"
            + "player r 40 0 horn flute oboe;work v 0 0 3 999 oboe flute;work w 9 1 2 0 oboe oboe oboe oboe oboe horn;"
            + "double 9;absent q 0;absent r 3;";

    private SeasonBoundaryTest() {
    }

    static void run() {
        Sentences.test(7, "Halls, players, works, instruments and services are numbered from 0, each sort by itself.",
                SeasonBoundaryTest::numbersFromZero);
        Sentences.test(7, "Returns the turn of a hall.", SeasonBoundaryTest::turns);
        Sentences.test(7, "Throws `IndexOutOfBoundsException` if there is no such hall", SeasonBoundaryTest::noSuchHall);
        players();
        Sentences.test(9, "Returns whether a player is free at a slot.", SeasonBoundaryTest::freePlayers);
        Sentences.test(9, "Throws `IndexOutOfBoundsException` if there is no such player or slot",
                SeasonBoundaryTest::noSuchPlayerOrSlot);
        Sentences.test(10, "`what`: 0 need, 1 first, 2 last, 3 the fee, 4 the number of seats, 5 the number of "
                + "rehearsals, 6 the number of concerts with it, 7 the rent", SeasonBoundaryTest::propertiesOfWorks);
        Sentences.test(10, "Throws `IndexOutOfBoundsException` if there is no such work (checked first)",
                SeasonBoundaryTest::noSuchWork);
        Sentences.test(10, "Throws `IllegalArgumentException` if what is out of range",
                SeasonBoundaryTest::noSuchPropertyOfWorks);
        Sentences.test(11, "Returns the instrument of a seat of a work.", SeasonBoundaryTest::seats);
        Sentences.test(11, "Throws `IndexOutOfBoundsException` if there is no such work or seat",
                SeasonBoundaryTest::noSuchSeat);
    }

    private static void players() {
        Sentences.test(8, "0 the contract, 1 the fee, 2 the main instrument, 3 all instruments as bits",
                SeasonBoundaryTest::propertiesToldInText);
        Sentences.test(8, "4 the number of services, 5 the number of doublings",
                SeasonBoundaryTest::servicesAndDoublings);
        Sentences.test(8, "6 the number of services that are missing to the contract (0 if none is)",
                SeasonBoundaryTest::missingServices);
        Sentences.test(8, "7 the overtime", SeasonBoundaryTest::overtime);
        Sentences.test(8, "Throws `IndexOutOfBoundsException` if there is no such player (checked first)",
                SeasonBoundaryTest::noSuchPlayer);
        Sentences.test(8, "Throws `IllegalArgumentException` if what is out of range",
                SeasonBoundaryTest::noSuchPropertyOfPlayers);
    }

    // ---- promise 7

    private static void numbersFromZero() {
        OrchestraSeason x = Texts.season(TEXT);
        Checks.due("turn(0)", 0, x.turn(0));
        Checks.due("player(0, 1)", 50, x.player(0, 1));
        Checks.due("work(0, 3)", 999, x.work(0, 3));
        Checks.due("seat(0, 0)", 0, x.seat(0, 0));
        Checks.due("rehearse(0, 3, 0)", 0, x.rehearse(0, 3, 0));
        Checks.due("service(0, 0)", 3, x.service(0, 0));
        Checks.due("hall a", 0, Texts.find(x, 0, "a"));
        Checks.due("player p", 0, Texts.find(x, 1, "p"));
        Checks.due("work v", 0, Texts.find(x, 2, "v"));
        Checks.due("instrument oboe", 0, Texts.find(x, 3, "oboe"));
    }

    private static void turns() {
        OrchestraSeason x = Texts.season(TEXT);
        Checks.due("turn(0), the least", 0, x.turn(0));
        Checks.due("turn(1), the largest", 9, x.turn(1));
        Checks.due("turn(2)", 5, x.turn(2));
    }

    private static void noSuchHall() {
        OrchestraSeason x = Texts.season(TEXT);
        for (int hall : new int[] {-1, 3, 4, LEAST, MOST}) {
            Checks.outOfBounds("turn(" + hall + ")", () -> x.turn(hall));
        }
        OrchestraSeason y = Texts.season("days 1;hall a 1;");
        Checks.outOfBounds("turn(1) of one hall", () -> y.turn(1));
        OrchestraSeason z = Texts.season("days 1;");
        Checks.outOfBounds("turn(0) without halls", () -> z.turn(0));
    }

    // ---- promise 8

    private static void propertiesToldInText() {
        OrchestraSeason x = Texts.season(TEXT);
        int[][] due = {{2, 50, 0, 1}, {0, 999, 1, 3}, {40, 0, 2, 7}};
        for (int player = 0; player < due.length; player++) {
            for (int what = 0; what < 4; what++) {
                Checks.due("player(" + player + ", " + what + ")", due[player][what], x.player(player, what));
            }
        }
        OrchestraSeason y = Texts.season("days 1;player p 0 0 a b c d;player q 0 0 e f g h;player r 0 0 h a;");
        Checks.due("player(1, 3)", 0xf0, y.player(1, 3));
        Checks.due("player(2, 3)", 0x81, y.player(2, 3));
        Checks.due("player(2, 2)", 7, y.player(2, 2));
        y.setContract(2, 40);
        Checks.due("player(2, 0)", 40, y.player(2, 0));
        Checks.due("player(1, 0)", 0, y.player(1, 0));
    }

    private static void servicesAndDoublings() {
        OrchestraSeason x = Texts.season("days 30;hall a 0;player p 0 1 x y;player q 0 1 z;work w 0 0 29 1 y;"
                + "work v 0 0 29 1 y;work u 0 0 29 1 x;");
        Checks.due("none, player(0, 4)", 0, x.player(0, 4));
        Checks.due("none, player(0, 5)", 0, x.player(0, 5));
        x.concert(0, 0, 7);
        Checks.due("a concert of three works, player(0, 4)", 1, x.player(0, 4));
        Checks.due("two of them doubled, player(0, 5)", 2, x.player(0, 5));
        for (int slot = 1; slot < 20; slot++) {
            x.rehearse(0, slot, 0);
        }
        Checks.due("all twenty, player(0, 4)", 20, x.player(0, 4));
        Checks.due("all twenty, player(0, 5)", 21, x.player(0, 5));
        Checks.due("the other one, player(1, 4)", 0, x.player(1, 4));
        Checks.due("the other one, player(1, 5)", 0, x.player(1, 5));
        x.cancel(0);
        Checks.due("player(0, 5)", 19, x.player(0, 5));
    }

    private static void missingServices() {
        OrchestraSeason x = Texts.season("days 2;hall a 0;player p 2 1 x;player q 40 1 y;work w 0 0 1 1 x;");
        Checks.due("two of two, player(0, 6)", 2, x.player(0, 6));
        Checks.due("forty of forty, player(1, 6)", 40, x.player(1, 6));
        x.rehearse(0, 0, 0);
        Checks.due("one of two, player(0, 6)", 1, x.player(0, 6));
        x.rehearse(0, 1, 0);
        Checks.due("just the contract, player(0, 6)", 0, x.player(0, 6));
        x.rehearse(0, 2, 0);
        Checks.due("beyond the contract, player(0, 6)", 0, x.player(0, 6));
        x.setContract(0, 0);
        Checks.due("without a contract, player(0, 6)", 0, x.player(0, 6));
    }

    private static void overtime() {
        OrchestraSeason x = Texts.season("days 2;hall a 0;player p 2 999 x;work w 0 0 1 1 x;");
        x.rehearse(0, 0, 0);
        Checks.due("below the contract, player(0, 7)", 0, x.player(0, 7));
        x.rehearse(0, 1, 0);
        Checks.due("just the contract, player(0, 7)", 0, x.player(0, 7));
        x.rehearse(0, 2, 0);
        Checks.due("one beyond, player(0, 7)", 999, x.player(0, 7));
        x.rehearse(0, 3, 0);
        Checks.due("two beyond, player(0, 7)", 1998, x.player(0, 7));
        x.setContract(0, 0);
        Checks.due("four beyond, player(0, 7)", 3996, x.player(0, 7));
    }

    private static void noSuchPlayer() {
        OrchestraSeason x = Texts.season(TEXT);
        for (int player : new int[] {-1, 3, 8, LEAST, MOST}) {
            Checks.outOfBounds("player(" + player + ", 0)", () -> x.player(player, 0));
            Checks.outOfBounds("player(" + player + ", 8)", () -> x.player(player, 8));
            Checks.outOfBounds("player(" + player + ", -1)", () -> x.player(player, -1));
        }
    }

    private static void noSuchPropertyOfPlayers() {
        OrchestraSeason x = Texts.season(TEXT);
        for (int what : new int[] {-1, 8, LEAST, MOST}) {
            Checks.badArgument("player(0, " + what + ")", () -> x.player(0, what));
            Checks.badArgument("player(2, " + what + ")", () -> x.player(2, what));
        }
    }

    // ---- promise 9

    private static void freePlayers() {
        OrchestraSeason x = Texts.season(TEXT);
        Checks.dueTrue("nobody absent, isFree(0, 0)", x.isFree(0, 0));
        Checks.dueTrue("the last slot, isFree(0, 11)", x.isFree(0, 11));
        Checks.dueFalse("absent in the first slot, isFree(1, 0)", x.isFree(1, 0));
        Checks.dueFalse("absent in the last slot of the day, isFree(1, 2)", x.isFree(1, 2));
        Checks.dueTrue("the day behind, isFree(1, 3)", x.isFree(1, 3));
        Checks.dueTrue("the day before, isFree(2, 8)", x.isFree(2, 8));
        Checks.dueFalse("isFree(2, 9)", x.isFree(2, 9));
        Checks.dueFalse("isFree(2, 11)", x.isFree(2, 11));
        x.rehearse(1, 5, 0);
        Checks.dueFalse("in a service, isFree(0, 5)", x.isFree(0, 5));
        Checks.dueTrue("the slot before, isFree(0, 4)", x.isFree(0, 4));
        Checks.dueTrue("the slot behind, isFree(0, 6)", x.isFree(0, 6));
        Checks.dueTrue("not in the service, isFree(2, 5)", x.isFree(2, 5));
        x.cancel(0);
        Checks.dueTrue("the service is gone, isFree(0, 5)", x.isFree(0, 5));
    }

    private static void noSuchPlayerOrSlot() {
        OrchestraSeason x = Texts.season(TEXT);
        for (int player : new int[] {-1, 3, LEAST, MOST}) {
            Checks.outOfBounds("isFree(" + player + ", 0)", () -> x.isFree(player, 0) ? 1 : 0);
        }
        for (int slot : new int[] {-1, 12, LEAST, MOST}) {
            Checks.outOfBounds("isFree(0, " + slot + ")", () -> x.isFree(0, slot) ? 1 : 0);
        }
        Checks.outOfBounds("isFree(3, 12)", () -> x.isFree(3, 12) ? 1 : 0);
        OrchestraSeason y = Texts.season("days 1;player p 0 0 x;");
        Checks.dueTrue("the last slot of one day, isFree(0, 2)", y.isFree(0, 2));
        Checks.outOfBounds("isFree(0, 3)", () -> y.isFree(0, 3) ? 1 : 0);
        OrchestraSeason z = Texts.season("days 30;player p 0 0 x;");
        Checks.dueTrue("the last slot of thirty days, isFree(0, 89)", z.isFree(0, 89));
        Checks.outOfBounds("isFree(0, 90)", () -> z.isFree(0, 90) ? 1 : 0);
    }

    // ---- promise 10

    private static void works(OrchestraSeason x, int work, int... due) {
        for (int what = 0; what < due.length; what++) {
            Checks.due("work(" + work + ", " + what + ")", due[what], x.work(work, what));
        }
    }

    private static void propertiesOfWorks() {
        OrchestraSeason x = Texts.season(TEXT);
        works(x, 0, 0, 0, 3, 999, 2, 0, 0, 0);
        works(x, 1, 9, 1, 2, 0, 6, 0, 0, 0);
        OrchestraSeason y = Texts.season("days 30;hall a 0;player p 0 0 x;work v 0 0 29 3 x;work w 0 0 29 5 x x;"
                + "work u 0 0 29 7 x;");
        for (int slot = 0; slot < 10; slot++) {
            y.rehearse(0, 3 * slot, 0);
            y.concert(0, 3 * slot + 1, slot < 5 ? 5 : 1);
        }
        works(y, 0, 0, 0, 29, 3, 1, 10, 10, 30);
        works(y, 1, 0, 0, 29, 5, 2, 0, 0, 0);
        works(y, 2, 0, 0, 29, 7, 1, 0, 5, 35);
        y.move(18, 89);
        works(y, 0, 0, 0, 29, 3, 1, 10, 10, 90);
        y.cancel(0);
        works(y, 0, 0, 0, 29, 3, 1, 9, 10, 90);
        y.cancel(0);
        works(y, 0, 0, 0, 29, 3, 1, 9, 9, 87);
        works(y, 2, 0, 0, 29, 7, 1, 0, 4, 28);
    }

    private static void noSuchWork() {
        OrchestraSeason x = Texts.season(TEXT);
        for (int work : new int[] {-1, 2, 5, LEAST, MOST}) {
            Checks.outOfBounds("work(" + work + ", 0)", () -> x.work(work, 0));
            Checks.outOfBounds("work(" + work + ", 8)", () -> x.work(work, 8));
            Checks.outOfBounds("work(" + work + ", -1)", () -> x.work(work, -1));
        }
    }

    private static void noSuchPropertyOfWorks() {
        OrchestraSeason x = Texts.season(TEXT);
        for (int what : new int[] {-1, 8, LEAST, MOST}) {
            Checks.badArgument("work(0, " + what + ")", () -> x.work(0, what));
            Checks.badArgument("work(1, " + what + ")", () -> x.work(1, what));
        }
    }

    // ---- promise 11

    private static void seats() {
        OrchestraSeason x = Texts.season(TEXT);
        Checks.due("the first seat, seat(0, 0)", 0, x.seat(0, 0));
        Checks.due("the last of two, seat(0, 1)", 1, x.seat(0, 1));
        Checks.due("seat(1, 0)", 0, x.seat(1, 0));
        Checks.due("the last of six, seat(1, 5)", 2, x.seat(1, 5));
    }

    private static void noSuchSeat() {
        OrchestraSeason x = Texts.season(TEXT);
        for (int seat : new int[] {-1, 2, 5, 6, LEAST, MOST}) {
            Checks.outOfBounds("seat(0, " + seat + ")", () -> x.seat(0, seat));
        }
        for (int seat : new int[] {-1, 6, 7}) {
            Checks.outOfBounds("seat(1, " + seat + ")", () -> x.seat(1, seat));
        }
        for (int work : new int[] {-1, 2, 5, LEAST, MOST}) {
            Checks.outOfBounds("seat(" + work + ", 0)", () -> x.seat(work, 0));
        }
    }
}
