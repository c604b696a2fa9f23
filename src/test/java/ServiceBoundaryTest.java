/** Promises 9 and 12 to 15, the sentences on services and casts that name a boundary case. */
final class ServiceBoundaryTest {
    private static final int LEAST = Integer.MIN_VALUE;
    private static final int MOST = Integer.MAX_VALUE;
    /** Three halls and four players; works w of one seat, v of two, u of one and t of three. */
    private static final String TEXT = "days 3;hall a 0;hall b 0;hall c 0;player p 0 0 x y;player q 0 0 y x;"
            + "player r 0 0 x;player s 0 0 z x;work w 0 0 2 0 x;work v 0 0 2 0 y x;work u 0 0 2 0 z;"
            + "work t 0 0 2 0 x x x;double 1;";

    private ServiceBoundaryTest() {
    }

    static void run() {
        services();
        casts();
        promise12();
        promise13();
        promise14();
        promise15();
    }

    private static void services() {
        Sentences.test(9, "Each day has three slots: slot s is on day s / 3.", ServiceBoundaryTest::threeSlotsADay);
        Sentences.test(9, "A player is free at a slot if not absent on its day", ServiceBoundaryTest::absentAllDay);
        Sentences.test(9, "and in no service at this slot.", ServiceBoundaryTest::inNoServiceAtThisSlot);
        Sentences.test(12, "is either a rehearsal of one work or a concert of 1 to 3 works.",
                ServiceBoundaryTest::worksOfServices);
        Sentences.test(12, "There are at most 20 services", ServiceBoundaryTest::twentyServices);
        Sentences.test(12, "they are numbered by their slots, those of one slot by their halls.",
                ServiceBoundaryTest::numbersOfServices);
        Sentences.test(12, "At first there are none.", ServiceBoundaryTest::noServicesAtFirst);
        Sentences.test(12, "A set of works is told as bits: bit w for work w.", ServiceBoundaryTest::worksAsBits);
        Sentences.test(12, "A player is in a service if in the cast of one of its works.",
                ServiceBoundaryTest::playersOfServices);
    }

    private static void casts() {
        Sentences.test(15, "A cast of a work at a slot gives each seat a player who is free",
                ServiceBoundaryTest::freePlayersAlone);
        Sentences.test(15, "plays the instrument and has no other seat of this work.",
                ServiceBoundaryTest::onePlayerForEachSeat);
        Sentences.test(15, "A seat is a doubling if its instrument is not the main one of its player.",
                ServiceBoundaryTest::doublings);
        Sentences.test(13, "The cast of a work in a service is the one with the fewest doublings",
                ServiceBoundaryTest::fewestDoublingsComeFirst);
        Sentences.test(13, "of several it is the first one: they are compared by the player of seat 0, then by that of "
                + "seat 1, and so on.", ServiceBoundaryTest::firstOfSeveral);
        Sentences.test(13, "(Works of one concert are cast each by itself; a player can be in several of them.)",
                ServiceBoundaryTest::worksCastByThemselves);
        Sentences.test(13, "A cast is found when the service comes, moves or is cast anew",
                ServiceBoundaryTest::castFound);
        Sentences.test(13, "and stays so otherwise.", ServiceBoundaryTest::castStays);
    }

    private static void promise12() {
        Sentences.test(12, "`what`: 0 its slot, 1 its hall, 2 1 if it is a concert, 0 if not, 3 its works as bits, 4 the "
                + "players who are in it, as bits, 5 the number of its doublings",
                ServiceBoundaryTest::propertiesOfServices);
        Sentences.test(12, "Throws `IndexOutOfBoundsException` if there is no such service (checked first)",
                ServiceBoundaryTest::noSuchService);
        Sentences.test(12, "Throws `IllegalArgumentException` if what is out of range",
                ServiceBoundaryTest::noSuchProperty);
    }

    private static void promise13() {
        Sentences.test(13, "Returns the player; NONE if the work is not one of the service.",
                ServiceBoundaryTest::workOfAnotherService);
        Sentences.test(13, "Throws `IndexOutOfBoundsException` if there is no such service, work or seat",
                ServiceBoundaryTest::noSuchSeat);
    }

    private static void promise14() {
        Sentences.test(14, "Returns the service; NONE if there is none.", ServiceBoundaryTest::serviceOrNone);
        Sentences.test(14, "Throws `IndexOutOfBoundsException` if there is no such hall or slot",
                ServiceBoundaryTest::noSuchHallOrSlot);
    }

    private static void promise15() {
        Sentences.test(15, "Returns the number of doublings; NONE if there is no cast.",
                ServiceBoundaryTest::doublingsOrNone);
        Sentences.test(15, "Throws `IndexOutOfBoundsException` if there is no such work or slot",
                ServiceBoundaryTest::noSuchWorkOrSlot);
    }

    private static void service(OrchestraSeason x, int service, int... due) {
        for (int what = 0; what < due.length; what++) {
            Checks.due("service(" + service + ", " + what + ")", due[what], x.service(service, what));
        }
    }

    private static void cast(OrchestraSeason x, int service, int work, int... due) {
        for (int seat = 0; seat < due.length; seat++) {
            String call = "cast(" + service + ", " + work + ", " + seat + ")";
            Checks.due(call, due[seat], x.cast(service, work, seat));
        }
    }

    /** What a work's cast is in the first service of a new season with the players and the work that are told. */
    private static OrchestraSeason rehearsed(String text) {
        OrchestraSeason x = Texts.season("days 1;hall a 0;" + text);
        x.rehearse(0, 0, 0);
        return x;
    }

    // ---- services

    private static void threeSlotsADay() {
        OrchestraSeason x = Texts.season("days 2;hall a 0;player p 0 0 x;absent p 0;work w 0 1 1 5 x;work v 0 0 0 7 x;");
        boolean[] isFree = {false, false, false, true, true, true};
        int[] reasons = {2, 2, 2, 0, 0, 0};
        int[] others = {5, 5, 5, 2, 2, 2};
        for (int slot = 0; slot < 6; slot++) {
            Checks.due("isFree(0, " + slot + ")", isFree[slot] ? 1 : 0, x.isFree(0, slot) ? 1 : 0);
            Checks.due("whyNot(0, " + slot + ", 1, false)", reasons[slot], x.whyNot(0, slot, 1, false));
            Checks.due("whyNot(0, " + slot + ", 2, false)", others[slot], x.whyNot(0, slot, 2, false));
        }
        Checks.outOfBounds("serviceAt(0, 6)", () -> x.serviceAt(0, 6));
        OrchestraSeason y = Texts.season("days 30;hall a 0;player p 0 0 x;work w 0 0 29 5 x;");
        Checks.due("serviceAt(0, 89)", -1, y.serviceAt(0, 89));
        Checks.outOfBounds("serviceAt(0, 90)", () -> y.serviceAt(0, 90));
        y.rehearse(0, 2, 0);
        Checks.due("one day, work(0, 7)", 5, y.work(0, 7));
        y.rehearse(0, 3, 0);
        Checks.due("two days, work(0, 7)", 10, y.work(0, 7));
        y.rehearse(0, 5, 0);
        Checks.due("the last slot of the second day, work(0, 7)", 10, y.work(0, 7));
        y.rehearse(0, 6, 0);
        Checks.due("three days, work(0, 7)", 15, y.work(0, 7));
    }

    private static void absentAllDay() {
        OrchestraSeason x = Texts.season("days 30;player p 0 0 x;player q 0 0 x;absent p 0;absent p 29;absent q 15;");
        for (int slot = 0; slot < 90; slot++) {
            Checks.due("isFree(0, " + slot + ")", slot < 3 || slot > 86 ? 0 : 1, x.isFree(0, slot) ? 1 : 0);
            Checks.due("isFree(1, " + slot + ")", slot >= 45 && slot < 48 ? 0 : 1, x.isFree(1, slot) ? 1 : 0);
        }
    }

    private static void inNoServiceAtThisSlot() {
        OrchestraSeason x = Texts.season(TEXT);
        x.rehearse(1, 4, 1);
        int[] free = {0, 0, 1, 1};
        for (int player = 0; player < 4; player++) {
            Checks.due("isFree(" + player + ", 4)", free[player], x.isFree(player, 4) ? 1 : 0);
            Checks.dueTrue("isFree(" + player + ", 3)", x.isFree(player, 3));
            Checks.dueTrue("isFree(" + player + ", 5)", x.isFree(player, 5));
        }
        x.concert(0, 4, 5);
        Checks.dueFalse("in a concert, isFree(2, 4)", x.isFree(2, 4));
        Checks.dueFalse("in its other work, isFree(3, 4)", x.isFree(3, 4));
    }

    private static void worksOfServices() {
        OrchestraSeason x = Texts.season("days 3;hall a 0;player p 0 0 x;work e 0 0 2 0 x;work d 0 0 2 0 x;"
                + "work c 0 0 2 0 x;work b 0 0 2 0 x;work a 0 0 2 0 x;");
        int[] sets = {1, 16, 3, 17, 7, 28, 21};
        for (int slot = 0; slot < sets.length; slot++) {
            Checks.due("concert(0, " + slot + ", " + sets[slot] + ")", slot, x.concert(0, slot, sets[slot]));
            service(x, slot, slot, 0, 1, sets[slot], 1, 0);
        }
        for (int set : new int[] {0, 15, 30, 31}) {
            Checks.badArgument("concert(0, 8, " + set + ")", () -> x.concert(0, 8, set));
        }
        Checks.due("rehearse(0, 8, 4)", 7, x.rehearse(0, 8, 4));
        service(x, 7, 8, 0, 0, 16, 1, 0);
    }

    private static void twentyServices() {
        OrchestraSeason x = Texts.season("days 7;hall a 0;player p 0 0 x;work w 0 0 6 0 x;");
        for (int slot = 0; slot < 20; slot++) {
            Checks.due("rehearse(0, " + slot + ", 0)", slot, x.rehearse(0, slot, 0));
        }
        Checks.badState("a twenty-first rehearsal", () -> x.rehearse(0, 20, 0));
        Checks.badState("a twenty-first concert", () -> x.concert(0, 20, 1));
        Checks.due("size(5)", 20, x.size(5));
        service(x, 19, 19, 0, 0, 1, 1, 0);
        Checks.due("serviceAt(0, 20)", -1, x.serviceAt(0, 20));
        Checks.due("cancel(19)", 19, x.cancel(19));
        Checks.due("rehearse(0, 20, 0)", 19, x.rehearse(0, 20, 0));
        Checks.badState("a twenty-first again", () -> x.rehearse(0, 19, 0));
    }

    private static void numbersOfServices() {
        OrchestraSeason x = Texts.season(TEXT);
        Checks.due("rehearse(1, 4, 0)", 0, x.rehearse(1, 4, 0));
        Checks.due("the slot before in a later hall", 0, x.rehearse(2, 3, 0));
        Checks.due("the slot behind in an earlier hall", 2, x.rehearse(0, 5, 0));
        Checks.due("the same slot in a later hall", 2, x.rehearse(2, 4, 0));
        Checks.due("the same slot in an earlier hall", 1, x.rehearse(0, 4, 2));
        Checks.due("the first slot", 0, x.rehearse(2, 0, 0));
        Checks.due("the last slot", 6, x.rehearse(0, 8, 0));
        int[] slots = {0, 3, 4, 4, 4, 5, 8};
        int[] halls = {2, 2, 0, 1, 2, 0, 0};
        for (int i = 0; i < slots.length; i++) {
            service(x, i, slots[i], halls[i]);
            Checks.due("serviceAt(" + halls[i] + ", " + slots[i] + ")", i, x.serviceAt(halls[i], slots[i]));
        }
        Checks.due("cancel(2)", 6, x.cancel(2));
        Checks.due("the numbers behind it, serviceAt(2, 4)", 3, x.serviceAt(2, 4));
        Checks.due("the numbers before it, serviceAt(2, 3)", 1, x.serviceAt(2, 3));
        Checks.due("move(0, 4) in hall 2 is not", 3, x.whyNotMove(0, 4));
        Checks.due("move(1, 6)", 4, x.move(1, 6));
        service(x, 1, 4, 1);
        service(x, 4, 6, 2);
    }

    private static void noServicesAtFirst() {
        OrchestraSeason x = Texts.season(TEXT);
        Checks.due("size(5)", 0, x.size(5));
        Checks.outOfBounds("service(0, 0)", () -> x.service(0, 0));
        for (int hall = 0; hall < 3; hall++) {
            for (int slot = 0; slot < 9; slot++) {
                Checks.due("serviceAt(" + hall + ", " + slot + ")", -1, x.serviceAt(hall, slot));
            }
        }
        x.rehearse(0, 0, 0);
        Texts.parse(x, TEXT);
        Checks.due("size(5) after the next text", 0, x.size(5));
        Checks.due("serviceAt(0, 0) after the next text", -1, x.serviceAt(0, 0));
    }

    private static void worksAsBits() {
        OrchestraSeason x = Texts.season(TEXT);
        for (int work = 0; work < 4; work++) {
            int slot = 2 * work;
            x.rehearse(0, slot, work);
            x.concert(0, slot + 1, 1 << work);
            service(x, slot, slot, 0, 0, 1 << work);
            service(x, slot + 1, slot + 1, 0, 1, 1 << work);
            Checks.due("work(" + work + ", 5)", 1, x.work(work, 5));
            Checks.due("work(" + work + ", 6)", 1, x.work(work, 6));
        }
        Checks.badArgument("bit 4", () -> x.whyNot(0, 8, 16, true));
        Checks.badArgument("bit 31", () -> x.whyNot(0, 8, LEAST, true));
    }

    private static void playersOfServices() {
        OrchestraSeason x = Texts.season(TEXT);
        x.concert(0, 0, 7);
        service(x, 0, 0, 0, 1, 7, 1 + 2 + 8, 0);
        int[] services = {1, 1, 0, 1};
        for (int player = 0; player < 4; player++) {
            Checks.due("player(" + player + ", 4)", services[player], x.player(player, 4));
        }
        x.rehearse(1, 0, 0);
        service(x, 1, 0, 1, 0, 1, 4, 0);
        Checks.due("player(2, 4)", 1, x.player(2, 4));
        OrchestraSeason y = Texts.season("days 1;hall a 0;player a 0 0 x;player b 0 0 x;player c 0 0 x;player d 0 0 x;"
                + "player e 0 0 y;player f 0 0 y;player g 0 0 y;player h 0 0 y;work w 0 0 0 0 x x x x;"
                + "work v 0 0 0 0 y y y y;");
        y.concert(0, 0, 3);
        service(y, 0, 0, 0, 1, 3, 255, 0);
    }

    // ---- casts

    private static void freePlayersAlone() {
        OrchestraSeason x = Texts.season("days 2;hall a 0;hall b 0;player p 0 0 x;player q 0 0 y x;absent q 1;"
                + "work w 0 0 1 0 x;work v 0 0 1 0 x x;");
        Checks.due("fewestDoublings(0, 2)", 0, x.fewestDoublings(0, 2));
        Checks.due("fewestDoublings(1, 2)", 1, x.fewestDoublings(1, 2));
        Checks.due("one is absent, fewestDoublings(1, 3)", -1, x.fewestDoublings(1, 3));
        x.rehearse(0, 2, 0);
        Checks.due("one is in a service, fewestDoublings(0, 2)", 1, x.fewestDoublings(0, 2));
        Checks.due("one is in a service, fewestDoublings(1, 2)", -1, x.fewestDoublings(1, 2));
        Checks.due("the slot before, fewestDoublings(1, 1)", 1, x.fewestDoublings(1, 1));
        x.rehearse(1, 2, 0);
        cast(x, 1, 0, 1);
        Checks.due("both are in services, fewestDoublings(0, 2)", -1, x.fewestDoublings(0, 2));
        x.rehearse(0, 3, 0);
        Checks.due("absent or in a service, fewestDoublings(0, 3)", -1, x.fewestDoublings(0, 3));
    }

    private static void onePlayerForEachSeat() {
        OrchestraSeason x = Texts.season("days 1;player p 0 0 x y;player q 0 0 z;work a 0 0 0 0 x y;work b 0 0 0 0 x;"
                + "work c 0 0 0 0 y z;work d 0 0 0 0 z z;work e 0 0 0 0 x z y;");
        int[] due = {-1, 0, 1, -1, -1};
        for (int work = 0; work < due.length; work++) {
            Checks.due("fewestDoublings(" + work + ", 0)", due[work], x.fewestDoublings(work, 0));
        }
        String six = "player a 0 0 x;player b 0 0 x;player c 0 0 x;player d 0 0 x;player e 0 0 x;";
        OrchestraSeason y = Texts.season("days 1;" + six + "work w 0 0 0 0 x x x x x x;");
        Checks.due("five players for six seats", -1, y.fewestDoublings(0, 0));
        OrchestraSeason z = Texts.season("days 1;hall a 0;" + six + "player f 0 0 x;work w 0 0 0 0 x x x x x x;");
        Checks.due("six players for six seats", 0, z.fewestDoublings(0, 0));
        z.rehearse(0, 0, 0);
        cast(z, 0, 0, 0, 1, 2, 3, 4, 5);
    }

    private static void doublings() {
        OrchestraSeason x = rehearsed("player p 0 0 x a b c;player q 0 0 a;work w 0 0 0 0 c;work v 0 0 0 0 x;"
                + "work u 0 0 0 0 a;work t 0 0 0 0 b;double 1;");
        int[] due = {1, 0, 0, 1};
        for (int work = 0; work < due.length; work++) {
            Checks.due("fewestDoublings(" + work + ", 1)", due[work], x.fewestDoublings(work, 1));
        }
        service(x, 0, 0, 0, 0, 1, 1, 1);
        OrchestraSeason y = rehearsed("player a 0 0 y x;player b 0 0 y x;player c 0 0 y x;player d 0 0 y x;"
                + "player e 0 0 y x;player f 0 0 y x;work w 0 0 0 0 x x x x x x;");
        Checks.due("six doublings", 6, y.fewestDoublings(0, 1));
        Checks.due("six doublings, service(0, 5)", 6, y.service(0, 5));
    }

    private static void fewestDoublingsComeFirst() {
        OrchestraSeason one = rehearsed("player p 0 0 y x;player q 0 0 x;work w 0 0 0 0 x;");
        cast(one, 0, 0, 1);
        OrchestraSeason two = rehearsed("player p 0 0 x y;player q 0 0 y x;work w 0 0 0 0 y x;");
        cast(two, 0, 0, 1, 0);
        OrchestraSeason chain = rehearsed("player p 0 0 x y;player q 0 0 y z;player r 0 0 z x;work w 0 0 0 0 z x y;");
        cast(chain, 0, 0, 2, 0, 1);
        service(chain, 0, 0, 0, 0, 1, 7, 0);
        OrchestraSeason forced = rehearsed("player p 0 0 x y;player q 0 0 x;work w 0 0 0 0 x y;");
        cast(forced, 0, 0, 1, 0);
        OrchestraSeason saved = rehearsed("player p 0 0 x y;player q 0 0 z x;player r 0 0 y z;player s 0 0 q y;"
                + "work w 0 0 0 0 x y z;");
        cast(saved, 0, 0, 0, 2, 1);
        Checks.due("service(0, 5)", 0, saved.service(0, 5));
        OrchestraSeason last = rehearsed("player a 0 0 y x;player b 0 0 y x;player c 0 0 x;player d 0 0 y x;"
                + "player e 0 0 x;player f 0 0 x;player g 0 0 y x;player h 0 0 x;work w 0 0 0 0 x x x x x x;");
        cast(last, 0, 0, 0, 1, 2, 4, 5, 7);
        Checks.due("service(0, 5)", 2, last.service(0, 5));
    }

    private static void firstOfSeveral() {
        OrchestraSeason all = rehearsed("player p 0 0 x;player q 0 0 x;player r 0 0 x;work w 0 0 0 0 x x;");
        cast(all, 0, 0, 0, 1);
        OrchestraSeason seatNought = rehearsed("player p 0 0 x;player q 0 0 x y;player r 0 0 y;work w 0 0 0 0 y x;");
        cast(seatNought, 0, 0, 2, 0);
        OrchestraSeason seatOne = rehearsed("player p 0 0 z;player q 0 0 y x;player r 0 0 y x;player s 0 0 x;"
                + "work w 0 0 0 0 z x x;");
        cast(seatOne, 0, 0, 0, 1, 3);
        OrchestraSeason sameCount = rehearsed("player p 0 0 a x y;player q 0 0 y;player r 0 0 x;work w 0 0 0 0 x y;");
        cast(sameCount, 0, 0, 2, 1);
        OrchestraSeason doubler = rehearsed("player p 0 0 a x y;player q 0 0 y;player r 0 0 b x;work w 0 0 0 0 x y;");
        cast(doubler, 0, 0, 0, 1);
        OrchestraSeason lastSeats = rehearsed("player p 0 0 x;player q 0 0 y;player r 0 0 a z;player s 0 0 a z;"
                + "player t 0 0 z;player u 0 0 z;work w 0 0 0 0 x y z z z;");
        cast(lastSeats, 0, 0, 0, 1, 2, 4, 5);
        OrchestraSeason freed = rehearsed("player p 0 0 x y;player q 0 0 x;player r 0 0 y;player s 0 0 y x;"
                + "work w 0 0 0 0 x y x;");
        cast(freed, 0, 0, 0, 2, 1);
    }

    private static void worksCastByThemselves() {
        OrchestraSeason x = Texts.season("days 1;hall a 0;hall b 0;player p 0 0 x;player q 0 0 y x;work w 0 0 0 0 x;"
                + "work v 0 0 0 0 x;work u 0 0 0 0 x x;");
        Checks.due("whyNot(0, 0, 7, true)", 0, x.whyNot(0, 0, 7, true));
        x.concert(0, 0, 7);
        cast(x, 0, 0, 0);
        cast(x, 0, 1, 0);
        cast(x, 0, 2, 0, 1);
        service(x, 0, 0, 0, 1, 7, 3, 1);
        Checks.due("two services of one slot share nobody", 5, x.whyNot(1, 0, 1, false));
    }

    private static OrchestraSeason withSecondChoice() {
        OrchestraSeason x = Texts.season(TEXT);
        x.rehearse(0, 4, 0);
        x.rehearse(1, 4, 0);
        cast(x, 0, 0, 0);
        cast(x, 1, 0, 2);
        return x;
    }

    private static void castFound() {
        OrchestraSeason moved = withSecondChoice();
        moved.move(1, 5);
        cast(moved, 1, 0, 0);
        moved.move(1, 4);
        cast(moved, 1, 0, 2);
        OrchestraSeason anew = withSecondChoice();
        anew.cancel(0);
        cast(anew, 0, 0, 2);
        anew.recast(0);
        cast(anew, 0, 0, 0);
        OrchestraSeason own = withSecondChoice();
        own.cancel(0);
        own.move(0, 4);
        cast(own, 0, 0, 0);
        OrchestraSeason came = withSecondChoice();
        came.rehearse(2, 4, 0);
        cast(came, 2, 0, 1);
    }

    private static void castStays() {
        OrchestraSeason x = withSecondChoice();
        x.cancel(0);
        cast(x, 0, 0, 2);
        x.rehearse(2, 4, 1);
        cast(x, 0, 0, 2);
        x.move(1, 3);
        x.recast(0);
        cast(x, 1, 0, 2);
        x.setContract(0, 7);
        x.costsWith(0, 4, 1, false);
        x.whyNotMove(1, 5);
        x.earliest(0, 0, 1, true);
        x.saveSnapshot(0);
        x.restoreSnapshot(0);
        x.cancel(0);
        x.undo();
        cast(x, 1, 0, 2);
        Checks.badState("a refused change", () -> x.rehearse(1, 4, 0));
        cast(x, 1, 0, 2);
    }

    // ---- promise 12

    private static void propertiesOfServices() {
        OrchestraSeason x = Texts.season(TEXT);
        x.rehearse(2, 8, 0);
        x.concert(0, 0, 14);
        service(x, 0, 0, 0, 1, 14, 15, 1);
        service(x, 1, 8, 2, 0, 1, 1, 0);
        OrchestraSeason y = Texts.season("days 1;hall a 0;player a 0 0 y x;player b 0 0 y x;player c 0 0 y x;"
                + "player d 0 0 y x;player e 0 0 y x;player f 0 0 y x;work w 0 0 0 0 x x x x x x;"
                + "work v 0 0 0 0 x x x x x x;work u 0 0 0 0 x x x x x x;");
        y.concert(0, 0, 7);
        service(y, 0, 0, 0, 1, 7, 63, 18);
    }

    private static void noSuchService() {
        OrchestraSeason x = Texts.season(TEXT);
        x.rehearse(0, 0, 0);
        for (int service : new int[] {-1, 1, 20, LEAST, MOST}) {
            Checks.outOfBounds("service(" + service + ", 0)", () -> x.service(service, 0));
            Checks.outOfBounds("service(" + service + ", 6)", () -> x.service(service, 6));
            Checks.outOfBounds("service(" + service + ", -1)", () -> x.service(service, -1));
        }
        x.cancel(0);
        Checks.outOfBounds("service(0, 0)", () -> x.service(0, 0));
    }

    private static void noSuchProperty() {
        OrchestraSeason x = Texts.season(TEXT);
        x.rehearse(0, 0, 0);
        for (int what : new int[] {-1, 6, LEAST, MOST}) {
            Checks.badArgument("service(0, " + what + ")", () -> x.service(0, what));
        }
    }

    // ---- promise 13

    private static void workOfAnotherService() {
        OrchestraSeason x = Texts.season(TEXT);
        x.rehearse(0, 0, 1);
        x.concert(0, 1, 9);
        cast(x, 0, 1, 1, 0);
        cast(x, 0, 0, -1);
        cast(x, 0, 2, -1);
        cast(x, 0, 3, -1, -1, -1);
        cast(x, 1, 0, 0);
        cast(x, 1, 3, 0, 1, 2);
        cast(x, 1, 1, -1, -1);
        cast(x, 1, 2, -1);
        x.cancel(0);
        cast(x, 0, 1, -1, -1);
        cast(x, 0, 3, 0, 1, 2);
    }

    private static void noSuchSeat() {
        OrchestraSeason x = Texts.season(TEXT);
        x.rehearse(0, 0, 1);
        for (int wrong : new int[] {-1, 5, LEAST, MOST}) {
            Checks.outOfBounds("cast(" + wrong + ", 0, 0)", () -> x.cast(wrong, 0, 0));
            Checks.outOfBounds("cast(0, " + wrong + ", 0)", () -> x.cast(0, wrong, 0));
            Checks.outOfBounds("cast(0, 1, " + wrong + ")", () -> x.cast(0, 1, wrong));
        }
        Checks.outOfBounds("cast(1, 1, 0)", () -> x.cast(1, 1, 0));
        Checks.outOfBounds("cast(0, 4, 0)", () -> x.cast(0, 4, 0));
        Checks.outOfBounds("cast(0, 1, 2)", () -> x.cast(0, 1, 2));
        Checks.outOfBounds("a seat that another work has, cast(0, 0, 1)", () -> x.cast(0, 0, 1));
        Checks.due("a seat of a work that is not in it, cast(0, 3, 2)", -1, x.cast(0, 3, 2));
    }

    // ---- promise 14

    private static void serviceOrNone() {
        OrchestraSeason x = Texts.season(TEXT);
        x.rehearse(0, 0, 0);
        x.rehearse(2, 8, 0);
        Checks.due("serviceAt(0, 0)", 0, x.serviceAt(0, 0));
        Checks.due("serviceAt(2, 8)", 1, x.serviceAt(2, 8));
        Checks.due("another hall, serviceAt(1, 0)", -1, x.serviceAt(1, 0));
        Checks.due("another slot, serviceAt(0, 1)", -1, x.serviceAt(0, 1));
        Checks.due("serviceAt(2, 0)", -1, x.serviceAt(2, 0));
        Checks.due("serviceAt(0, 8)", -1, x.serviceAt(0, 8));
        x.cancel(1);
        Checks.due("a service that is gone, serviceAt(2, 8)", -1, x.serviceAt(2, 8));
    }

    private static void noSuchHallOrSlot() {
        OrchestraSeason x = Texts.season(TEXT);
        for (int hall : new int[] {-1, 3, LEAST, MOST}) {
            Checks.outOfBounds("serviceAt(" + hall + ", 0)", () -> x.serviceAt(hall, 0));
        }
        for (int slot : new int[] {-1, 9, LEAST, MOST}) {
            Checks.outOfBounds("serviceAt(0, " + slot + ")", () -> x.serviceAt(0, slot));
        }
    }

    // ---- promise 15

    private static void doublingsOrNone() {
        OrchestraSeason x = Texts.season(TEXT);
        int[] due = {0, 0, 0, 1};
        for (int work = 0; work < due.length; work++) {
            Checks.due("fewestDoublings(" + work + ", 8)", due[work], x.fewestDoublings(work, 8));
        }
        x.rehearse(0, 8, 0);
        Checks.due("fewestDoublings(1, 8)", 0, x.fewestDoublings(1, 8));
        Checks.due("fewestDoublings(3, 8)", 2, x.fewestDoublings(3, 8));
        x.rehearse(1, 8, 0);
        Checks.due("fewestDoublings(1, 8)", 1, x.fewestDoublings(1, 8));
        Checks.due("fewestDoublings(3, 8)", -1, x.fewestDoublings(3, 8));
        OrchestraSeason y = Texts.season("days 3;player p 0 0 x;work w 9 1 1 0 x;");
        Checks.due("a slot before its first day", 0, y.fewestDoublings(0, 0));
        Checks.due("a slot behind its last day", 0, y.fewestDoublings(0, 8));
    }

    private static void noSuchWorkOrSlot() {
        OrchestraSeason x = Texts.season(TEXT);
        for (int work : new int[] {-1, 4, 5, LEAST, MOST}) {
            Checks.outOfBounds("fewestDoublings(" + work + ", 0)", () -> x.fewestDoublings(work, 0));
        }
        for (int slot : new int[] {-1, 9, LEAST, MOST}) {
            Checks.outOfBounds("fewestDoublings(0, " + slot + ")", () -> x.fewestDoublings(0, slot));
        }
    }
}
