/** Promises 12 to 18: services, casts, and the reasons why a service cannot be. */
final class ServiceTest {
    /** Instruments: 0 violin, 1 oboe, 2 flute, 3 horn. */
    private static final String TEXT = "days 4;hall a 1;hall b 0;hall c 3;player p 2 50 violin;"
            + "player q 1 30 oboe flute;player r 0 10 flute oboe;player s 3 5 horn violin oboe flute;"
            + "work v 1 0 2 5 violin oboe;work w 0 1 3 7 flute;work y 2 0 3 1 horn;work z 0 0 3 1 violin violin violin;"
            + "double 20;absent r 0;absent s 3;";

    private ServiceTest() {
    }

    static void run() {
        promise12Service();
        promise12Numbers();
        promise13Cast();
        castWithFewestDoublings();
        firstCastOfSeveral();
        worksOfOneConcertAreCastEachByItself();
        promise14ServiceAt();
        promise15FewestDoublings();
        castsDoNotDependOnCastsBefore();
        promise16Order();
        promise16Days();
        promise16Halls();
        promise16Need();
        promise16Full();
        promise16Arguments();
        promise17Earliest();
        promise18WhyNotMove();
        promise18ConcertMoves();
        promise18AsIfItWasNotThere();
    }

    private static void services(OrchestraSeason x, int service, int... due) {
        for (int what = 0; what < due.length; what++) {
            Checks.due("service(" + service + ", " + what + ")", due[what], x.service(service, what));
        }
    }

    private static void casts(OrchestraSeason x, int service, int work, int... due) {
        for (int seat = 0; seat < due.length; seat++) {
            String call = "cast(" + service + ", " + work + ", " + seat + ")";
            Checks.due(call, due[seat], x.cast(service, work, seat));
        }
    }

    private static void promise12Service() {
        OrchestraSeason x = Texts.season(TEXT);
        Checks.outOfBounds("service(0, 0) without services", () -> x.service(0, 0));
        x.rehearse(1, 2, 0);
        services(x, 0, 2, 1, 0, 1, 3, 0);
        x.concert(1, 3, 3);
        services(x, 1, 3, 1, 1, 3, 7, 0);
        x.rehearse(0, 3, 1);
        services(x, 1, 3, 0, 0, 2, 8, 1);
        services(x, 2, 3, 1, 1, 3, 7, 0);
        Checks.badArgument("service(0, 6)", () -> x.service(0, 6));
        Checks.badArgument("service(0, -1)", () -> x.service(0, -1));
        Checks.outOfBounds("service(3, 0)", () -> x.service(3, 0));
        Checks.outOfBounds("service(-1, 0)", () -> x.service(-1, 0));
        Checks.outOfBounds("service(3, 6)", () -> x.service(3, 6));
    }

    private static void promise12Numbers() {
        OrchestraSeason x = Texts.season("days 2;hall a 0;hall b 0;hall c 0;player p 0 0 a;player q 0 0 a;"
                + "player r 0 0 a;work w 0 0 1 0 a;");
        Checks.due("the only one", 0, x.rehearse(1, 3, 0));
        Checks.due("of the same slot, hall 2", 1, x.rehearse(2, 3, 0));
        Checks.due("of the same slot, hall 0", 0, x.rehearse(0, 3, 0));
        Checks.due("of an earlier slot", 0, x.rehearse(2, 2, 0));
        Checks.due("of a later slot", 4, x.rehearse(0, 5, 0));
        services(x, 0, 2, 2);
        services(x, 1, 3, 0, 0, 1, 4);
        services(x, 2, 3, 1, 0, 1, 1);
        services(x, 3, 3, 2, 0, 1, 2);
        services(x, 4, 5, 0);
    }

    private static void promise13Cast() {
        OrchestraSeason x = Texts.season(TEXT);
        x.rehearse(1, 2, 0);
        x.concert(1, 3, 3);
        casts(x, 0, 0, 0, 1);
        casts(x, 0, 1, -1);
        casts(x, 0, 3, -1, -1, -1);
        casts(x, 1, 0, 0, 1);
        casts(x, 1, 1, 2);
        casts(x, 1, 2, -1);
        Checks.outOfBounds("cast(2, 0, 0)", () -> x.cast(2, 0, 0));
        Checks.outOfBounds("cast(-1, 0, 0)", () -> x.cast(-1, 0, 0));
        Checks.outOfBounds("cast(0, 4, 0)", () -> x.cast(0, 4, 0));
        Checks.outOfBounds("cast(0, -1, 0)", () -> x.cast(0, -1, 0));
        Checks.outOfBounds("cast(0, 0, 2)", () -> x.cast(0, 0, 2));
        Checks.outOfBounds("cast(0, 0, -1)", () -> x.cast(0, 0, -1));
        Checks.outOfBounds("cast(0, 1, 1), of a work that is not in it", () -> x.cast(0, 1, 1));
    }

    private static void castWithFewestDoublings() {
        OrchestraSeason x = Texts.season("days 1;hall a 0;player p 0 0 a b;player q 0 0 b a;player r 0 0 a c;"
                + "player s 0 0 c b;work w 0 0 0 0 b a;work v 0 0 0 0 a b c;work u 0 0 0 0 c b a a;double 1;");
        Checks.due("fewestDoublings(0, 0)", 0, x.fewestDoublings(0, 0));
        Checks.due("fewestDoublings(1, 0)", 0, x.fewestDoublings(1, 0));
        x.rehearse(0, 0, 0);
        casts(x, 0, 0, 1, 0);
        x.rehearse(0, 1, 1);
        casts(x, 1, 1, 0, 1, 3);
        x.rehearse(0, 2, 2);
        casts(x, 2, 2, 3, 1, 0, 2);
        OrchestraSeason y = Texts.season("days 1;hall a 0;player p 0 0 a b;player q 0 0 b;player r 0 0 c a;"
                + "work w 0 0 0 0 b b a;work v 0 0 0 0 a b;");
        Checks.due("two doublings in a chain", 2, y.fewestDoublings(0, 0));
        y.rehearse(0, 0, 0);
        casts(y, 0, 0, 0, 1, 2);
        Checks.due("its doublings", 2, y.service(0, 5));
        y.rehearse(0, 1, 1);
        casts(y, 1, 1, 0, 1);
    }

    private static void firstCastOfSeveral() {
        OrchestraSeason x = Texts.season("days 1;hall a 0;player p 0 0 b a c;player q 0 0 a;player r 0 0 c a;"
                + "player s 0 0 a;work w 0 0 0 0 a a;work v 0 0 0 0 c a;work u 0 0 0 0 a c;work t 0 0 0 0 a a a;");
        x.rehearse(0, 0, 0);
        casts(x, 0, 0, 1, 3);
        x.rehearse(0, 1, 1);
        casts(x, 1, 1, 2, 1);
        x.rehearse(0, 2, 3);
        casts(x, 2, 3, 0, 1, 3);
        Checks.due("service(2, 5)", 1, x.service(2, 5));
    }

    private static void worksOfOneConcertAreCastEachByItself() {
        OrchestraSeason x = Texts.season("days 1;hall a 0;hall b 0;player p 0 9 a b;player q 0 0 b;"
                + "work w 0 0 0 0 a;work v 0 0 0 0 a;work u 0 0 0 0 b a;work t 0 0 0 0 b;");
        Checks.due("three works that share a player", 0, x.concert(0, 0, 7));
        casts(x, 0, 0, 0);
        casts(x, 0, 1, 0);
        casts(x, 0, 2, 1, 0);
        services(x, 0, 0, 0, 1, 7, 3, 0);
        Checks.due("player(0, 4)", 1, x.player(0, 4));
        Checks.due("player(0, 7)", 9, x.player(0, 7));
    }

    private static void promise14ServiceAt() {
        OrchestraSeason x = Texts.season(TEXT);
        x.rehearse(1, 2, 0);
        x.rehearse(0, 3, 0);
        Checks.due("serviceAt(1, 2)", 0, x.serviceAt(1, 2));
        Checks.due("serviceAt(0, 3)", 1, x.serviceAt(0, 3));
        Checks.due("serviceAt(0, 2)", -1, x.serviceAt(0, 2));
        Checks.due("serviceAt(1, 3)", -1, x.serviceAt(1, 3));
        Checks.due("serviceAt(2, 11)", -1, x.serviceAt(2, 11));
        Checks.outOfBounds("serviceAt(3, 0)", () -> x.serviceAt(3, 0));
        Checks.outOfBounds("serviceAt(-1, 0)", () -> x.serviceAt(-1, 0));
        Checks.outOfBounds("serviceAt(0, 12)", () -> x.serviceAt(0, 12));
        Checks.outOfBounds("serviceAt(0, -1)", () -> x.serviceAt(0, -1));
    }

    private static void promise15FewestDoublings() {
        OrchestraSeason x = Texts.season(TEXT);
        Checks.due("without r, fewestDoublings(1, 0), before its first day", 1, x.fewestDoublings(1, 0));
        Checks.due("with r, fewestDoublings(1, 3)", 0, x.fewestDoublings(1, 3));
        Checks.due("without s, fewestDoublings(2, 9)", -1, x.fewestDoublings(2, 9));
        Checks.due("too few violins, fewestDoublings(3, 3)", -1, x.fewestDoublings(3, 3));
        x.rehearse(1, 3, 1);
        Checks.due("r is busy, fewestDoublings(1, 3)", 1, x.fewestDoublings(1, 3));
        x.rehearse(0, 3, 0);
        Checks.due("p, q and r are busy, fewestDoublings(0, 3)", -1, x.fewestDoublings(0, 3));
        Checks.due("s is left, fewestDoublings(1, 3)", 1, x.fewestDoublings(1, 3));
        Checks.due("s is left, fewestDoublings(2, 3)", 0, x.fewestDoublings(2, 3));
        Checks.outOfBounds("fewestDoublings(4, 0)", () -> x.fewestDoublings(4, 0));
        Checks.outOfBounds("fewestDoublings(-1, 0)", () -> x.fewestDoublings(-1, 0));
        Checks.outOfBounds("fewestDoublings(0, 12)", () -> x.fewestDoublings(0, 12));
        Checks.outOfBounds("fewestDoublings(0, -1)", () -> x.fewestDoublings(0, -1));
    }

    /** Promises 13 and 15: works of one to six seats, with and without casts, in every order of two of them. */
    private static void castsDoNotDependOnCastsBefore() {
        String text = "days 4;hall a 0;player p 0 0 x y z;player q 0 0 y x;player r 0 0 x z;player s 0 0 z y x;"
                + "player t 0 0 y;player u 0 0 x y;absent p 1;absent t 2;absent s 3;absent u 3;work v 0 0 3 0 x y x z y x;"
                + "work w 0 0 3 0 z z;work m 0 0 3 0 y y y;work n 0 0 3 0 z;work o 0 0 3 0 x x z y;";
        for (int before = 0; before < 20; before++) {
            OrchestraSeason used = Texts.season(text);
            for (int after = 0; after < 20; after++) {
                OrchestraSeason fresh = Texts.season(text);
                int work = after / 4;
                int slot = 3 * (after % 4);
                used.fewestDoublings(before / 4, 3 * (before % 4));
                String call = "(" + work + ", " + slot + ") after (" + before / 4 + ", " + 3 * (before % 4) + ")";
                int doublings = fresh.fewestDoublings(work, slot);
                Checks.due("fewestDoublings" + call, doublings, used.fewestDoublings(work, slot));
                used.fewestDoublings(before / 4, 3 * (before % 4));
                int reason = fresh.whyNot(0, slot, 1 << work, false);
                Checks.due("whyNot" + call, doublings == -1 ? 5 : 0, reason);
                Checks.due("whyNot of the used one" + call, reason, used.whyNot(0, slot, 1 << work, false));
                if (reason == 0) {
                    fresh.rehearse(0, slot, work);
                    used.rehearse(0, slot, work);
                    Checks.due("doublings" + call, doublings, used.service(0, 5));
                    for (int seat = 0; seat < fresh.work(work, 4); seat++) {
                        Checks.due("seat " + seat + " of" + call, fresh.cast(0, work, seat), used.cast(0, work, seat));
                    }
                    used.cancel(0);
                }
            }
        }
    }

    private static void promise16Order() {
        OrchestraSeason x = Texts.season(TEXT);
        x.rehearse(0, 9, 1);
        Checks.due("outside its days, hall taken, unrehearsed", 2, x.whyNot(0, 9, 1, true));
        Checks.due("hall taken, unrehearsed, without cast", 3, x.whyNot(0, 9, 4, true));
        Checks.due("unrehearsed, without cast", 4, x.whyNot(1, 9, 4, true));
        Checks.due("without cast", 5, x.whyNot(1, 9, 4, false));
        Checks.due("one work of two without cast", 5, x.whyNot(1, 9, 2 + 8, true));
        Checks.due("none", 0, x.whyNot(1, 9, 2, true));
        Checks.due("a rehearsal without earlier ones", 0, x.whyNot(1, 0, 4, false));
        Checks.due("whyNot changes nothing, size(5)", 1, x.size(5));
        Checks.due("whyNot is no change, size(7)", 1, x.size(7));
    }

    private static void promise16Days() {
        OrchestraSeason x = Texts.season(TEXT);
        Checks.due("last slot before the first day", 2, x.whyNot(0, 2, 2, false));
        Checks.due("first slot of the first day", 0, x.whyNot(0, 3, 2, false));
        Checks.due("last slot of the last day", 0, x.whyNot(0, 8, 1, false));
        Checks.due("first slot after the last day", 2, x.whyNot(0, 9, 1, false));
        Checks.due("the second of two works", 2, x.whyNot(0, 0, 3, true));
        Checks.due("the first of two works", 2, x.whyNot(0, 9, 3, true));
    }

    private static void promise16Halls() {
        OrchestraSeason x = Texts.season(TEXT);
        x.rehearse(0, 5, 2);
        int[] due = {0, 0, 0, 0, 3, 3, 3, 0, 0};
        for (int slot = 0; slot < due.length; slot++) {
            Checks.due("turn 1, slot " + slot, due[slot], x.whyNot(0, slot, 1, false));
        }
        x.rehearse(2, 4, 1);
        int[] turnThree = {0, 3, 3, 3, 3, 3, 3, 3, 0};
        for (int slot = 0; slot < turnThree.length; slot++) {
            Checks.due("turn 3, slot " + slot, turnThree[slot], x.whyNot(2, slot, 1, false));
        }
        x.rehearse(1, 7, 1);
        Checks.due("turn 0, the same slot", 3, x.whyNot(1, 7, 1, false));
        Checks.due("turn 0, the slot before", 0, x.whyNot(1, 6, 1, false));
        Checks.due("turn 0, the slot behind", 0, x.whyNot(1, 8, 1, false));
    }

    private static void promise16Need() {
        OrchestraSeason x = Texts.season(TEXT);
        Checks.due("need 2 without rehearsals", 4, x.whyNot(0, 8, 4, true));
        x.rehearse(0, 2, 2);
        Checks.due("need 2 with one", 4, x.whyNot(0, 8, 4, true));
        x.rehearse(1, 5, 2);
        Checks.due("need 2 with two, in other halls", 0, x.whyNot(0, 8, 4, true));
        Checks.due("need 2, one at the same slot", 4, x.whyNot(2, 5, 4, true));
        Checks.due("need 2, one later", 4, x.whyNot(2, 4, 4, true));
        Checks.due("the slot behind", 0, x.whyNot(2, 6, 4, true));
        Checks.due("another work of the concert", 4, x.whyNot(0, 8, 5, true));
        x.rehearse(1, 3, 0);
        Checks.due("both rehearsed", 0, x.whyNot(0, 8, 5, true));
        x.concert(0, 7, 4);
        Checks.due("a concert is no rehearsal", 4, x.whyNot(2, 4, 4, true));
    }

    private static void promise16Full() {
        OrchestraSeason x = Texts.season("days 8;hall a 0;player p 0 0 a;work w 0 1 7 0 a;work v 3 0 7 0 a a;");
        for (int slot = 3; slot < 23; slot++) {
            Checks.due("rehearse(0, " + slot + ", 0)", slot - 3, x.rehearse(0, slot, 0));
        }
        Checks.due("size(5)", 20, x.size(5));
        Checks.due("a twenty-first service", 1, x.whyNot(0, 23, 1, false));
        Checks.due("outside its days, too", 1, x.whyNot(0, 0, 1, false));
        Checks.due("with all the other reasons", 1, x.whyNot(0, 3, 2, true));
        Checks.badState("rehearse(0, 23, 0)", () -> x.rehearse(0, 23, 0));
        Checks.badState("concert(0, 23, 1)", () -> x.concert(0, 23, 1));
        Checks.due("earliest", -1, x.earliest(0, 0, 1, false));
        Checks.due("costsWith", -1, x.costsWith(0, 23, 1, false));
        Checks.due("a move of one of twenty", 0, x.whyNotMove(0, 23));
        Checks.due("the move", 19, x.move(0, 23));
        Checks.due("service(19, 0)", 23, x.service(19, 0));
        Checks.due("service(0, 0)", 4, x.service(0, 0));
        Checks.due("cancel(19)", 19, x.cancel(19));
        Checks.due("there is room again", 0, x.whyNot(0, 23, 1, false));
    }

    private static void promise16Arguments() {
        OrchestraSeason x = Texts.season(TEXT);
        Checks.badArgument("a rehearsal of no work", () -> x.whyNot(0, 0, 0, false));
        Checks.badArgument("a rehearsal of two works", () -> x.whyNot(0, 0, 3, false));
        Checks.badArgument("a concert of no work", () -> x.whyNot(0, 0, 0, true));
        Checks.badArgument("a concert of four works", () -> x.whyNot(0, 0, 15, true));
        Checks.due("a concert of three works", 2, x.whyNot(0, 0, 7, true));
        Checks.badArgument("a bit of no work", () -> x.whyNot(0, 0, 16, true));
        Checks.badArgument("a bit of no work beside one", () -> x.whyNot(0, 0, 17, true));
        Checks.badArgument("the sign bit", () -> x.whyNot(0, 0, Integer.MIN_VALUE, false));
        Checks.badArgument("the sign bit beside one", () -> x.whyNot(0, 0, Integer.MIN_VALUE | 1, true));
        Checks.badArgument("all bits", () -> x.whyNot(0, 0, -1, true));
        Checks.outOfBounds("no such hall, no such work", () -> x.whyNot(3, 0, 16, true));
        Checks.outOfBounds("hall -1", () -> x.whyNot(-1, 0, 1, true));
        Checks.outOfBounds("no such slot, no such work", () -> x.whyNot(0, 12, 0, true));
        Checks.outOfBounds("slot -1", () -> x.whyNot(0, -1, 1, true));
    }

    private static void promise17Earliest() {
        OrchestraSeason x = Texts.season(TEXT);
        Checks.due("a rehearsal of v", 0, x.earliest(0, 0, 1, false));
        Checks.due("a rehearsal of w", 3, x.earliest(0, 0, 2, false));
        Checks.due("a concert of v", -1, x.earliest(0, 0, 1, true));
        x.rehearse(0, 2, 0);
        Checks.due("a concert of v in the same hall", 4, x.earliest(0, 0, 1, true));
        Checks.due("a concert of v in another hall", 3, x.earliest(1, 0, 1, true));
        Checks.due("from itself", 8, x.earliest(1, 8, 1, true));
        Checks.due("from behind its last day", -1, x.earliest(1, 9, 1, true));
        Checks.due("from the last slot", 11, x.earliest(1, 11, 2, true));
        Checks.due("never a cast", -1, x.earliest(1, 0, 8, true));
        Checks.badArgument("two works", () -> x.earliest(0, 0, 3, false));
        Checks.badArgument("four works", () -> x.earliest(0, 0, 15, true));
        Checks.outOfBounds("slot 12", () -> x.earliest(0, 12, 3, false));
        Checks.outOfBounds("slot -1", () -> x.earliest(0, -1, 1, false));
        Checks.outOfBounds("hall 3", () -> x.earliest(3, 0, 3, false));
        Checks.outOfBounds("hall -1", () -> x.earliest(-1, 0, 1, false));
    }

    private static void promise18WhyNotMove() {
        OrchestraSeason x = Texts.season(TEXT);
        x.rehearse(0, 1, 0);
        x.rehearse(1, 2, 0);
        x.concert(0, 4, 1);
        Checks.due("outside its days", 2, x.whyNotMove(0, 9));
        Checks.due("too near to the concert", 3, x.whyNotMove(0, 3));
        Checks.due("at the slot of the concert", 3, x.whyNotMove(0, 4));
        Checks.due("its players are in the other rehearsal", 5, x.whyNotMove(0, 2));
        Checks.due("behind the concert, for which the other rehearsal is enough", 0, x.whyNotMove(0, 6));
        Checks.due("the concert too near to the first rehearsal", 3, x.whyNotMove(2, 0));
        x.cancel(1);
        Checks.due("behind the concert, which needs it", 6, x.whyNotMove(0, 6));
        Checks.due("before the concert", 0, x.whyNotMove(0, 0));
        Checks.due("to its own slot", 0, x.whyNotMove(0, 1));
        Checks.due("the concert to its own slot", 0, x.whyNotMove(1, 4));
        Checks.due("the concert to the slot of its rehearsal", 3, x.whyNotMove(1, 1));
        Checks.due("whyNotMove changes nothing, service(0, 0)", 1, x.service(0, 0));
        Checks.due("whyNotMove is no change, size(7)", 4, x.size(7));
        Checks.outOfBounds("whyNotMove(2, 0)", () -> x.whyNotMove(2, 0));
        Checks.outOfBounds("whyNotMove(-1, 0)", () -> x.whyNotMove(-1, 0));
        Checks.outOfBounds("whyNotMove(0, 12)", () -> x.whyNotMove(0, 12));
        Checks.outOfBounds("whyNotMove(0, -1)", () -> x.whyNotMove(0, -1));
    }

    private static void promise18ConcertMoves() {
        OrchestraSeason x = Texts.season(TEXT);
        x.rehearse(0, 1, 0);
        x.concert(2, 4, 1);
        Checks.due("before the rehearsal", 4, x.whyNotMove(1, 0));
        Checks.due("at its slot", 4, x.whyNotMove(1, 1));
        Checks.due("behind it, within its own turn", 0, x.whyNotMove(1, 2));
        x.rehearse(1, 0, 0);
        Checks.due("at the slot of one of two rehearsals, its players busy", 5, x.whyNotMove(2, 1));
    }

    private static void promise18AsIfItWasNotThere() {
        OrchestraSeason x = Texts.season("days 2;hall a 2;hall b 0;player p 0 0 a;work w 1 0 1 0 a;");
        x.rehearse(0, 2, 0);
        Checks.due("within its own turn", 0, x.whyNotMove(0, 3));
        Checks.due("to its own slot, its player is free", 0, x.whyNotMove(0, 2));
        x.rehearse(1, 3, 0);
        Checks.due("the player is in the other service", 5, x.whyNotMove(0, 3));
        x.concert(1, 5, 1);
        Checks.due("one of two rehearsals at the concert's slot", 5, x.whyNotMove(0, 5));
        x.cancel(1);
        Checks.due("the only rehearsal moves, before the concert", 0, x.whyNotMove(0, 4));
        Checks.due("at the slot of the concert its player is not free", 5, x.whyNotMove(0, 5));
    }
}
