import java.util.ArrayList;
import java.util.List;

/** Long runs of calls, always the same ones, answered by the program and by the model. */
final class RandomTest {
    private static final int RUNS = 800;
    /** What an object answers to more calls is free. */
    private static final int MOST_CALLS = 512;
    private static final String[] WORDS = {"a", "b", "c", "d", "e", "f", "g", "h", "hall", "days", "abcdefgh"};

    private long seed;
    private OrchestraSeason program;
    private Model model;
    private int run;
    private boolean isTold;
    private int calls;

    private RandomTest(int run) {
        this.run = run;
        seed = run * 0x9E3779B97F4A7C15L + 12345;
        program = new OrchestraSeason();
        model = new Model();
    }

    static void run() {
        for (int run = 0; run < RUNS; run++) {
            new RandomTest(run).season();
        }
        for (int run = 0; run < RUNS; run++) {
            new RandomTest(RUNS + run).texts();
        }
        extremes();
    }

    private int below(int bound) {
        seed = seed * 6364136223846793005L + 1442695040888963407L;
        return (int) ((seed >>> 33) % bound);
    }

    private boolean chance(int percent) {
        return below(100) < percent;
    }

    private void same(String call, Checks.Call want, Checks.Call got) {
        calls++;
        if (calls > MOST_CALLS) {
            return;
        }
        String due = Checks.outcome(want);
        String answer = Checks.outcome(got);
        if (!due.equals(answer) && !isTold) {
            isTold = true;
            Checks.dueText("random run " + run + ", " + call, due, answer);
        }
    }

    // ---- texts

    private String word() {
        return WORDS[below(WORDS.length)];
    }

    private String text() {
        int days = 1 + below(chance(80) ? 6 : 30);
        StringBuilder text = new StringBuilder("days " + days + ";");
        int halls = chance(90) ? 1 + below(3) : 0;
        for (int i = 0; i < halls; i++) {
            text.append("hall ").append((char) ('a' + i)).append(' ').append(below(chance(80) ? 3 : 10)).append(';');
        }
        int kinds = 2 + below(4);
        List<String> instruments = new ArrayList<>();
        int players = chance(95) ? 1 + below(8) : 0;
        for (int i = 0; i < players; i++) {
            text.append("player ").append((char) ('p' + i)).append(below(8)).append(' ').append(below(60));
            List<String> own = new ArrayList<>();
            for (int j = 1 + below(3); j > 0; j--) {
                String instrument = WORDS[below(kinds)];
                if (!own.contains(instrument)) {
                    own.add(instrument);
                    text.append(' ').append(instrument);
                }
            }
            instruments.addAll(own);
            text.append(';');
        }
        if (chance(80)) {
            text.append("double ").append(below(50)).append(';');
        }
        int works = instruments.isEmpty() ? 0 : 1 + below(5);
        for (int i = 0; i < works; i++) {
            int first = chance(70) ? 0 : below(days);
            int last = chance(70) ? days - 1 : first + below(days - first);
            text.append("work ").append((char) ('v' + i)).append(below(3)).append(' ').append(first).append(' ')
                    .append(last).append(' ').append(below(30));
            for (int j = 1 + below(chance(80) ? Math.min(3, players) : 6); j > 0; j--) {
                text.append(' ').append(instruments.get(below(instruments.size())));
            }
            text.append(';');
        }
        for (int i = below(4); i > 0 && players > 0; i--) {
            text.append("absent ").append((char) ('p' + below(players))).append(' ').append(below(days)).append(';');
        }
        return text.length() > 600 ? "days 3;" : text.toString();
    }

    private void put(String text) {
        for (int i = 0; i < text.length(); i += 20) {
            int[] words = new int[5];
            for (int j = 0; j < 20; j++) {
                words[j / 4] = words[j / 4] << 8 | (i + j < text.length() ? text.charAt(i + j) : ' ');
            }
            append(words);
        }
    }

    private void append(int[] w) {
        same("append", () -> model.append(w), () -> program.append(w[0], w[1], w[2], w[3], w[4]));
    }

    private void parse(int length) {
        same("parse(" + length + ")", () -> model.parse(length), () -> program.parse(length));
        same("errorPosition()", () -> model.errorPosition(), () -> program.errorPosition());
    }

    private void texts() {
        for (int i = 0; i < 6; i++) {
            String text = text();
            for (int j = below(4); j > 0; j--) {
                text = altered(text);
            }
            text = text.substring(0, Math.min(600, text.length()));
            put(text);
            parse(chance(90) ? text.length() : below(text.length() + 1));
            for (int what = 0; what < 8; what++) {
                size(what);
            }
        }
        sweep();
        Checks.dueFalse("random texts " + run, isTold);
    }

    private String altered(String text) {
        int at = below(text.length());
        String head = text.substring(0, at);
        String tail = text.substring(at);
        switch (below(8)) {
            case 0:
                return head + (tail.isEmpty() ? "" : tail.substring(1));
            case 1:
                return head + ";" + tail;
            case 2:
                return head + " " + word() + " " + tail;
            case 3:
                return head + below(1200) + tail;
            case 4:
                return head + (char) below(256) + tail;
            case 5:
                return text.replaceFirst("(?s)^(.{" + at + "}.*?) ", "$1\n ");
            case 6:
                return text + text.substring(text.indexOf(';') + 1);
            default:
                return head + "\n" + tail;
        }
    }

    // ---- calls

    private void season() {
        put(text());
        parse(600 - below(2));
        String text = text();
        put(text);
        parse(text.length());
        int mixed = run % 2 == 0 ? MOST_CALLS : 100;
        for (int i = 0; i < mixed; i++) {
            if (chance(55)) {
                change();
            } else {
                question();
            }
        }
        Checks.dueFalse("random run " + run, isTold);
        sweep();
        Checks.dueFalse("the end of random run " + run, isTold);
    }

    /** Mostly an index below the count, sometimes one just outside. */
    private int index(int count) {
        return count > 0 && chance(95) ? below(count) : chance(50) ? count : -1;
    }

    private int count(int what) {
        return model.size(what);
    }

    private int set() {
        int works = 0;
        for (int i = chance(70) ? 1 : below(4); i > 0; i--) {
            works |= 1 << below(Math.max(1, count(3)));
        }
        return chance(97) ? works : below(70) - 3;
    }

    private void change() {
        int hall = index(count(1));
        int slot = index(3 * count(0));
        int service = index(count(5));
        int player = index(count(2));
        int set = set();
        int which = below(20);
        if (which < 7) {
            int work = index(count(3));
            same("rehearse(" + hall + ", " + slot + ", " + work + ")", () -> model.rehearse(hall, slot, work),
                    () -> program.rehearse(hall, slot, work));
        } else if (which < 11) {
            same("concert(" + hall + ", " + slot + ", " + set + ")", () -> model.concert(hall, slot, set),
                    () -> program.concert(hall, slot, set));
        } else if (which < 13) {
            same("cancel(" + service + ")", () -> model.cancel(service), () -> program.cancel(service));
        } else if (which < 15) {
            same("move(" + service + ", " + slot + ")", () -> model.move(service, slot),
                    () -> program.move(service, slot));
        } else if (which < 16) {
            same("recast(" + service + ")", () -> model.recast(service), () -> program.recast(service));
        } else if (which < 17) {
            int contract = index(41);
            same("setContract(" + player + ", " + contract + ")", () -> model.setContract(player, contract),
                    () -> program.setContract(player, contract));
        } else if (which < 19) {
            same("undo()", () -> model.undo(), () -> program.undo());
        } else if (chance(60)) {
            int saved = index(2);
            same("saveSnapshot(" + saved + ")", () -> model.saveSnapshot(saved) ? 1 : 0,
                    () -> program.saveSnapshot(saved) ? 1 : 0);
        } else {
            int saved = index(2);
            same("restoreSnapshot(" + saved + ")", () -> model.restoreSnapshot(saved),
                    () -> program.restoreSnapshot(saved));
        }
    }

    private void question() {
        int hall = index(count(1));
        int slot = index(3 * count(0));
        int service = index(count(5));
        int set = set();
        boolean concert = chance(50);
        String place = "(" + hall + ", " + slot + ", " + set + ", " + concert + ")";
        switch (below(8)) {
            case 0:
                same("whyNot" + place, () -> model.whyNot(hall, slot, set, concert),
                        () -> program.whyNot(hall, slot, set, concert));
                break;
            case 1:
                same("earliest" + place, () -> model.earliest(hall, slot, set, concert),
                        () -> program.earliest(hall, slot, set, concert));
                break;
            case 2:
                same("costsWith" + place, () -> model.costsWith(hall, slot, set, concert),
                        () -> program.costsWith(hall, slot, set, concert));
                break;
            case 3:
                same("whyNotMove(" + service + ", " + slot + ")", () -> model.whyNotMove(service, slot),
                        () -> program.whyNotMove(service, slot));
                break;
            case 4:
                costs();
                break;
            case 5:
                service(service, index(6));
                cast(service, index(count(3)), index(6));
                break;
            case 6:
                playerAndWork(index(count(2)), slot, index(count(3)), index(8));
                break;
            default:
                size(index(8));
                find(index(4));
        }
    }

    private void size(int what) {
        same("size(" + what + ")", () -> model.size(what), () -> program.size(what));
    }

    private void find(int kind) {
        put(chance(50) ? word() : "" + (char) ('p' + below(11)));
        same("find(" + kind + ")", () -> model.find(kind), () -> program.find(kind));
    }

    private void costs() {
        int what = index(4);
        same("costs(" + what + ")", () -> model.costs(what), () -> program.costs(what));
        same("isBalanced()", () -> model.isBalanced() ? 1 : 0, () -> program.isBalanced() ? 1 : 0);
        same("isWithoutClash()", () -> model.isWithoutClash() ? 1 : 0, () -> program.isWithoutClash() ? 1 : 0);
        same("busiest()", () -> model.busiest(), () -> program.busiest());
    }

    private void service(int service, int what) {
        same("service(" + service + ", " + what + ")", () -> model.service(service, what),
                () -> program.service(service, what));
    }

    private void cast(int service, int work, int seat) {
        same("cast(" + service + ", " + work + ", " + seat + ")", () -> model.cast(service, work, seat),
                () -> program.cast(service, work, seat));
    }

    private void playerAndWork(int player, int slot, int work, int what) {
        String end = ", " + what + ")";
        same("player(" + player + end, () -> model.player(player, what), () -> program.player(player, what));
        same("work(" + work + end, () -> model.work(work, what), () -> program.work(work, what));
        same("seat(" + work + end, () -> model.seat(work, what), () -> program.seat(work, what));
        same("isFree(" + player + ", " + slot + ")", () -> model.isFree(player, slot) ? 1 : 0,
                () -> program.isFree(player, slot) ? 1 : 0);
        same("fewestDoublings(" + work + ", " + slot + ")", () -> model.fewestDoublings(work, slot),
                () -> program.fewestDoublings(work, slot));
    }

    /** Asks for everything that can be asked about the state. */
    private void sweep() {
        for (int i = 0; i < 4; i++) {
            costs();
        }
        for (int service = 0; service < count(5); service++) {
            for (int what = 0; what < 6; what++) {
                service(service, what);
            }
            for (int place = 0; place < 36; place++) {
                cast(service, place / 6, place % 6);
            }
        }
        for (int i = 0; i < 72; i++) {
            playerAndWork(i / 8, i, i / 8, i % 8);
        }
        for (int hall = 0; hall <= count(1); hall++) {
            int at = hall;
            same("turn(" + at + ")", () -> model.turn(at), () -> program.turn(at));
            for (int slot = 0; slot <= 3 * count(0); slot++) {
                int when = slot;
                same("serviceAt(" + at + ", " + when + ")", () -> model.serviceAt(at, when),
                        () -> program.serviceAt(at, when));
            }
        }
    }

    /** Every call with every mixture of arguments from the ends of int throws what the document says, or answers. */
    private static void extremes() {
        int[] ends = {Integer.MIN_VALUE, Integer.MIN_VALUE + 1, -33, -32, -1, 0, 1, 31, 32, 33, 600, 601,
            Integer.MAX_VALUE - 1, Integer.MAX_VALUE};
        String text = "days 2;hall a 0;player p 1 1 a;work w 0 0 1 1 a;";
        for (int a : ends) {
            for (int b : ends) {
                RandomTest pair = new RandomTest(0);
                pair.put(text);
                pair.parse(text.length());
                pair.end(a, b);
                Checks.dueFalse("arguments " + a + " and " + b, pair.isTold);
            }
        }
    }

    private void end(int a, int b) {
        same("rehearse", () -> model.rehearse(0, 0, 0), () -> program.rehearse(0, 0, 0));
        same("parse", () -> model.parse(a), () -> program.parse(a));
        same("size", () -> model.size(a), () -> program.size(a));
        same("find", () -> model.find(a), () -> program.find(a));
        same("turn", () -> model.turn(a), () -> program.turn(a));
        playerAndWork(a, b, a, b);
        playerAndWork(a, b, b, a);
        service(a, b);
        cast(a, b, 0);
        cast(0, a, b);
        same("serviceAt", () -> model.serviceAt(a, b), () -> program.serviceAt(a, b));
        same("whyNot", () -> model.whyNot(a, b, 1, true), () -> program.whyNot(a, b, 1, true));
        same("whyNot", () -> model.whyNot(0, a, b, false), () -> program.whyNot(0, a, b, false));
        same("earliest", () -> model.earliest(a, 0, b, true), () -> program.earliest(a, 0, b, true));
        same("earliest", () -> model.earliest(0, a, b, false), () -> program.earliest(0, a, b, false));
        same("whyNotMove", () -> model.whyNotMove(a, b), () -> program.whyNotMove(a, b));
        same("costs", () -> model.costs(a), () -> program.costs(a));
        same("costsWith", () -> model.costsWith(a, 1, b, true), () -> program.costsWith(a, 1, b, true));
        same("costsWith", () -> model.costsWith(0, a, b, false), () -> program.costsWith(0, a, b, false));
        same("rehearse", () -> model.rehearse(a, 1, b), () -> program.rehearse(a, 1, b));
        same("rehearse", () -> model.rehearse(0, a, b), () -> program.rehearse(0, a, b));
        same("concert", () -> model.concert(a, 2, b), () -> program.concert(a, 2, b));
        same("concert", () -> model.concert(0, a, b), () -> program.concert(0, a, b));
        same("cancel", () -> model.cancel(a), () -> program.cancel(a));
        same("move", () -> model.move(a, b), () -> program.move(a, b));
        same("recast", () -> model.recast(a), () -> program.recast(a));
        same("setContract", () -> model.setContract(a, b), () -> program.setContract(a, b));
        same("saveSnapshot", () -> model.saveSnapshot(a) ? 1 : 0, () -> program.saveSnapshot(a) ? 1 : 0);
        same("restoreSnapshot", () -> model.restoreSnapshot(a), () -> program.restoreSnapshot(a));
        sweep();
    }
}
