/** What a season answers to all questions about its state, as a text, so that two states can be compared. */
final class State {
    private State() {
    }

    static String of(OrchestraSeason x) {
        StringBuilder text = new StringBuilder("sizes");
        for (int what = 0; what <= 7; what++) {
            add(text, x.size(what));
        }
        text.append(" turns");
        int halls = x.size(1);
        for (int hall = 0; hall < halls; hall++) {
            add(text, x.turn(hall));
        }
        int players = x.size(2);
        for (int player = 0; player < players; player++) {
            text.append(" player");
            for (int what = 0; what <= 7; what++) {
                add(text, x.player(player, what));
            }
        }
        int works = x.size(3);
        for (int work = 0; work < works; work++) {
            text.append(" work");
            for (int what = 0; what <= 7; what++) {
                add(text, x.work(work, what));
            }
            int seats = x.work(work, 4);
            for (int seat = 0; seat < seats; seat++) {
                add(text, x.seat(work, seat));
            }
        }
        addServices(text, x);
        addAbsences(text, x);
        return text.append(" costs ").append(x.costs(3)).toString();
    }

    /** Takes back every change that can be undone, too. */
    static String withUndo(OrchestraSeason x) {
        StringBuilder text = new StringBuilder(of(x));
        for (int left = x.size(7); left > 0; left--) {
            text.append(" undo ").append(x.undo());
            addServices(text, x);
            text.append(" contracts");
            for (int player = 0; player < x.size(2); player++) {
                add(text, x.player(player, 0));
            }
        }
        return text.toString();
    }

    private static void addServices(StringBuilder text, OrchestraSeason x) {
        int services = x.size(5);
        int works = x.size(3);
        for (int service = 0; service < services; service++) {
            text.append(" service");
            for (int what = 0; what <= 5; what++) {
                add(text, x.service(service, what));
            }
            for (int work = 0; work < works; work++) {
                int seats = x.work(work, 4);
                for (int seat = 0; seat < seats; seat++) {
                    add(text, x.cast(service, work, seat));
                }
            }
        }
    }

    /** Of the first and the last days alone, so that the calls stay few. */
    private static void addAbsences(StringBuilder text, OrchestraSeason x) {
        text.append(" absent");
        int players = x.size(2);
        int days = x.size(0);
        for (int player = 0; player < players; player++) {
            for (int day : new int[] {0, Math.min(1, days - 1), days - 1}) {
                add(text, x.isFree(player, 3 * day + 2) ? 0 : 1);
            }
        }
    }

    private static void add(StringBuilder text, int answer) {
        text.append(' ').append(answer);
    }
}
