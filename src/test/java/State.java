/** What a season answers to all questions about its state, as a text, so that two states can be compared. */
final class State {
    private State() {
    }

    static String of(OrchestraSeason x) {
        StringBuilder text = new StringBuilder("sizes");
        for (int what = 0; what <= 7; what++) {
            add(text, x.size(what));
        }
        text.append(" turns");
        for (int hall = 0; hall < x.size(1); hall++) {
            add(text, x.turn(hall));
        }
        for (int player = 0; player < x.size(2); player++) {
            text.append(" player");
            for (int what = 0; what <= 7; what++) {
                add(text, x.player(player, what));
            }
        }
        for (int work = 0; work < x.size(3); work++) {
            text.append(" work");
            for (int what = 0; what <= 7; what++) {
                add(text, x.work(work, what));
            }
        }
        addServices(text, x);
        return text.append(" costs ").append(x.costs(3)).toString();
    }

    /** Takes back every change that can be undone, too. */
    static String withUndo(OrchestraSeason x) {
        StringBuilder text = new StringBuilder(of(x));
        for (int left = x.size(7); left > 0; left--) {
            text.append(" undo ").append(x.undo());
            addServices(text, x);
            text.append(" contracts");
            for (int player = 0; player < x.size(2); player++) {
                add(text, x.player(player, 0));
            }
        }
        return text.toString();
    }

    private static void addServices(StringBuilder text, OrchestraSeason x) {
        for (int service = 0; service < x.size(5); service++) {
            text.append(" service");
            for (int what = 0; what <= 5; what++) {
                add(text, x.service(service, what));
            }
            for (int work = 0; work < x.size(3); work++) {
                for (int seat = 0; seat < x.work(work, 4); seat++) {
                    add(text, x.cast(service, work, seat));
                }
            }
        }
    }

    private static void add(StringBuilder text, int answer) {
        text.append(' ').append(answer);
    }
}
