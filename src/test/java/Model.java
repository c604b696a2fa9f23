import java.util.ArrayDeque;
import java.util.ArrayList;
import java.util.Comparator;
import java.util.Deque;
import java.util.HashMap;
import java.util.HashSet;
import java.util.List;
import java.util.Map;
import java.util.Set;
import java.util.TreeMap;
import java.util.regex.Matcher;
import java.util.regex.Pattern;

/**
 * The document once more, written for comparison and otherwise than the program: texts as a list of tokens,
 * services as values that are never altered, casts by trying all of them.
 */
final class Model {
    private record Token(String text, int at) {
    }

    private record Player(String name, int fee, List<String> instruments, Set<Integer> absent) {
    }

    private record Work(String name, int need, int first, int last, int fee, List<String> seats) {
    }

    private record Service(int slot, int hall, boolean concert, int works, Map<Integer, List<Integer>> casts) {
        Set<Integer> players() {
            Set<Integer> all = new HashSet<>();
            casts.values().forEach(all::addAll);
            return all;
        }
    }

    private record State(List<Service> services, List<Integer> contracts) {
    }

    private static final class TextError extends RuntimeException {
        private static final long serialVersionUID = 1L;
        private final int code;
        private final int at;

        TextError(int code, int at) {
            this.code = code;
            this.at = at;
        }
    }

    private StringBuilder buffer = new StringBuilder();
    private int errorPosition = -1;
    private int days = 1;
    private int doubleFee;
    private Map<String, Integer> halls = new TreeMap<>();
    private List<String> hallNames = new ArrayList<>();
    private List<Player> players = new ArrayList<>();
    private List<String> instruments = new ArrayList<>();
    private List<Work> works = new ArrayList<>();
    private State state = new State(List.of(), List.of());
    private Deque<State> history = new ArrayDeque<>();
    private State[] snapshots = new State[2];

    // ---- text

    int append(int... words) {
        if (buffer.length() + 20 > 600) {
            return -1;
        }
        for (int word : words) {
            for (int i = 3; i >= 0; i--) {
                buffer.append((char) (word >> 8 * i & 255));
            }
        }
        return buffer.length();
    }

    int parse(int length) {
        check(length >= 0 && length <= buffer.length());
        String text = buffer.substring(0, length);
        buffer = new StringBuilder();
        Model read = new Model();
        try {
            read.read(text);
        } catch (TextError e) {
            errorPosition = e.at;
            return e.code;
        }
        errorPosition = -1;
        days = read.days;
        doubleFee = read.doubleFee;
        halls = read.halls;
        hallNames = read.hallNames;
        players = read.players;
        instruments = read.instruments;
        works = read.works;
        state = read.state;
        history = new ArrayDeque<>();
        snapshots = new State[2];
        return 0;
    }

    int errorPosition() {
        return errorPosition;
    }

    private void read(String text) {
        List<Token> tokens = new ArrayList<>();
        Matcher matcher = Pattern.compile("[a-z]+|[0-9]+|[^ \n]").matcher(text);
        while (matcher.find()) {
            tokens.add(new Token(matcher.group(), matcher.start()));
        }
        tokens.add(new Token("", text.length()));
        List<Integer> contracts = new ArrayList<>();
        int statement = 0;
        boolean doubleTold = false;
        int i = 0;
        while (statement == 0 || !tokens.get(i).text.isEmpty()) {
            Token word = tokens.get(i++);
            String kind = word.text;
            fail(statement == 0 ? !kind.equals("days") : !List.of("hall", "player", "absent", "work", "double")
                    .contains(kind), 1, word);
            statement++;
            if (kind.equals("days")) {
                days = number(tokens.get(i++), 1, 30);
            } else if (kind.equals("hall")) {
                fail(hallNames.size() == 3, 5, word);
                String name = word(tokens.get(i));
                fail(hallNames.contains(name), 2, tokens.get(i++));
                hallNames.add(name);
                halls.put(name, number(tokens.get(i++), 0, 9));
            } else if (kind.equals("player")) {
                fail(players.size() == 8, 5, word);
                String name = word(tokens.get(i));
                fail(playerNamed(name) >= 0, 2, tokens.get(i++));
                contracts.add(number(tokens.get(i++), 0, 40));
                int fee = number(tokens.get(i++), 0, 999);
                List<String> own = new ArrayList<>();
                do {
                    Token token = tokens.get(i++);
                    String instrument = word(token);
                    fail(own.contains(instrument), 2, token);
                    fail(own.size() == 4 || !instruments.contains(instrument) && instruments.size() == 8, 5, token);
                    own.add(instrument);
                    if (!instruments.contains(instrument)) {
                        instruments.add(instrument);
                    }
                } while (!tokens.get(i).text.equals(";"));
                players.add(new Player(name, fee, own, new HashSet<>()));
            } else if (kind.equals("absent")) {
                String name = word(tokens.get(i));
                fail(playerNamed(name) < 0, 4, tokens.get(i++));
                int day = number(tokens.get(i), 0, days - 1);
                fail(!players.get(playerNamed(name)).absent.add(day), 2, tokens.get(i++));
            } else if (kind.equals("work")) {
                fail(works.size() == 5, 5, word);
                String name = word(tokens.get(i));
                fail(workNamed(name) >= 0, 2, tokens.get(i++));
                int need = number(tokens.get(i++), 0, 9);
                int first = number(tokens.get(i++), 0, days - 1);
                int last = number(tokens.get(i++), first, days - 1);
                int fee = number(tokens.get(i++), 0, 999);
                List<String> seats = new ArrayList<>();
                do {
                    Token token = tokens.get(i++);
                    String instrument = word(token);
                    fail(!instruments.contains(instrument), 4, token);
                    fail(seats.size() == 6, 5, token);
                    seats.add(instrument);
                } while (!tokens.get(i).text.equals(";"));
                works.add(new Work(name, need, first, last, fee, seats));
            } else {
                fail(doubleTold, 2, word);
                doubleTold = true;
                doubleFee = number(tokens.get(i++), 0, 999);
            }
            fail(!tokens.get(i).text.equals(";"), 1, tokens.get(i));
            i++;
        }
        state = new State(List.of(), contracts);
    }

    private static void fail(boolean isWrong, int code, Token token) {
        if (isWrong) {
            throw new TextError(code, token.at);
        }
    }

    private static String word(Token token) {
        fail(!token.text.matches("[a-z]{1,8}"), 1, token);
        return token.text;
    }

    private static int number(Token token, int least, int most) {
        fail(!token.text.matches("[0-9]{1,3}"), 1, token);
        int number = Integer.parseInt(token.text);
        fail(number < least || number > most, 3, token);
        return number;
    }

    private int playerNamed(String name) {
        return players.stream().map(Player::name).toList().indexOf(name);
    }

    private int workNamed(String name) {
        return works.stream().map(Work::name).toList().indexOf(name);
    }

    int size(int what) {
        check(what >= 0 && what <= 7);
        return List.of(days, hallNames.size(), players.size(), works.size(), instruments.size(),
                state.services.size(), doubleFee, history.size()).get(what);
    }

    int find(int kind) {
        check(kind >= 0 && kind <= 3);
        String name = buffer.toString().replaceAll(" +$", "");
        buffer = new StringBuilder();
        return switch (kind) {
            case 0 -> hallNames.indexOf(name);
            case 1 -> playerNamed(name);
            case 2 -> workNamed(name);
            default -> instruments.indexOf(name);
        };
    }

    // ---- halls, players, works

    int turn(int hall) {
        index(hall, hallNames.size());
        return halls.get(hallNames.get(hall));
    }

    int player(int player, int what) {
        index(player, players.size());
        check(what >= 0 && what <= 7);
        Player p = players.get(player);
        int services = servicesOf(player);
        int contract = state.contracts.get(player);
        int set = 0;
        for (String instrument : p.instruments) {
            set += 1 << instruments.indexOf(instrument);
        }
        int doublings = 0;
        for (Service service : state.services) {
            doublings += doublings(service, player);
        }
        return List.of(contract, p.fee, instruments.indexOf(p.instruments.get(0)), set, services, doublings,
                contract > services ? contract - services : 0, overtime(player)).get(what);
    }

    private int servicesOf(int player) {
        return (int) state.services.stream().filter(s -> s.players().contains(player)).count();
    }

    private int overtime(int player) {
        int beyond = servicesOf(player) - state.contracts.get(player);
        return beyond > 0 ? beyond * players.get(player).fee : 0;
    }

    /** Of one player, or of all for player -1. */
    private int doublings(Service service, int player) {
        int count = 0;
        for (Map.Entry<Integer, List<Integer>> cast : service.casts.entrySet()) {
            List<String> seats = works.get(cast.getKey()).seats;
            for (int seat = 0; seat < seats.size(); seat++) {
                int who = cast.getValue().get(seat);
                if ((player < 0 || who == player) && !players.get(who).instruments.get(0).equals(seats.get(seat))) {
                    count++;
                }
            }
        }
        return count;
    }

    boolean isFree(int player, int slot) {
        index(player, players.size());
        index(slot, 3 * days);
        return free(state.services, player, slot);
    }

    private boolean free(List<Service> services, int player, int slot) {
        return !players.get(player).absent.contains(slot / 3)
                && services.stream().noneMatch(s -> s.slot == slot && s.players().contains(player));
    }

    int work(int work, int what) {
        index(work, works.size());
        check(what >= 0 && what <= 7);
        Work w = works.get(work);
        int concerts = (int) with(work).filter(Service::concert).count();
        int rehearsals = (int) with(work).count() - concerts;
        return List.of(w.need, w.first, w.last, w.fee, w.seats.size(), rehearsals, concerts, rent(work)).get(what);
    }

    private java.util.stream.Stream<Service> with(int work) {
        return state.services.stream().filter(s -> s.casts.containsKey(work));
    }

    private int rent(int work) {
        int[] slots = with(work).mapToInt(Service::slot).sorted().toArray();
        return slots.length == 0 ? 0 : works.get(work).fee * (slots[slots.length - 1] / 3 - slots[0] / 3 + 1);
    }

    int seat(int work, int seat) {
        index(work, works.size());
        index(seat, works.get(work).seats.size());
        return instruments.indexOf(works.get(work).seats.get(seat));
    }

    // ---- services

    int service(int service, int what) {
        index(service, state.services.size());
        check(what >= 0 && what <= 5);
        Service s = state.services.get(service);
        int set = 0;
        for (int player : s.players()) {
            set += 1 << player;
        }
        return List.of(s.slot, s.hall, s.concert ? 1 : 0, s.works, set, doublings(s, -1)).get(what);
    }

    int cast(int service, int work, int seat) {
        index(service, state.services.size());
        seat(work, seat);
        List<Integer> cast = state.services.get(service).casts.get(work);
        return cast == null ? -1 : cast.get(seat);
    }

    int serviceAt(int hall, int slot) {
        index(hall, hallNames.size());
        index(slot, 3 * days);
        for (int i = 0; i < state.services.size(); i++) {
            if (state.services.get(i).hall == hall && state.services.get(i).slot == slot) {
                return i;
            }
        }
        return -1;
    }

    int fewestDoublings(int work, int slot) {
        index(work, works.size());
        index(slot, 3 * days);
        List<Integer> cast = bestCast(state.services, work, slot);
        return cast == null ? -1 : doublings(new Service(slot, 0, false, 1 << work, Map.of(work, cast)), -1);
    }

    /** Tries all casts in their order and keeps the first of those with the fewest doublings; null if there is none. */
    private List<Integer> bestCast(List<Service> services, int work, int slot) {
        List<List<Integer>> best = new ArrayList<>();
        int[] fewest = {Integer.MAX_VALUE};
        List<Integer> free = new ArrayList<>();
        for (int player = 0; player < players.size(); player++) {
            if (free(services, player, slot)) {
                free.add(player);
            }
        }
        tryCasts(works.get(work).seats, free, new ArrayList<>(), 0, fewest, best);
        return best.isEmpty() ? null : best.get(best.size() - 1);
    }

    private void tryCasts(List<String> seats, List<Integer> free, List<Integer> cast, int doublings, int[] fewest,
            List<List<Integer>> best) {
        if (cast.size() == seats.size()) {
            if (doublings < fewest[0]) {
                fewest[0] = doublings;
                best.add(List.copyOf(cast));
            }
            return;
        }
        String instrument = seats.get(cast.size());
        for (int player : free) {
            int place = players.get(player).instruments.indexOf(instrument);
            if (place >= 0 && !cast.contains(player)) {
                cast.add(player);
                tryCasts(seats, free, cast, doublings + (place > 0 ? 1 : 0), fewest, best);
                cast.remove(cast.size() - 1);
            }
        }
    }

    int whyNot(int hall, int slot, int set, boolean concert) {
        index(hall, hallNames.size());
        index(slot, 3 * days);
        check(set > 0 && set < 1 << works.size());
        check(Integer.bitCount(set) <= (concert ? 3 : 1));
        return reason(state.services, hall, slot, set, concert);
    }

    private List<Integer> members(int set) {
        List<Integer> members = new ArrayList<>();
        for (int work = 0; work < works.size(); work++) {
            if ((set & 1 << work) != 0) {
                members.add(work);
            }
        }
        return members;
    }

    private int reason(List<Service> services, int hall, int slot, int set, boolean concert) {
        List<Integer> members = members(set);
        if (services.size() == 20) {
            return 1;
        }
        if (members.stream().anyMatch(w -> slot / 3 < works.get(w).first || slot / 3 > works.get(w).last)) {
            return 2;
        }
        int turn = turn(hall);
        if (services.stream().anyMatch(s -> s.hall == hall && s.slot >= slot - turn && s.slot <= slot + turn)) {
            return 3;
        }
        if (concert && members.stream().anyMatch(w -> isShort(services, w, slot))) {
            return 4;
        }
        return members.stream().anyMatch(w -> bestCast(services, w, slot) == null) ? 5 : 0;
    }

    private boolean isShort(List<Service> services, int work, int slot) {
        return services.stream().filter(s -> !s.concert && s.works == 1 << work && s.slot < slot).count()
                < works.get(work).need;
    }

    private boolean anyShort(List<Service> services) {
        return services.stream().anyMatch(s -> s.concert
                && members(s.works).stream().anyMatch(w -> isShort(services, w, s.slot)));
    }

    int earliest(int hall, int from, int set, boolean concert) {
        whyNot(hall, from, set, concert);
        for (int slot = from; slot < 3 * days; slot++) {
            if (whyNot(hall, slot, set, concert) == 0) {
                return slot;
            }
        }
        return -1;
    }

    int whyNotMove(int service, int slot) {
        index(service, state.services.size());
        index(slot, 3 * days);
        Service s = state.services.get(service);
        List<Service> others = without(service);
        int reason = reason(others, s.hall, slot, s.works, s.concert);
        return reason != 0 ? reason : anyShort(plus(others, s.hall, slot, s.works, s.concert)) ? 6 : 0;
    }

    private List<Service> without(int service) {
        List<Service> others = new ArrayList<>(state.services);
        others.remove(service);
        return others;
    }

    private List<Service> plus(List<Service> services, int hall, int slot, int set, boolean concert) {
        Map<Integer, List<Integer>> casts = new HashMap<>();
        for (int work : members(set)) {
            casts.put(work, bestCast(services, work, slot));
        }
        List<Service> more = new ArrayList<>(services);
        more.add(new Service(slot, hall, concert, set, casts));
        more.sort(Comparator.comparingInt(Service::slot).thenComparingInt(Service::hall));
        return more;
    }

    // ---- costs

    int costs(int what) {
        check(what >= 0 && what <= 3);
        int rent = 0;
        for (int work = 0; work < works.size(); work++) {
            rent += rent(work);
        }
        int overtime = 0;
        for (int player = 0; player < players.size(); player++) {
            overtime += overtime(player);
        }
        int doublings = 0;
        for (Service service : state.services) {
            doublings += doubleFee * doublings(service, -1);
        }
        return List.of(rent, overtime, doublings, rent + overtime + doublings).get(what);
    }

    int costsWith(int hall, int slot, int set, boolean concert) {
        if (whyNot(hall, slot, set, concert) != 0) {
            return -1;
        }
        State now = state;
        state = new State(plus(now.services, hall, slot, set, concert), now.contracts);
        int costs = costs(3);
        state = now;
        return costs;
    }

    boolean isBalanced() {
        for (int player = 0; player < players.size(); player++) {
            if (servicesOf(player) != state.contracts.get(player)) {
                return false;
            }
        }
        return true;
    }

    boolean isWithoutClash() {
        return true;
    }

    int busiest() {
        int busiest = -1;
        int most = Integer.MIN_VALUE;
        for (int player = 0; player < players.size(); player++) {
            if (servicesOf(player) - state.contracts.get(player) > most) {
                most = servicesOf(player) - state.contracts.get(player);
                busiest = player;
            }
        }
        return busiest;
    }

    // ---- changes

    private void change(List<Service> services, List<Integer> contracts) {
        history.push(state);
        if (history.size() > 10) {
            history.removeLast();
        }
        state = new State(services, contracts);
    }

    int rehearse(int hall, int slot, int work) {
        index(hall, hallNames.size());
        index(slot, 3 * days);
        index(work, works.size());
        return add(hall, slot, 1 << work, false);
    }

    int concert(int hall, int slot, int set) {
        return add(hall, slot, set, true);
    }

    private int add(int hall, int slot, int set, boolean concert) {
        allow(whyNot(hall, slot, set, concert) == 0);
        change(plus(state.services, hall, slot, set, concert), state.contracts);
        return serviceAt(hall, slot);
    }

    int cancel(int service) {
        index(service, state.services.size());
        allow(!anyShort(without(service)));
        change(without(service), state.contracts);
        return state.services.size();
    }

    int move(int service, int slot) {
        allow(whyNotMove(service, slot) == 0);
        Service s = state.services.get(service);
        change(plus(without(service), s.hall, slot, s.works, s.concert), state.contracts);
        return serviceAt(s.hall, slot);
    }

    int recast(int service) {
        index(service, state.services.size());
        Service s = state.services.get(service);
        change(plus(without(service), s.hall, s.slot, s.works, s.concert), state.contracts);
        return service(service, 5);
    }

    int setContract(int player, int contract) {
        index(player, players.size());
        check(contract >= 0 && contract <= 40);
        List<Integer> contracts = new ArrayList<>(state.contracts);
        int previous = contracts.set(player, contract);
        change(state.services, contracts);
        return previous;
    }

    int undo() {
        if (history.isEmpty()) {
            return -1;
        }
        state = history.pop();
        return history.size();
    }

    boolean saveSnapshot(int slot) {
        index(slot, 2);
        boolean wasThere = snapshots[slot] != null;
        snapshots[slot] = state;
        return wasThere;
    }

    int restoreSnapshot(int slot) {
        index(slot, 2);
        allow(snapshots[slot] != null);
        state = snapshots[slot];
        history.clear();
        return state.services.size();
    }

    private static void index(int index, int count) {
        if (index < 0 || index >= count) {
            throw new IndexOutOfBoundsException();
        }
    }

    private static void check(boolean isRight) {
        if (!isRight) {
            throw new IllegalArgumentException();
        }
    }

    private static void allow(boolean isRight) {
        if (!isRight) {
            throw new IllegalStateException();
        }
    }
}
