/** The season of an orchestra: halls, players, works, the services planned for them, and what all costs. */
public final class OrchestraSeason {
    public static final int NONE = -1;

    private static final int BUFFER_LIMIT = 600;
    private static final int BYTES_OF_APPEND = 20;
    private static final int MAX_LETTERS = 8;
    private static final int MAX_DIGITS = 3;

    private static final int SLOTS_OF_DAY = 3;
    private static final int MAX_DAYS = 30;
    private static final int MAX_HALLS = 3;
    private static final int MAX_PLAYERS = 8;
    private static final int MAX_WORKS = 5;
    private static final int MAX_INSTRUMENTS = 8;
    private static final int MAX_INSTRUMENTS_OF_PLAYER = 4;
    private static final int MAX_SEATS = 6;
    private static final int MAX_SERVICES = 20;
    private static final int MAX_WORKS_OF_CONCERT = 3;
    private static final int MAX_TURN = 9;
    private static final int MAX_NEED = 9;
    private static final int MAX_CONTRACT = 40;
    private static final int MAX_FEE = 999;
    private static final int MAX_UNDO = 10;
    private static final int SNAPSHOTS = 2;

    private static final int TOKEN_END = 0;
    private static final int TOKEN_WORD = 1;
    private static final int TOKEN_NUMBER = 2;
    private static final int TOKEN_SEMICOLON = 3;
    private static final int TOKEN_INVALID = 4;

    private static final int ERROR_SYNTAX = 1;
    private static final int ERROR_TWICE = 2;
    private static final int ERROR_RANGE = 3;
    private static final int ERROR_UNKNOWN = 4;
    private static final int ERROR_TOO_MANY = 5;

    private static final int REASON_FULL = 1;
    private static final int REASON_NOT_RENTED = 2;
    private static final int REASON_HALL = 3;
    private static final int REASON_NEED = 4;
    private static final int REASON_NO_CAST = 5;
    private static final int REASON_OTHER_NEED = 6;

    private static final int COSTS_RENT = 0;
    private static final int COSTS_OVERTIME = 1;
    private static final int COSTS_DOUBLINGS = 2;
    private static final int COSTS_ALL = 3;

    private final byte[] buffer = new byte[BUFFER_LIMIT];
    private final Caster caster = new Caster();
    private final Plan plan = new Plan();
    /** What the plan would be after a change; every change is made here first. */
    private final Plan draft = new Plan();
    private final Plan[] history = new Plan[MAX_UNDO];
    private final Plan[] snapshots = new Plan[SNAPSHOTS];
    private final boolean[] isSaved = new boolean[SNAPSHOTS];
    private int bufferLength;
    private int lastErrorPosition = NONE;
    private int historyCount;
    private Season season = new Season();
    /** The season that the next text is read into, so that an error leaves the current one as it is. */
    private Season spare = new Season();

    public OrchestraSeason() {
        for (int i = 0; i < MAX_UNDO; i++) {
            history[i] = new Plan();
        }
        for (int i = 0; i < SNAPSHOTS; i++) {
            snapshots[i] = new Plan();
        }
    }

    // ---- text

    public int append(int a, int b, int c, int d, int e) {
        if (bufferLength > BUFFER_LIMIT - BYTES_OF_APPEND) {
            return NONE;
        }
        appendFour(a);
        appendFour(b);
        appendFour(c);
        appendFour(d);
        appendFour(e);
        return bufferLength;
    }

    private void appendFour(int bytes) {
        for (int shift = 24; shift >= 0; shift -= 8) {
            buffer[bufferLength] = (byte) (bytes >> shift);
            bufferLength++;
        }
    }

    public int parse(int length) throws IllegalArgumentException {
        requireArgument(length >= 0 && length <= bufferLength);
        Parser parser = new Parser(new Reader(buffer, length), spare);
        parser.read();
        lastErrorPosition = parser.errorAt;
        bufferLength = 0;
        if (parser.error == 0) {
            begin();
        }
        return parser.error;
    }

    private void begin() {
        Season read = spare;
        spare = season;
        season = read;
        plan.begin(season.contracts);
        historyCount = 0;
        for (int i = 0; i < SNAPSHOTS; i++) {
            isSaved[i] = false;
        }
    }

    public int errorPosition() {
        return lastErrorPosition;
    }

    public int size(int what) throws IllegalArgumentException {
        switch (what) {
            case 0:
                return season.days;
            case 1:
                return season.halls.count;
            case 2:
                return season.players.count;
            case 3:
                return season.works.count;
            case 4:
                return season.instruments.count;
            case 5:
                return plan.count;
            case 6:
                return season.doubleFee;
            case 7:
                return historyCount;
            default:
                throw new IllegalArgumentException();
        }
    }

    public int find(int kind) throws IllegalArgumentException {
        requireArgument(kind >= 0 && kind <= 3);
        long name = nameInBuffer();
        bufferLength = 0;
        switch (kind) {
            case 0:
                return season.halls.numberOf(name);
            case 1:
                return season.players.numberOf(name);
            case 2:
                return season.works.numberOf(name);
            default:
                return season.instruments.numberOf(name);
        }
    }

    /** The code of the name that the buffer contains; 0, which is no name's code, if it contains something else. */
    private long nameInBuffer() {
        int end = bufferLength;
        while (end > 0 && buffer[end - 1] == ' ') {
            end--;
        }
        if (end > MAX_LETTERS) {
            return 0;
        }
        long code = 0;
        for (int i = 0; i < end; i++) {
            if (!isLetter(buffer[i])) {
                return 0;
            }
            code = withLetter(code, buffer[i]);
        }
        return code;
    }

    // ---- halls, players, works

    public int turn(int hall) throws IndexOutOfBoundsException {
        requireHall(hall);
        return season.turns[hall];
    }

    public int player(int player, int what) throws IndexOutOfBoundsException, IllegalArgumentException {
        requirePlayer(player);
        switch (what) {
            case 0:
                return plan.contracts[player];
            case 1:
                return season.playerFees[player];
            case 2:
                return season.mainInstruments[player];
            case 3:
                return season.instrumentSets[player];
            case 4:
                return plan.servicesOf(player);
            case 5:
                return Ledger.doublingsOf(season, plan, player);
            case 6:
                return Math.max(0, -plan.beyondContract(player));
            case 7:
                return Ledger.overtimeOf(season, plan, player);
            default:
                throw new IllegalArgumentException();
        }
    }

    public boolean isFree(int player, int slot) throws IndexOutOfBoundsException {
        requirePlayer(player);
        requireSlot(slot);
        return has(freePlayers(plan, slot), player);
    }

    public int work(int work, int what) throws IndexOutOfBoundsException, IllegalArgumentException {
        requireWork(work);
        switch (what) {
            case 0:
                return season.needs[work];
            case 1:
                return season.firstDays[work];
            case 2:
                return season.lastDays[work];
            case 3:
                return season.workFees[work];
            case 4:
                return season.seatCounts[work];
            case 5:
                return plan.servicesWith(work, false, season.slotCount());
            case 6:
                return plan.servicesWith(work, true, season.slotCount());
            case 7:
                return Ledger.rentOf(season, plan, work);
            default:
                throw new IllegalArgumentException();
        }
    }

    public int seat(int work, int seat) throws IndexOutOfBoundsException {
        requireWork(work);
        requireSeat(work, seat);
        return season.instrumentOfSeat(work, seat);
    }

    // ---- services

    public int service(int service, int what) throws IndexOutOfBoundsException, IllegalArgumentException {
        requireService(service);
        switch (what) {
            case 0:
                return plan.slots[service];
            case 1:
                return plan.halls[service];
            case 2:
                return plan.concerts[service];
            case 3:
                return plan.workSets[service];
            case 4:
                return plan.playersIn(service);
            case 5:
                return Ledger.doublingsIn(season, plan, service);
            default:
                throw new IllegalArgumentException();
        }
    }

    public int cast(int service, int work, int seat) throws IndexOutOfBoundsException {
        requireService(service);
        requireWork(work);
        requireSeat(work, seat);
        return plan.playerOn(service, work, seat);
    }

    public int serviceAt(int hall, int slot) throws IndexOutOfBoundsException {
        requireHall(hall);
        requireSlot(slot);
        return plan.numberAt(hall, slot);
    }

    public int fewestDoublings(int work, int slot) throws IndexOutOfBoundsException {
        requireWork(work);
        requireSlot(slot);
        return caster.castWork(season, work, freePlayers(plan, slot));
    }

    public int whyNot(int hall, int slot, int works, boolean concert)
            throws IndexOutOfBoundsException, IllegalArgumentException {
        requirePlaceAndWorks(hall, slot, works, concert);
        return reasonAgainst(plan, hall, slot, works, concert);
    }

    public int earliest(int hall, int from, int works, boolean concert)
            throws IndexOutOfBoundsException, IllegalArgumentException {
        requirePlaceAndWorks(hall, from, works, concert);
        for (int slot = from; slot < season.slotCount(); slot++) {
            if (reasonAgainst(plan, hall, slot, works, concert) == 0) {
                return slot;
            }
        }
        return NONE;
    }

    public int whyNotMove(int service, int slot) throws IndexOutOfBoundsException {
        requireService(service);
        requireSlot(slot);
        return draftMove(service, slot);
    }

    // ---- costs

    public int costs(int what) throws IllegalArgumentException {
        requireArgument(what >= COSTS_RENT && what <= COSTS_ALL);
        return Ledger.costsOf(season, plan, what);
    }

    public int costsWith(int hall, int slot, int works, boolean concert)
            throws IndexOutOfBoundsException, IllegalArgumentException {
        requirePlaceAndWorks(hall, slot, works, concert);
        if (reasonAgainst(plan, hall, slot, works, concert) != 0) {
            return NONE;
        }
        draft.copyFrom(plan);
        addToDraft(hall, slot, works, concert);
        return Ledger.costsOf(season, draft, COSTS_ALL);
    }

    public boolean isBalanced() {
        for (int player = 0; player < season.players.count; player++) {
            if (plan.beyondContract(player) != 0) {
                return false;
            }
        }
        return true;
    }

    public boolean isWithoutClash() {
        for (int service = 0; service < plan.count; service++) {
            if (plan.sharesPlayers(service) || plan.hasPlayerTwice(service)) {
                return false;
            }
        }
        return true;
    }

    public int busiest() {
        int busiest = NONE;
        int most = 0;
        for (int player = 0; player < season.players.count; player++) {
            int beyond = plan.beyondContract(player);
            if (busiest == NONE || beyond > most) {
                busiest = player;
                most = beyond;
            }
        }
        return busiest;
    }

    // ---- changes

    public int rehearse(int hall, int slot, int work) throws IndexOutOfBoundsException, IllegalStateException {
        requireHall(hall);
        requireSlot(slot);
        requireWork(work);
        return addService(hall, slot, 1 << work, false);
    }

    public int concert(int hall, int slot, int works)
            throws IndexOutOfBoundsException, IllegalArgumentException, IllegalStateException {
        requirePlaceAndWorks(hall, slot, works, true);
        return addService(hall, slot, works, true);
    }

    private int addService(int hall, int slot, int works, boolean concert) {
        requireState(reasonAgainst(plan, hall, slot, works, concert) == 0);
        draft.copyFrom(plan);
        int number = addToDraft(hall, slot, works, concert);
        acceptDraft();
        return number;
    }

    public int cancel(int service) throws IndexOutOfBoundsException, IllegalStateException {
        requireService(service);
        draft.copyFrom(plan);
        draft.remove(service);
        requireState(isEveryConcertRehearsed(draft));
        acceptDraft();
        return plan.count;
    }

    public int move(int service, int slot) throws IndexOutOfBoundsException, IllegalStateException {
        requireService(service);
        requireSlot(slot);
        int hall = plan.halls[service];
        requireState(draftMove(service, slot) == 0);
        acceptDraft();
        return plan.numberAt(hall, slot);
    }

    public int recast(int service) throws IndexOutOfBoundsException {
        requireService(service);
        draft.copyFrom(plan);
        draft.clearCast(service);
        castInDraft(service);
        acceptDraft();
        return Ledger.doublingsIn(season, plan, service);
    }

    public int setContract(int player, int contract) throws IndexOutOfBoundsException, IllegalArgumentException {
        requirePlayer(player);
        requireArgument(contract >= 0 && contract <= MAX_CONTRACT);
        int previous = plan.contracts[player];
        draft.copyFrom(plan);
        draft.contracts[player] = contract;
        acceptDraft();
        return previous;
    }

    // ---- undo and snapshots

    public int undo() {
        if (historyCount == 0) {
            return NONE;
        }
        historyCount--;
        plan.copyFrom(history[historyCount]);
        return historyCount;
    }

    public boolean saveSnapshot(int slot) throws IndexOutOfBoundsException {
        requireIndex(slot, SNAPSHOTS);
        boolean wasSaved = isSaved[slot];
        snapshots[slot].copyFrom(plan);
        isSaved[slot] = true;
        return wasSaved;
    }

    public int restoreSnapshot(int slot) throws IndexOutOfBoundsException, IllegalStateException {
        requireIndex(slot, SNAPSHOTS);
        requireState(isSaved[slot]);
        plan.copyFrom(snapshots[slot]);
        historyCount = 0;
        return plan.count;
    }

    // ---- what the calls above share

    /** Makes the draft the plan and keeps the plan that was, for undo. */
    private void acceptDraft() {
        if (historyCount == MAX_UNDO) {
            forgetOldestChange();
        }
        history[historyCount].copyFrom(plan);
        historyCount++;
        plan.copyFrom(draft);
    }

    private void forgetOldestChange() {
        Plan oldest = history[0];
        for (int i = 1; i < MAX_UNDO; i++) {
            history[i - 1] = history[i];
        }
        history[MAX_UNDO - 1] = oldest;
        historyCount--;
    }

    /** Puts the plan with a service moved into the draft, as far as it can be; answers the reason why it cannot. */
    private int draftMove(int service, int slot) {
        int hall = plan.halls[service];
        int works = plan.workSets[service];
        boolean concert = plan.isConcert(service);
        draft.copyFrom(plan);
        draft.remove(service);
        int reason = reasonAgainst(draft, hall, slot, works, concert);
        if (reason != 0) {
            return reason;
        }
        addToDraft(hall, slot, works, concert);
        return isEveryConcertRehearsed(draft) ? 0 : REASON_OTHER_NEED;
    }

    /** Adds a service that can be; answers its number. */
    private int addToDraft(int hall, int slot, int works, boolean concert) {
        int number = draft.insert(hall, slot, works, concert);
        castInDraft(number);
        return number;
    }

    /** Finds the cast of a service of the draft that has none. */
    private void castInDraft(int service) {
        int free = freePlayers(draft, draft.slots[service]);
        for (int work = 0; work < season.works.count; work++) {
            if (has(draft.workSets[service], work) && caster.castWork(season, work, free) != NONE) {
                draft.setCast(service, work, caster.cast, season.seatCounts[work]);
            }
        }
    }

    private int freePlayers(Plan held, int slot) {
        return season.playersPresent(slot / SLOTS_OF_DAY) & ~held.playersAt(slot);
    }

    /** The first reason why a service cannot be beside those that are held; 0 if there is none. */
    private int reasonAgainst(Plan held, int hall, int slot, int works, boolean concert) {
        if (held.count >= MAX_SERVICES) {
            return REASON_FULL;
        }
        if (!season.areRentedOn(works, slot / SLOTS_OF_DAY)) {
            return REASON_NOT_RENTED;
        }
        if (held.isHallTaken(hall, slot, season.turns[hall])) {
            return REASON_HALL;
        }
        if (concert && !areRehearsed(held, works, slot)) {
            return REASON_NEED;
        }
        return haveCasts(works, freePlayers(held, slot)) ? 0 : REASON_NO_CAST;
    }

    private boolean areRehearsed(Plan held, int works, int slot) {
        for (int work = 0; work < season.works.count; work++) {
            if (has(works, work) && held.servicesWith(work, false, slot) < season.needs[work]) {
                return false;
            }
        }
        return true;
    }

    private boolean isEveryConcertRehearsed(Plan held) {
        for (int service = 0; service < held.count; service++) {
            if (held.isConcert(service) && !areRehearsed(held, held.workSets[service], held.slots[service])) {
                return false;
            }
        }
        return true;
    }

    private boolean haveCasts(int works, int free) {
        for (int work = 0; work < season.works.count; work++) {
            if (has(works, work) && caster.castWork(season, work, free) == NONE) {
                return false;
            }
        }
        return true;
    }

    // ---- tests of arguments

    private void requirePlaceAndWorks(int hall, int slot, int works, boolean concert) {
        requireHall(hall);
        requireSlot(slot);
        requireArgument((works & ~firstBits(season.works.count)) == 0);
        int count = Integer.bitCount(works);
        requireArgument(count >= 1 && count <= (concert ? MAX_WORKS_OF_CONCERT : 1));
    }

    private void requireHall(int hall) {
        requireIndex(hall, season.halls.count);
    }

    private void requireSlot(int slot) {
        requireIndex(slot, season.slotCount());
    }

    private void requirePlayer(int player) {
        requireIndex(player, season.players.count);
    }

    private void requireWork(int work) {
        requireIndex(work, season.works.count);
    }

    private void requireSeat(int work, int seat) {
        requireIndex(seat, season.seatCounts[work]);
    }

    private void requireService(int service) {
        requireIndex(service, plan.count);
    }

    private static void requireIndex(int index, int count) {
        if (index < 0 || index >= count) {
            throw new IndexOutOfBoundsException();
        }
    }

    private static void requireArgument(boolean isRight) {
        if (!isRight) {
            throw new IllegalArgumentException();
        }
    }

    private static void requireState(boolean isRight) {
        if (!isRight) {
            throw new IllegalStateException();
        }
    }

    // ---- sets as bits, and names as numbers

    private static boolean has(int set, int member) {
        return (set >> member & 1) != 0;
    }

    private static int firstBits(int count) {
        return (1 << count) - 1;
    }

    private static boolean isLetter(byte sign) {
        return sign >= 'a' && sign <= 'z';
    }

    private static boolean isDigit(byte sign) {
        return sign >= '0' && sign <= '9';
    }

    /** A word of up to 8 letters is held as a number, five bits for a letter, so that names are compared by ==. */
    private static long withLetter(long code, int letter) {
        return code << 5 | (letter - 'a' + 1);
    }

    private static long codeOf(String word) {
        long code = 0;
        for (int i = 0; i < word.length(); i++) {
            code = withLetter(code, word.charAt(i));
        }
        return code;
    }

    /** The names of one sort, in the order in which they were told. */
    private static final class Names {
        private final long[] codes;
        private int count;

        Names(int limit) {
            codes = new long[limit];
        }

        boolean isFull() {
            return count >= codes.length;
        }

        int numberOf(long code) {
            for (int i = 0; i < count; i++) {
                if (codes[i] == code) {
                    return i;
                }
            }
            return NONE;
        }

        /** Adds a name while the list is not full; answers its number. */
        int add(long code) {
            codes[count] = code;
            count++;
            return count - 1;
        }
    }

    /** What a text tells; no change alters it. */
    private static final class Season {
        private int days = 1;
        private int doubleFee;
        private boolean isDoubleTold;
        private final Names halls = new Names(MAX_HALLS);
        private final int[] turns = new int[MAX_HALLS];
        private final Names players = new Names(MAX_PLAYERS);
        private final int[] contracts = new int[MAX_PLAYERS];
        private final int[] playerFees = new int[MAX_PLAYERS];
        private final int[] mainInstruments = new int[MAX_PLAYERS];
        private final int[] instrumentSets = new int[MAX_PLAYERS];
        private final int[] absences = new int[MAX_PLAYERS];
        private final Names instruments = new Names(MAX_INSTRUMENTS);
        private final Names works = new Names(MAX_WORKS);
        private final int[] needs = new int[MAX_WORKS];
        private final int[] firstDays = new int[MAX_WORKS];
        private final int[] lastDays = new int[MAX_WORKS];
        private final int[] workFees = new int[MAX_WORKS];
        private final int[] seatCounts = new int[MAX_WORKS];
        private final int[] seats = new int[MAX_WORKS * MAX_SEATS];

        /** Makes it ready for the next text, which tells the days in any case. */
        void clear() {
            doubleFee = 0;
            isDoubleTold = false;
            halls.count = 0;
            players.count = 0;
            instruments.count = 0;
            works.count = 0;
            for (int player = 0; player < MAX_PLAYERS; player++) {
                instrumentSets[player] = 0;
                absences[player] = 0;
            }
            for (int work = 0; work < MAX_WORKS; work++) {
                seatCounts[work] = 0;
            }
        }

        int slotCount() {
            return days * SLOTS_OF_DAY;
        }

        int instrumentOfSeat(int work, int seat) {
            return seats[work * MAX_SEATS + seat];
        }

        void addSeat(int work, int instrument) {
            seats[work * MAX_SEATS + seatCounts[work]] = instrument;
            seatCounts[work]++;
        }

        /** 1 if a player who has a seat of this instrument doubles, 0 if not. */
        int doublingOn(int player, int instrument) {
            return mainInstruments[player] == instrument ? 0 : 1;
        }

        int playersPresent(int day) {
            int present = 0;
            for (int player = 0; player < players.count; player++) {
                if (!has(absences[player], day)) {
                    present |= 1 << player;
                }
            }
            return present;
        }

        boolean areRentedOn(int workSet, int day) {
            for (int work = 0; work < works.count; work++) {
                if (has(workSet, work) && (day < firstDays[work] || day > lastDays[work])) {
                    return false;
                }
            }
            return true;
        }
    }

    /** Everything that changes can change: the services with their casts, and the contracts. */
    private static final class Plan {
        private static final int SEATS_OF_SERVICE = MAX_WORKS * MAX_SEATS;

        private int count;
        private final int[] slots = new int[MAX_SERVICES];
        private final int[] halls = new int[MAX_SERVICES];
        /** 1 for a concert, 0 for a rehearsal. */
        private final int[] concerts = new int[MAX_SERVICES];
        private final int[] workSets = new int[MAX_SERVICES];
        /** For each service the player of each seat of each work, NONE where the service has no such seat. */
        private final int[] casts = new int[MAX_SERVICES * SEATS_OF_SERVICE];
        private final int[] contracts = new int[MAX_PLAYERS];

        void begin(int[] firstContracts) {
            count = 0;
            System.arraycopy(firstContracts, 0, contracts, 0, MAX_PLAYERS);
        }

        void copyFrom(Plan other) {
            count = other.count;
            System.arraycopy(other.contracts, 0, contracts, 0, MAX_PLAYERS);
            copyServices(other, 0, 0, other.count);
        }

        private void copyServices(Plan other, int from, int to, int services) {
            System.arraycopy(other.slots, from, slots, to, services);
            System.arraycopy(other.halls, from, halls, to, services);
            System.arraycopy(other.concerts, from, concerts, to, services);
            System.arraycopy(other.workSets, from, workSets, to, services);
            System.arraycopy(other.casts, from * SEATS_OF_SERVICE, casts, to * SEATS_OF_SERVICE,
                    services * SEATS_OF_SERVICE);
        }

        /** Adds a service without a cast while there are fewer than 20; answers its number. */
        int insert(int hall, int slot, int workSet, boolean concert) {
            int number = 0;
            while (number < count && isEarlier(number, hall, slot)) {
                number++;
            }
            copyServices(this, number, number + 1, count - number);
            count++;
            slots[number] = slot;
            halls[number] = hall;
            concerts[number] = concert ? 1 : 0;
            workSets[number] = workSet;
            clearCast(number);
            return number;
        }

        private boolean isEarlier(int service, int hall, int slot) {
            return slots[service] < slot || slots[service] == slot && halls[service] < hall;
        }

        void remove(int service) {
            copyServices(this, service + 1, service, count - service - 1);
            count--;
        }

        void clearCast(int service) {
            for (int i = 0; i < SEATS_OF_SERVICE; i++) {
                casts[service * SEATS_OF_SERVICE + i] = NONE;
            }
        }

        void setCast(int service, int work, int[] players, int seatCount) {
            System.arraycopy(players, 0, casts, placeOf(service, work), seatCount);
        }

        int playerOn(int service, int work, int seat) {
            return casts[placeOf(service, work) + seat];
        }

        private static int placeOf(int service, int work) {
            return service * SEATS_OF_SERVICE + work * MAX_SEATS;
        }

        boolean isConcert(int service) {
            return concerts[service] == 1;
        }

        int playersIn(int service) {
            int players = 0;
            for (int i = 0; i < SEATS_OF_SERVICE; i++) {
                int player = casts[service * SEATS_OF_SERVICE + i];
                if (player != NONE) {
                    players |= 1 << player;
                }
            }
            return players;
        }

        int playersAt(int slot) {
            int players = 0;
            for (int service = 0; service < count; service++) {
                if (slots[service] == slot) {
                    players |= playersIn(service);
                }
            }
            return players;
        }

        int servicesOf(int player) {
            int services = 0;
            for (int service = 0; service < count; service++) {
                if (has(playersIn(service), player)) {
                    services++;
                }
            }
            return services;
        }

        /** Negative if services are missing to the contract. */
        int beyondContract(int player) {
            return servicesOf(player) - contracts[player];
        }

        /** The number of rehearsals or of concerts of a work at slots before one. */
        int servicesWith(int work, boolean concert, int beforeSlot) {
            int services = 0;
            for (int service = 0; service < count; service++) {
                if (isConcert(service) == concert && has(workSets[service], work) && slots[service] < beforeSlot) {
                    services++;
                }
            }
            return services;
        }

        int numberAt(int hall, int slot) {
            for (int service = 0; service < count; service++) {
                if (halls[service] == hall && slots[service] == slot) {
                    return service;
                }
            }
            return NONE;
        }

        boolean isHallTaken(int hall, int slot, int turn) {
            for (int service = 0; service < count; service++) {
                if (halls[service] == hall && Math.abs(slots[service] - slot) <= turn) {
                    return true;
                }
            }
            return false;
        }

        /** Whether one of its players is in another service at the same slot. */
        boolean sharesPlayers(int service) {
            for (int other = 0; other < count; other++) {
                if (other != service && slots[other] == slots[service]
                        && (playersIn(other) & playersIn(service)) != 0) {
                    return true;
                }
            }
            return false;
        }

        /** Whether somebody has two seats of one work in a service. */
        boolean hasPlayerTwice(int service) {
            for (int work = 0; work < MAX_WORKS; work++) {
                int seen = 0;
                for (int seat = 0; seat < MAX_SEATS; seat++) {
                    int player = playerOn(service, work, seat);
                    if (player != NONE && has(seen, player)) {
                        return true;
                    }
                    seen |= player == NONE ? 0 : 1 << player;
                }
            }
            return false;
        }
    }

    /** What a plan costs in a season. */
    private static final class Ledger {
        static int costsOf(Season season, Plan plan, int what) {
            switch (what) {
                case COSTS_RENT:
                    return rent(season, plan);
                case COSTS_OVERTIME:
                    return overtime(season, plan);
                case COSTS_DOUBLINGS:
                    return doublings(season, plan);
                default:
                    return rent(season, plan) + overtime(season, plan) + doublings(season, plan);
            }
        }

        private static int rent(Season season, Plan plan) {
            int sum = 0;
            for (int work = 0; work < season.works.count; work++) {
                sum += rentOf(season, plan, work);
            }
            return sum;
        }

        static int rentOf(Season season, Plan plan, int work) {
            int first = NONE;
            int last = NONE;
            for (int service = 0; service < plan.count; service++) {
                if (has(plan.workSets[service], work)) {
                    last = plan.slots[service] / SLOTS_OF_DAY;
                    first = first == NONE ? last : first;
                }
            }
            return first == NONE ? 0 : season.workFees[work] * (last - first + 1);
        }

        private static int overtime(Season season, Plan plan) {
            int sum = 0;
            for (int player = 0; player < season.players.count; player++) {
                sum += overtimeOf(season, plan, player);
            }
            return sum;
        }

        static int overtimeOf(Season season, Plan plan, int player) {
            return season.playerFees[player] * Math.max(0, plan.beyondContract(player));
        }

        private static int doublings(Season season, Plan plan) {
            int count = 0;
            for (int service = 0; service < plan.count; service++) {
                count += doublingsIn(season, plan, service);
            }
            return season.doubleFee * count;
        }

        static int doublingsIn(Season season, Plan plan, int service) {
            return doublingsBy(season, plan, service, firstBits(MAX_PLAYERS));
        }

        static int doublingsOf(Season season, Plan plan, int player) {
            int count = 0;
            for (int service = 0; service < plan.count; service++) {
                count += doublingsBy(season, plan, service, 1 << player);
            }
            return count;
        }

        private static int doublingsBy(Season season, Plan plan, int service, int players) {
            int count = 0;
            for (int work = 0; work < season.works.count; work++) {
                for (int seat = 0; seat < season.seatCounts[work]; seat++) {
                    int player = plan.playerOn(service, work, seat);
                    if (player != NONE && has(players, player)) {
                        count += season.doublingOn(player, season.instrumentOfSeat(work, seat));
                    }
                }
            }
            return count;
        }
    }

    /** Finds the cast of a work: the fewest doublings, then the smallest players from seat 0 on. */
    private static final class Caster {
        /** More doublings than there can be. */
        private static final int IMPOSSIBLE = 100;

        /** The player of each seat of the work that was cast last. */
        private final int[] cast = new int[MAX_SEATS];
        /**
         * For each set of players who have the first seats, the fewest doublings on the other seats: which of them
         * has which seat does not matter for these.
         */
        private final int[] fewest = new int[1 << MAX_PLAYERS];
        /** For each such set the first player on the next seat with whom the doublings are the fewest. */
        private final int[] firstPlayers = new int[1 << MAX_PLAYERS];

        /** Casts a work from free players; answers the number of doublings, NONE if there is no cast. */
        int castWork(Season season, int work, int free) {
            int seatCount = season.seatCounts[work];
            for (int seated = firstBits(MAX_PLAYERS); seated >= 0; seated--) {
                int seat = Integer.bitCount(seated);
                if (seat >= seatCount) {
                    fewest[seated] = 0;
                } else if ((seated & ~free) == 0) {
                    fillNextSeat(season, season.instrumentOfSeat(work, seat), free & ~seated, seated);
                }
            }
            int seated = 0;
            for (int seat = 0; seat < seatCount; seat++) {
                cast[seat] = firstPlayers[seated];
                seated |= 1 << cast[seat];
            }
            return fewest[0] >= IMPOSSIBLE ? NONE : fewest[0];
        }

        /** Candidates are tried from the first on, and only fewer doublings displace one: so the first one stays. */
        private void fillNextSeat(Season season, int instrument, int candidates, int seated) {
            fewest[seated] = IMPOSSIBLE;
            for (int player = 0; player < season.players.count; player++) {
                if (has(candidates, player) && has(season.instrumentSets[player], instrument)) {
                    int doublings = season.doublingOn(player, instrument) + fewest[seated | 1 << player];
                    if (doublings < fewest[seated]) {
                        fewest[seated] = doublings;
                        firstPlayers[seated] = player;
                    }
                }
            }
        }
    }

    /** Splits a text into tokens. */
    private static final class Reader {
        private final byte[] text;
        private final int length;
        private int next;
        /** The current token: its kind, its position, and its word's code or its number. */
        private int kind;
        private int start;
        private long word;
        private int number;

        Reader(byte[] text, int length) {
            this.text = text;
            this.length = length;
        }

        void advance() {
            while (next < length && (text[next] == ' ' || text[next] == '\n')) {
                next++;
            }
            start = next;
            word = 0;
            number = 0;
            if (next >= length) {
                kind = TOKEN_END;
            } else if (isLetter(text[next])) {
                while (next < length && isLetter(text[next])) {
                    word = withLetter(word, text[next]);
                    next++;
                }
                kind = next - start <= MAX_LETTERS ? TOKEN_WORD : TOKEN_INVALID;
            } else if (isDigit(text[next])) {
                while (next < length && isDigit(text[next])) {
                    number = number * 10 + (text[next] - '0');
                    next++;
                }
                kind = next - start <= MAX_DIGITS ? TOKEN_NUMBER : TOKEN_INVALID;
            } else {
                kind = text[next] == ';' ? TOKEN_SEMICOLON : TOKEN_INVALID;
                next++;
            }
        }
    }

    /** Reads a text into a season. Its methods answer false at the first error, which is then kept. */
    private static final class Parser {
        private final Reader reader;
        private final Season season;
        /** The code of the error, 0 as long as there is none. */
        private int error;
        private int errorAt = NONE;

        Parser(Reader reader, Season season) {
            this.reader = reader;
            this.season = season;
        }

        void read() {
            season.clear();
            reader.advance();
            boolean isRight = readDays();
            for (int i = 0; i < BUFFER_LIMIT && isRight && reader.kind != TOKEN_END; i++) {
                isRight = readStatement() && readSemicolon();
            }
        }

        private boolean readDays() {
            if (reader.kind != TOKEN_WORD || reader.word != codeOf("days")) {
                return fail(ERROR_SYNTAX);
            }
            reader.advance();
            if (!isNumber(1, MAX_DAYS)) {
                return false;
            }
            season.days = takeNumber();
            return readSemicolon();
        }

        private boolean readStatement() {
            if (reader.kind != TOKEN_WORD) {
                return fail(ERROR_SYNTAX);
            }
            if (reader.word == codeOf("hall")) {
                return readHall();
            }
            if (reader.word == codeOf("player")) {
                return readPlayer();
            }
            if (reader.word == codeOf("absent")) {
                return readAbsence();
            }
            if (reader.word == codeOf("work")) {
                return readWork();
            }
            if (reader.word == codeOf("double")) {
                return readDouble();
            }
            return fail(ERROR_SYNTAX);
        }

        private boolean readHall() {
            int hall = season.halls.count;
            if (!readNewName(season.halls) || !isNumber(0, MAX_TURN)) {
                return false;
            }
            season.turns[hall] = takeNumber();
            return true;
        }

        private boolean readPlayer() {
            int player = season.players.count;
            if (!readNewName(season.players) || !isNumber(0, MAX_CONTRACT)) {
                return false;
            }
            season.contracts[player] = takeNumber();
            if (!isNumber(0, MAX_FEE)) {
                return false;
            }
            season.playerFees[player] = takeNumber();
            for (int told = 0; told == 0 || told < BUFFER_LIMIT && reader.kind == TOKEN_WORD; told++) {
                if (!readInstrument(player, told)) {
                    return false;
                }
            }
            return true;
        }

        private boolean readInstrument(int player, int told) {
            if (reader.kind != TOKEN_WORD) {
                return fail(ERROR_SYNTAX);
            }
            int instrument = season.instruments.numberOf(reader.word);
            if (instrument != NONE && has(season.instrumentSets[player], instrument)) {
                return fail(ERROR_TWICE);
            }
            if (told >= MAX_INSTRUMENTS_OF_PLAYER || instrument == NONE && season.instruments.isFull()) {
                return fail(ERROR_TOO_MANY);
            }
            if (instrument == NONE) {
                instrument = season.instruments.add(reader.word);
            }
            if (told == 0) {
                season.mainInstruments[player] = instrument;
            }
            season.instrumentSets[player] |= 1 << instrument;
            reader.advance();
            return true;
        }

        private boolean readAbsence() {
            reader.advance();
            if (reader.kind != TOKEN_WORD) {
                return fail(ERROR_SYNTAX);
            }
            int player = season.players.numberOf(reader.word);
            if (player == NONE) {
                return fail(ERROR_UNKNOWN);
            }
            reader.advance();
            if (!isNumber(0, season.days - 1)) {
                return false;
            }
            if (has(season.absences[player], reader.number)) {
                return fail(ERROR_TWICE);
            }
            season.absences[player] |= 1 << takeNumber();
            return true;
        }

        private boolean readWork() {
            int work = season.works.count;
            if (!readNewName(season.works) || !isNumber(0, MAX_NEED)) {
                return false;
            }
            season.needs[work] = takeNumber();
            if (!isNumber(0, season.days - 1)) {
                return false;
            }
            season.firstDays[work] = takeNumber();
            if (!isNumber(season.firstDays[work], season.days - 1)) {
                return false;
            }
            season.lastDays[work] = takeNumber();
            if (!isNumber(0, MAX_FEE)) {
                return false;
            }
            season.workFees[work] = takeNumber();
            for (int told = 0; told == 0 || told < BUFFER_LIMIT && reader.kind == TOKEN_WORD; told++) {
                if (!readSeat(work)) {
                    return false;
                }
            }
            return true;
        }

        private boolean readSeat(int work) {
            if (reader.kind != TOKEN_WORD) {
                return fail(ERROR_SYNTAX);
            }
            int instrument = season.instruments.numberOf(reader.word);
            if (instrument == NONE) {
                return fail(ERROR_UNKNOWN);
            }
            if (season.seatCounts[work] >= MAX_SEATS) {
                return fail(ERROR_TOO_MANY);
            }
            season.addSeat(work, instrument);
            reader.advance();
            return true;
        }

        private boolean readDouble() {
            if (season.isDoubleTold) {
                return fail(ERROR_TWICE);
            }
            season.isDoubleTold = true;
            reader.advance();
            if (!isNumber(0, MAX_FEE)) {
                return false;
            }
            season.doubleFee = takeNumber();
            return true;
        }

        /** Reads the word of a hall, player or work, and its name. */
        private boolean readNewName(Names names) {
            if (names.isFull()) {
                return fail(ERROR_TOO_MANY);
            }
            reader.advance();
            if (reader.kind != TOKEN_WORD) {
                return fail(ERROR_SYNTAX);
            }
            if (names.numberOf(reader.word) != NONE) {
                return fail(ERROR_TWICE);
            }
            names.add(reader.word);
            reader.advance();
            return true;
        }

        private boolean isNumber(int least, int most) {
            if (reader.kind != TOKEN_NUMBER) {
                return fail(ERROR_SYNTAX);
            }
            return reader.number >= least && reader.number <= most || fail(ERROR_RANGE);
        }

        private int takeNumber() {
            int number = reader.number;
            reader.advance();
            return number;
        }

        private boolean readSemicolon() {
            if (reader.kind != TOKEN_SEMICOLON) {
                return fail(ERROR_SYNTAX);
            }
            reader.advance();
            return true;
        }

        private boolean fail(int code) {
            error = code;
            errorAt = reader.start;
            return false;
        }
    }
}
