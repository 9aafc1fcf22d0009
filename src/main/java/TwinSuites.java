/** The janitor of a palace who hands out rooms in powers of two and joins them again. */
public final class TwinSuites {
    public static final int UNKNOWN = -1;
    public static final int OUT_OF_RANGE = -2;
    public static final int FULL = -3;
    public static final int NOT_POSSIBLE = -4;
    public static final int NONE = -5;
    public static final int REFUSED = -10;

    private static final int ROOMS = 64;
    private static final int HOOKS = 12;
    private static final int LONGEST_OUTLOOK = 300;
    private static final int FAULTY_TEXT = -100;

    private final Palace palace = new Palace();
    private final Palace trial = new Palace();
    private final Palace snapshot = new Palace();
    private final History history = new History();
    private final Orders orders = new Orders();
    private boolean kept = false;

    public TwinSuites() {
    }

    // ---- changes

    public int come(int rooms, int days) {
        trial.copyFrom(palace);
        return settle(trial.admit(rooms, days));
    }

    public int leave(int guest) {
        trial.copyFrom(palace);
        return settle(trial.dismiss(guest));
    }

    public int move(int guest) {
        trial.copyFrom(palace);
        return settle(trial.rehouse(guest));
    }

    public int stay(int guest, int days) {
        trial.copyFrom(palace);
        return settle(trial.prolong(guest, days));
    }

    public int lose(int guest) {
        trial.copyFrom(palace);
        return settle(trial.loseKey(guest));
    }

    public int pass(int days) {
        trial.copyFrom(palace);
        return settle(trial.passDays(days));
    }

    public int set(int setting, int value) {
        trial.copyFrom(palace);
        return settle(trial.adjust(setting, value));
    }

    public int perform() {
        int fault = orders.read();
        if (fault != NONE) {
            return FAULTY_TEXT - fault;
        }
        trial.copyFrom(palace);
        int count = orders.count();
        for (int order = 0; order < count; order++) {
            int answer = trial.obey(orders.kind(order), orders.number(order), orders.days(order));
            if (answer < 0) {
                return answer;
            }
        }
        return settle(count);
    }

    /** Every change is tried on a copy first, so that an error leaves the palace as it was. */
    private int settle(int answer) {
        if (answer >= 0) {
            history.record(palace);
            palace.copyFrom(trial);
        }
        return answer;
    }

    // ---- texts

    public int type(char character) {
        return orders.append(character);
    }

    public int clearText() {
        return orders.empty();
    }

    // ---- history

    public int undo() {
        return history.takeBack(palace);
    }

    public int keep() {
        snapshot.copyFrom(palace);
        kept = true;
        return palace.daysSoFar();
    }

    public int restore() {
        if (!kept) {
            return NONE;
        }
        trial.copyFrom(snapshot);
        return settle(trial.daysSoFar());
    }

    // ---- what there is

    public int room(int room, int what) {
        return palace.ofRoom(room, what);
    }

    public int guest(int guest, int what) {
        return palace.ofGuest(guest, what);
    }

    public int hook(int hook) {
        return palace.ofHook(hook);
    }

    public int free(int size, int what) {
        return palace.ofFree(size, what);
    }

    public int greatest(int way) {
        return palace.greatestFree(way);
    }

    public int total(int what) {
        switch (what) {
            case 16:
                return history.count();
            case 17:
                return orders.length();
            default:
                return palace.ofWhole(what);
        }
    }

    // ---- what would be; nothing changes

    public int why(int rooms) {
        if (outside(rooms, 1, ROOMS)) {
            return OUT_OF_RANGE;
        }
        return palace.refusal(sizeFor(rooms));
    }

    public int ifCome(int rooms) {
        if (outside(rooms, 1, ROOMS)) {
            return OUT_OF_RANGE;
        }
        return palace.placeFor(sizeFor(rooms));
    }

    public int untilRoom(int rooms) {
        if (outside(rooms, 1, ROOMS)) {
            return OUT_OF_RANGE;
        }
        int size = sizeFor(rooms);
        trial.copyFrom(palace);
        for (int days = 0; days <= LONGEST_OUTLOOK; days++) {
            if (trial.placeFor(size) != NONE) {
                return days;
            }
            trial.passDay();
        }
        return NONE;
    }

    public int bestLeave() {
        int best = NONE;
        int most = 0;
        for (int guest = 0; guest < HOOKS; guest++) {
            trial.copyFrom(palace);
            int size = trial.greatestWithout(guest);
            if (size > most) {
                best = guest;
                most = size;
            }
        }
        return best;
    }

    public int ifPassed(int days, int what) {
        if (outside(days, 1, LONGEST_OUTLOOK) || outside(what, 0, 2)) {
            return OUT_OF_RANGE;
        }
        trial.copyFrom(palace);
        for (int day = 0; day < days; day++) {
            trial.passDay();
        }
        return trial.outlook(what);
    }

    // ---- what all parts use

    private static boolean outside(int number, int least, int most) {
        return number < least || number > most;
    }

    private static int sizeFor(int rooms) {
        int size = 1;
        for (int step = 0; step < 6 && size < rooms; step++) {
            size = 2 * size;
        }
        return size;
    }

    /** The state: everything except the text, the history and the snapshot. */
    private static final class Palace {
        private static final int SETTINGS = 3;
        private static final int SIDE = 0;
        private static final int BROOM = 1;
        private static final int CUT = 2;
        private static final int[] LEAST = {0, 1, 0};
        private static final int[] MOST = {1, 64, 9};

        private static final int LONGEST_BOOKING = 30;
        private static final int LONGEST_STAY = 99;
        private static final int LONGEST_PASSING = 50;
        private static final int LAST_DAY = 9999;

        private final Suites suites = new Suites();
        private final Hooks hooks = new Hooks();
        private final Laundry laundry = new Laundry();
        private final int[] settings = {0, 8, 2};
        private int days = 0;

        void copyFrom(Palace other) {
            if (other == null) {
                return;
            }
            suites.copyFrom(other.suites);
            hooks.copyFrom(other.hooks);
            laundry.copyFrom(other.laundry);
            System.arraycopy(other.settings, 0, settings, 0, SETTINGS);
            days = other.days;
        }

        int daysSoFar() {
            return days;
        }

        // ---- changes

        int admit(int rooms, int daysWanted) {
            if (outside(rooms, 1, ROOMS) || outside(daysWanted, 1, LONGEST_BOOKING)) {
                return OUT_OF_RANGE;
            }
            int size = sizeFor(rooms);
            int reason = refusal(size);
            if (reason != 0) {
                return REFUSED - reason;
            }
            int guest = hooks.lowestWithKey();
            int first = suites.take(size, settings[SIDE], guest);
            hooks.give(guest, rooms, daysWanted, first);
            return guest;
        }

        int dismiss(int guest) {
            if (!hooks.hasGuest(guest)) {
                return UNKNOWN;
            }
            int first = hooks.firstRoom(guest);
            soil(first);
            hooks.giveBack(guest, settings[CUT]);
            return suites.sizeAt(first);
        }

        int rehouse(int guest) {
            if (!hooks.hasGuest(guest)) {
                return UNKNOWN;
            }
            int size = sizeFor(hooks.wanted(guest));
            if (lackOfRoom(size) != 0) {
                return NOT_POSSIBLE;
            }
            int old = hooks.firstRoom(guest);
            int first = suites.take(size, settings[SIDE], guest);
            soil(old);
            hooks.moveTo(guest, first);
            return first;
        }

        private void soil(int first) {
            suites.giveTo(first, Suites.DIRTY);
            laundry.append(first);
        }

        int prolong(int guest, int more) {
            if (!hooks.hasGuest(guest)) {
                return UNKNOWN;
            }
            if (outside(more, 1, LONGEST_BOOKING)) {
                return OUT_OF_RANGE;
            }
            if (hooks.daysLeft(guest) + more > LONGEST_STAY) {
                return NOT_POSSIBLE;
            }
            return hooks.addDays(guest, more);
        }

        int loseKey(int guest) {
            if (!hooks.hasGuest(guest)) {
                return UNKNOWN;
            }
            if (hooks.lost(guest) == 1) {
                return NONE;
            }
            hooks.loseKey(guest);
            return hooks.countLost();
        }

        int passDays(int count) {
            if (outside(count, 1, LONGEST_PASSING)) {
                return OUT_OF_RANGE;
            }
            if (days + count > LAST_DAY) {
                return NOT_POSSIBLE;
            }
            for (int day = 0; day < count; day++) {
                passDay();
            }
            return suites.countRooms(Suites.FREE);
        }

        void passDay() {
            // Ahead of the leaving: a key that is lost by who leaves today is cut from tomorrow on.
            hooks.cutKeys();
            for (int guest = 0; guest < HOOKS; guest++) {
                if (hooks.hasGuest(guest) && hooks.addDays(guest, -1) <= 0) {
                    dismiss(guest);
                }
            }
            clean(settings[BROOM]);
            days++;
        }

        private void clean(int rooms) {
            for (int done = 0; done < rooms && !laundry.isEmpty(); done++) {
                int first = laundry.foremost();
                if (laundry.cleanRoom() >= suites.sizeAt(first)) {
                    laundry.removeForemost();
                    suites.release(first);
                }
            }
        }

        int adjust(int setting, int value) {
            if (outside(setting, 0, SETTINGS - 1)) {
                return UNKNOWN;
            }
            if (outside(value, LEAST[setting], MOST[setting])) {
                return OUT_OF_RANGE;
            }
            int previous = settings[setting];
            if (previous == value) {
                return NONE;
            }
            settings[setting] = value;
            return previous;
        }

        int obey(int kind, int number, int daysWanted) {
            switch (kind) {
                case Orders.COME:
                    return admit(number, daysWanted);
                case Orders.LEAVE:
                    return dismiss(number);
                default:
                    return passDays(number);
            }
        }

        // ---- what would be

        int refusal(int size) {
            if (hooks.lowestWithKey() == NONE) {
                return 1;
            }
            return lackOfRoom(size);
        }

        private int lackOfRoom(int size) {
            if (suites.countRooms(Suites.FREE) < size) {
                return 2;
            }
            if (suites.greatestBySuites() < size) {
                return 3;
            }
            return 0;
        }

        int placeFor(int size) {
            return suites.placeFor(size, settings[SIDE]);
        }

        /** Spoils this palace: its guest's suite is free at once, without the day's cleaning. */
        int greatestWithout(int guest) {
            if (!hooks.hasGuest(guest)) {
                return 0;
            }
            suites.release(hooks.firstRoom(guest));
            return suites.greatestBySuites();
        }

        int outlook(int what) {
            switch (what) {
                case 0:
                    return suites.countRooms(Suites.FREE);
                case 1:
                    return suites.greatestBySuites();
                default:
                    return hooks.countGuests();
            }
        }

        // ---- what there is

        int ofRoom(int room, int what) {
            if (outside(room, 0, ROOMS - 1)) {
                return UNKNOWN;
            }
            switch (what) {
                case 0:
                    return suites.firstAt(room);
                case 1:
                    return suites.sizeAt(room);
                case 2:
                    return suites.conditionAt(room);
                case 3:
                    return suites.guestAt(room);
                case 4:
                    return suites.twinAt(room);
                case 5:
                    return suites.hasWholeTwin(room) ? 1 : 0;
                default:
                    return OUT_OF_RANGE;
            }
        }

        int ofGuest(int guest, int what) {
            if (!hooks.hasGuest(guest)) {
                return UNKNOWN;
            }
            switch (what) {
                case 0:
                    return hooks.wanted(guest);
                case 1:
                    return suites.sizeAt(hooks.firstRoom(guest));
                case 2:
                    return hooks.firstRoom(guest);
                case 3:
                    return hooks.daysLeft(guest);
                case 4:
                    return hooks.lost(guest);
                case 5:
                    return hooks.moves(guest);
                default:
                    return OUT_OF_RANGE;
            }
        }

        int ofHook(int hook) {
            if (outside(hook, 0, HOOKS - 1)) {
                return UNKNOWN;
            }
            if (hooks.hasGuest(hook)) {
                return 1 + hooks.firstRoom(hook);
            }
            int daysOfCutting = hooks.daysOfCutting(hook);
            return daysOfCutting > 0 ? -10 - daysOfCutting : 0;
        }

        int ofFree(int size, int what) {
            boolean isSize = !outside(size, 1, ROOMS) && sizeFor(size) == size;
            if (!isSize || outside(what, 0, 1)) {
                return OUT_OF_RANGE;
            }
            return what == 0 ? suites.countFree(size) : suites.lowestFree(size);
        }

        int greatestFree(int way) {
            switch (way) {
                case 0:
                    return suites.greatestBySuites();
                case 1:
                    return suites.greatestByRooms();
                default:
                    return OUT_OF_RANGE;
            }
        }

        int ofWhole(int what) {
            switch (what) {
                case 0:
                case 1:
                case 2:
                    return settings[what];
                case 3:
                    return days;
                case 4:
                    return hooks.countGuests();
                case 5:
                    return suites.countRooms(Suites.FREE);
                case 6:
                    return roomsOfGuests();
                case 7:
                    return suites.countRooms(Suites.DIRTY);
                case 8:
                    return roomsOfGuests() - hooks.allWanted();
                case 9:
                    return suites.countSuites();
                case 10:
                    return suites.halvings();
                case 11:
                    return suites.joins();
                case 12:
                    return hooks.guestsSoFar();
                case 13:
                    return laundry.cleanedSoFar();
                case 14:
                    return hooks.lostSoFar();
                case 15:
                    return hooks.countCutting();
                default:
                    return OUT_OF_RANGE;
            }
        }

        private int roomsOfGuests() {
            return ROOMS - suites.countRooms(Suites.FREE) - suites.countRooms(Suites.DIRTY);
        }
    }

    /**
     * The rooms in their suites. Each room tells the size of its suite and who has it;
     * as a suite begins at a multiple of its size, the size alone tells where.
     */
    private static final class Suites {
        static final int FREE = -1;
        static final int DIRTY = -2;
        private static final int MOST_STEPS = 6;

        private final int[] size = new int[ROOMS];
        private final int[] holder = new int[ROOMS];
        private int halvings = 0;
        private int joins = 0;

        Suites() {
            for (int room = 0; room < ROOMS; room++) {
                size[room] = ROOMS;
                holder[room] = FREE;
            }
        }

        void copyFrom(Suites other) {
            if (other == null) {
                return;
            }
            System.arraycopy(other.size, 0, size, 0, ROOMS);
            System.arraycopy(other.holder, 0, holder, 0, ROOMS);
            halvings = other.halvings;
            joins = other.joins;
        }

        // ---- changes

        /** Returns the lowest room of the suite that is the holder's then, NONE if there is no place. */
        int take(int wanted, int side, int newHolder) {
            int first = placeFor(wanted, side);
            if (!isRoom(first)) {
                return NONE;
            }
            for (int step = 0; step < MOST_STEPS && size[first] > wanted; step++) {
                halve(first);
            }
            giveTo(first, newHolder);
            return first;
        }

        private void halve(int room) {
            int half = sizeAt(room) / 2;
            int first = firstAt(room);
            mark(first, half, FREE);
            mark(first + half, half, FREE);
            halvings++;
        }

        void giveTo(int first, int newHolder) {
            if (isRoom(first)) {
                mark(first, size[first], newHolder);
            }
        }

        void release(int first) {
            giveTo(first, FREE);
            for (int step = 0; step < MOST_STEPS; step++) {
                int twin = twinAt(first);
                if (sizeAt(twin) != sizeAt(first) || holderAt(twin) != FREE) {
                    return;
                }
                mark(Math.min(firstAt(first), twin), 2 * sizeAt(first), FREE);
                joins++;
            }
        }

        private void mark(int first, int rooms, int newHolder) {
            if (first < 0 || first > ROOMS - rooms) {
                return;
            }
            for (int room = first; room < first + rooms && room < ROOMS; room++) {
                size[room] = rooms;
                holder[room] = newHolder;
            }
        }

        // ---- the suite of a room

        int sizeAt(int room) {
            return isRoom(room) ? size[room] : 0;
        }

        int firstAt(int room) {
            return isRoom(room) ? room & -size[room] : NONE;
        }

        private int holderAt(int room) {
            return isRoom(room) ? holder[room] : DIRTY;
        }

        private static boolean isRoom(int room) {
            return room >= 0 && room < ROOMS;
        }

        int conditionAt(int room) {
            switch (holderAt(room)) {
                case FREE:
                    return 0;
                case DIRTY:
                    return 2;
                default:
                    return 1;
            }
        }

        int guestAt(int room) {
            return holderAt(room) < 0 ? NONE : holderAt(room);
        }

        int twinAt(int room) {
            if (!isRoom(room) || size[room] == ROOMS) {
                return NONE;
            }
            return (room & -size[room]) ^ size[room];
        }

        boolean hasWholeTwin(int room) {
            return sizeAt(twinAt(room)) == sizeAt(room);
        }

        private boolean beginsFree(int room) {
            return isRoom(room) && holder[room] == FREE && (room & -size[room]) == room;
        }

        // ---- all suites

        /** Returns the lowest room that a suite of this size would get, NONE if there is no place. */
        int placeFor(int wanted, int side) {
            int first = NONE;
            int least = ROOMS + 1;
            for (int room = 0; room < ROOMS; room++) {
                boolean better = size[room] < least || side == 1 && size[room] == least;
                if (beginsFree(room) && size[room] >= wanted && better) {
                    first = room;
                    least = size[room];
                }
            }
            return side == 1 && first != NONE ? first + least - wanted : first;
        }

        int countRooms(int whose) {
            int count = 0;
            for (int room = 0; room < ROOMS; room++) {
                if (holder[room] == whose) {
                    count++;
                }
            }
            return count;
        }

        int countSuites() {
            int count = 0;
            for (int room = 0; room < ROOMS; room++) {
                if (firstAt(room) == room) {
                    count++;
                }
            }
            return count;
        }

        int countFree(int ofSize) {
            int count = 0;
            for (int room = 0; room < ROOMS; room++) {
                if (beginsFree(room) && size[room] == ofSize) {
                    count++;
                }
            }
            return count;
        }

        int lowestFree(int ofSize) {
            for (int room = 0; room < ROOMS; room++) {
                if (beginsFree(room) && size[room] == ofSize) {
                    return room;
                }
            }
            return NONE;
        }

        int greatestBySuites() {
            int greatest = 0;
            for (int room = 0; room < ROOMS; room++) {
                if (beginsFree(room)) {
                    greatest = Math.max(greatest, size[room]);
                }
            }
            return greatest;
        }

        int greatestByRooms() {
            int greatest = 0;
            for (int step = 0; step <= MOST_STEPS; step++) {
                if (hasFreePlace(1 << step)) {
                    greatest = 1 << step;
                }
            }
            return greatest;
        }

        private boolean hasFreePlace(int ofSize) {
            int freeInPlace = 0;
            for (int room = 0; room < ROOMS; room++) {
                if ((room & (ofSize - 1)) == 0) {
                    freeInPlace = 0;
                }
                if (holder[room] == FREE) {
                    freeInPlace++;
                }
                if (freeInPlace == ofSize) {
                    return true;
                }
            }
            return false;
        }

        int halvings() {
            return halvings;
        }

        int joins() {
            return joins;
        }
    }

    /** The hooks, their keys, and the guests who are numbered like them. */
    private static final class Hooks {
        // Where nobody has the key, wanted is 0; where the key is not being cut, cutting is.
        private final int[] wanted = new int[HOOKS];
        private final int[] firstRoom = new int[HOOKS];
        private final int[] daysLeft = new int[HOOKS];
        private final int[] lost = new int[HOOKS];
        private final int[] moves = new int[HOOKS];
        private final int[] cutting = new int[HOOKS];
        private int guestsSoFar = 0;
        private int lostSoFar = 0;

        void copyFrom(Hooks other) {
            if (other == null) {
                return;
            }
            System.arraycopy(other.wanted, 0, wanted, 0, HOOKS);
            System.arraycopy(other.firstRoom, 0, firstRoom, 0, HOOKS);
            System.arraycopy(other.daysLeft, 0, daysLeft, 0, HOOKS);
            System.arraycopy(other.lost, 0, lost, 0, HOOKS);
            System.arraycopy(other.moves, 0, moves, 0, HOOKS);
            System.arraycopy(other.cutting, 0, cutting, 0, HOOKS);
            guestsSoFar = other.guestsSoFar;
            lostSoFar = other.lostSoFar;
        }

        boolean hasGuest(int hook) {
            return isHook(hook) && wanted[hook] > 0;
        }

        private static boolean isHook(int hook) {
            return hook >= 0 && hook < HOOKS;
        }

        int lowestWithKey() {
            for (int hook = 0; hook < HOOKS; hook++) {
                if (wanted[hook] == 0 && cutting[hook] == 0) {
                    return hook;
                }
            }
            return NONE;
        }

        // ---- changes

        void give(int hook, int rooms, int days, int first) {
            if (!isHook(hook)) {
                return;
            }
            wanted[hook] = rooms;
            firstRoom[hook] = first;
            daysLeft[hook] = days;
            lost[hook] = 0;
            moves[hook] = 0;
            guestsSoFar++;
        }

        void giveBack(int hook, int daysOfCutting) {
            if (!isHook(hook)) {
                return;
            }
            wanted[hook] = 0;
            cutting[hook] = lost[hook] == 1 ? daysOfCutting : 0;
        }

        void moveTo(int guest, int first) {
            if (!isHook(guest)) {
                return;
            }
            firstRoom[guest] = first;
            moves[guest]++;
        }

        int addDays(int guest, int more) {
            if (!isHook(guest)) {
                return 0;
            }
            daysLeft[guest] += more;
            return daysLeft[guest];
        }

        void loseKey(int guest) {
            if (!isHook(guest)) {
                return;
            }
            lost[guest] = 1;
            lostSoFar++;
        }

        void cutKeys() {
            for (int hook = 0; hook < HOOKS; hook++) {
                cutting[hook] = Math.max(cutting[hook] - 1, 0);
            }
        }

        // ---- one guest or hook

        int wanted(int guest) {
            return isHook(guest) ? wanted[guest] : 0;
        }

        int firstRoom(int guest) {
            return isHook(guest) ? firstRoom[guest] : NONE;
        }

        int daysLeft(int guest) {
            return isHook(guest) ? daysLeft[guest] : 0;
        }

        int lost(int guest) {
            return isHook(guest) ? lost[guest] : 0;
        }

        int moves(int guest) {
            return isHook(guest) ? moves[guest] : 0;
        }

        int daysOfCutting(int hook) {
            return isHook(hook) ? cutting[hook] : 0;
        }

        // ---- all

        int countGuests() {
            int count = 0;
            for (int hook = 0; hook < HOOKS; hook++) {
                if (hasGuest(hook)) {
                    count++;
                }
            }
            return count;
        }

        int countLost() {
            int count = 0;
            for (int hook = 0; hook < HOOKS; hook++) {
                if (hasGuest(hook) && lost[hook] == 1) {
                    count++;
                }
            }
            return count;
        }

        int countCutting() {
            int count = 0;
            for (int hook = 0; hook < HOOKS; hook++) {
                if (cutting[hook] > 0) {
                    count++;
                }
            }
            return count;
        }

        int allWanted() {
            int sum = 0;
            for (int hook = 0; hook < HOOKS; hook++) {
                sum += wanted[hook];
            }
            return sum;
        }

        int guestsSoFar() {
            return guestsSoFar;
        }

        int lostSoFar() {
            return lostSoFar;
        }
    }

    /** The dirty suites by their lowest rooms, in the order in which they became dirty. */
    private static final class Laundry {
        private final int[] waiting = new int[ROOMS];
        private int count = 0;
        // Only the foremost suite can be half done.
        private int cleanedOfForemost = 0;
        private int cleanedSoFar = 0;

        void copyFrom(Laundry other) {
            if (other == null) {
                return;
            }
            System.arraycopy(other.waiting, 0, waiting, 0, ROOMS);
            count = other.count;
            cleanedOfForemost = other.cleanedOfForemost;
            cleanedSoFar = other.cleanedSoFar;
        }

        boolean isEmpty() {
            return count == 0;
        }

        int foremost() {
            return count > 0 ? waiting[0] : NONE;
        }

        void append(int first) {
            if (outside(count, 0, ROOMS - 1)) {
                return;
            }
            waiting[count] = first;
            count++;
        }

        /** Returns how many rooms of the foremost suite are clean then. */
        int cleanRoom() {
            cleanedOfForemost++;
            cleanedSoFar++;
            return cleanedOfForemost;
        }

        void removeForemost() {
            if (count == 0) {
                return;
            }
            for (int place = 1; place < ROOMS; place++) {
                waiting[place - 1] = waiting[place];
            }
            count--;
            cleanedOfForemost = 0;
        }

        int cleanedSoFar() {
            return cleanedSoFar;
        }
    }

    /** The states before the latest changes, the oldest first. */
    private static final class History {
        private static final int MOST_STATES = 4;

        private final Palace[] states = new Palace[MOST_STATES];
        private int count = 0;

        History() {
            for (int state = 0; state < MOST_STATES; state++) {
                states[state] = new Palace();
            }
        }

        void record(Palace palace) {
            if (count == MOST_STATES) {
                dropOldest();
            }
            if (outside(count, 0, MOST_STATES - 1) || states[count] == null) {
                return;
            }
            states[count].copyFrom(palace);
            count++;
        }

        private void dropOldest() {
            Palace oldest = states[0];
            for (int state = 1; state < MOST_STATES; state++) {
                states[state - 1] = states[state];
            }
            // Used again for the newest state, so that no call makes an object.
            states[MOST_STATES - 1] = oldest;
            count--;
        }

        int takeBack(Palace palace) {
            if (outside(count, 1, MOST_STATES) || palace == null) {
                return NONE;
            }
            count--;
            palace.copyFrom(states[count]);
            return count;
        }

        int count() {
            return count;
        }
    }

    /** The text, and the orders that were read from it. */
    private static final class Orders {
        static final int COME = 0;
        static final int LEAVE = 1;
        static final int PASS = 2;
        private static final int LONGEST_TEXT = 60;
        private static final int MOST_ROOMS = 64;
        private static final int MOST_DAYS = 30;
        private static final int LAST_HOOK = 11;
        private static final int END = -1;

        private final char[] text = new char[LONGEST_TEXT];
        private int length = 0;

        private final int[] kind = new int[LONGEST_TEXT];
        private final int[] number = new int[LONGEST_TEXT];
        private final int[] days = new int[LONGEST_TEXT];
        private int count = 0;
        private int at = 0;

        int append(char character) {
            if (outside(length, 0, LONGEST_TEXT - 1)) {
                return FULL;
            }
            text[length] = character;
            length++;
            return length;
        }

        int empty() {
            int had = length;
            length = 0;
            return had;
        }

        int length() {
            return length;
        }

        int count() {
            return count;
        }

        int kind(int order) {
            return isOrder(order) ? kind[order] : PASS;
        }

        int number(int order) {
            return isOrder(order) ? number[order] : 0;
        }

        int days(int order) {
            return isOrder(order) ? days[order] : 0;
        }

        private static boolean isOrder(int order) {
            return order >= 0 && order < LONGEST_TEXT;
        }

        /** Returns the fault of the text, NONE if it has none. */
        int read() {
            count = 0;
            at = 0;
            for (int order = 0; order < LONGEST_TEXT; order++) {
                if (!readOrder(order)) {
                    return at;
                }
                count = order + 1;
                if (here() == END) {
                    return NONE;
                }
                if (!readSign(',')) {
                    return at;
                }
            }
            return at;
        }

        // What reads stops at the first character that is not allowed: there the fault is.

        private boolean readOrder(int order) {
            if (readSign('.')) {
                return keepOrder(order, PASS, readDaysToPass(), 0);
            }
            if (readSign('-')) {
                int hook = readNumber(0, LAST_HOOK);
                return hook != NONE && keepOrder(order, LEAVE, hook, 0);
            }
            int rooms = readNumber(1, MOST_ROOMS);
            if (rooms == NONE || !readSign('x')) {
                return false;
            }
            int daysWanted = readNumber(1, MOST_DAYS);
            return daysWanted != NONE && keepOrder(order, COME, rooms, daysWanted);
        }

        private boolean keepOrder(int order, int ofKind, int ofNumber, int ofDays) {
            if (!isOrder(order)) {
                return false;
            }
            kind[order] = ofKind;
            number[order] = ofNumber;
            days[order] = ofDays;
            return true;
        }

        private int readDaysToPass() {
            int digit = digitHere();
            if (digit < 2) {
                return 1;
            }
            at++;
            return digit;
        }

        /** Returns NONE if no number begins here; a digit by which it would be too great is left. */
        private int readNumber(int least, int most) {
            int value = digitHere();
            if (value < least) {
                return NONE;
            }
            at++;
            for (int step = 0; step < LONGEST_TEXT; step++) {
                int digit = digitHere();
                if (digit == NONE || value == 0 || 10 * value + digit > most) {
                    return value;
                }
                value = 10 * value + digit;
                at++;
            }
            return value;
        }

        private boolean readSign(char sign) {
            if (here() != sign) {
                return false;
            }
            at++;
            return true;
        }

        private int digitHere() {
            int sign = here();
            return sign < '0' || sign > '9' ? NONE : sign - '0';
        }

        private int here() {
            return outside(at, 0, Math.min(length, LONGEST_TEXT) - 1) ? END : text[at];
        }
    }
}
