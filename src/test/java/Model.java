import java.util.ArrayDeque;
import java.util.ArrayList;
import java.util.Deque;
import java.util.List;
import java.util.TreeMap;
import java.util.function.ToIntFunction;
import java.util.regex.Matcher;
import java.util.regex.Pattern;

/**
 * The document told a second time, as objects in sorted maps and lists and with the texts as a
 * regular expression, so that a slip in the one telling is not made in the other as well.
 */
final class Model {
    private static final Pattern TEXT = pattern();

    static final class Suite {
        int size;
        boolean dirty;
        Guest guest;

        Suite(int size) {
            this.size = size;
        }

        boolean free() {
            return !dirty && guest == null;
        }
    }

    static final class Guest {
        int rooms;
        int days;
        boolean lost;
        int moved;
    }

    static final class State {
        TreeMap<Integer, Suite> suites = new TreeMap<>();
        TreeMap<Integer, Guest> guests = new TreeMap<>();
        TreeMap<Integer, Integer> cutting = new TreeMap<>();
        List<Integer> dirtyRooms = new ArrayList<>();
        int[] settings = {0, 8, 2};
        int days;
        int halvings;
        int joins;
        int came;
        int cleaned;
        int lost;

        State copy() {
            State c = new State();
            guests.forEach((number, g) -> {
                Guest n = new Guest();
                n.rooms = g.rooms;
                n.days = g.days;
                n.lost = g.lost;
                n.moved = g.moved;
                c.guests.put(number, n);
            });
            suites.forEach((first, s) -> {
                Suite n = new Suite(s.size);
                n.dirty = s.dirty;
                n.guest = s.guest == null ? null : c.guests.get(numberOf(s.guest));
                c.suites.put(first, n);
            });
            c.cutting.putAll(cutting);
            c.dirtyRooms.addAll(dirtyRooms);
            c.settings = settings.clone();
            c.days = days;
            c.halvings = halvings;
            c.joins = joins;
            c.came = came;
            c.cleaned = cleaned;
            c.lost = lost;
            return c;
        }

        int numberOf(Guest guest) {
            return guests.keySet().stream().filter(n -> guests.get(n) == guest).findFirst().orElse(-5);
        }

        int home(Guest guest) {
            return suites.keySet().stream().filter(f -> suites.get(f).guest == guest).findFirst().orElseThrow();
        }

        int rooms(java.util.function.Predicate<Suite> which) {
            return suites.values().stream().filter(which).mapToInt(s -> s.size).sum();
        }

        int greatest() {
            return suites.values().stream().filter(Suite::free).mapToInt(s -> s.size).max().orElse(0);
        }

        int greatestByRooms() {
            boolean[] free = new boolean[64];
            suites.forEach((first, s) -> {
                for (int r = first; r < first + s.size; r++) {
                    free[r] = s.free();
                }
            });
            for (int size = 64; size > 0; size /= 2) {
                for (int place = 0; place < 64; place += size) {
                    boolean all = true;
                    for (int r = place; r < place + size; r++) {
                        all &= free[r];
                    }
                    if (all) {
                        return size;
                    }
                }
            }
            return 0;
        }

        /** The free suite that is taken for the size, -5 if none is large enough. */
        int taken(int size) {
            int best = -5;
            for (int first : settings[0] == 0 ? suites.keySet() : suites.descendingKeySet()) {
                Suite s = suites.get(first);
                if (s.free() && s.size >= size && (best < 0 || s.size < suites.get(best).size)) {
                    best = first;
                }
            }
            return best;
        }

        int place(int size) {
            int first = taken(size);
            return first < 0 || settings[0] == 0 ? first : first + suites.get(first).size - size;
        }

        int cut(int size) {
            int first = taken(size);
            while (suites.get(first).size > size) {
                int half = suites.get(first).size / 2;
                suites.put(first, new Suite(half));
                suites.put(first + half, new Suite(half));
                halvings++;
                first += settings[0] * half;
            }
            return first;
        }

        int reason(int size) {
            int hook = 0;
            while (guests.containsKey(hook) || cutting.containsKey(hook)) {
                hook++;
            }
            return hook > 11 ? 1 : room(size);
        }

        int room(int size) {
            return rooms(Suite::free) < size ? 2 : taken(size) < 0 ? 3 : 0;
        }

        void join(int first) {
            Suite s = suites.get(first);
            int twinFirst = first / s.size % 2 == 0 ? first + s.size : first - s.size;
            Suite twin = s.size == 64 ? null : suites.get(twinFirst);
            if (twin != null && twin.free() && twin.size == s.size) {
                suites.remove(first);
                suites.remove(twinFirst);
                suites.put(Math.min(first, twinFirst), new Suite(2 * s.size));
                joins++;
                join(Math.min(first, twinFirst));
            }
        }

        void soil(int first) {
            Suite s = suites.get(first);
            s.guest = null;
            s.dirty = true;
            for (int r = 0; r < s.size; r++) {
                dirtyRooms.add(first + r);
            }
        }

        int come(int rooms, int stay) {
            if (rooms < 1 || rooms > 64 || stay < 1 || stay > 30) {
                return -2;
            }
            int reason = reason(size(rooms));
            if (reason > 0) {
                return -10 - reason;
            }
            int hook = 0;
            while (guests.containsKey(hook) || cutting.containsKey(hook)) {
                hook++;
            }
            Guest g = new Guest();
            g.rooms = rooms;
            g.days = stay;
            suites.get(cut(size(rooms))).guest = g;
            guests.put(hook, g);
            came++;
            return hook;
        }

        int leave(int number) {
            Guest g = guests.get(number);
            if (g == null) {
                return -1;
            }
            int first = home(g);
            soil(first);
            guests.remove(number);
            if (g.lost && settings[2] > 0) {
                cutting.put(number, settings[2]);
            }
            return suites.get(first).size;
        }

        int move(int number) {
            Guest g = guests.get(number);
            if (g == null) {
                return -1;
            }
            if (room(size(g.rooms)) > 0) {
                return -4;
            }
            int old = home(g);
            int now = cut(size(g.rooms));
            soil(old);
            suites.get(now).guest = g;
            g.moved++;
            return now;
        }

        int pass(int count) {
            if (count < 1 || count > 50) {
                return -2;
            }
            if (days + count > 9999) {
                return -4;
            }
            for (int i = 0; i < count; i++) {
                day();
            }
            return rooms(Suite::free);
        }

        void day() {
            List<Integer> cutBefore = new ArrayList<>(cutting.keySet());
            for (int number : new ArrayList<>(guests.keySet())) {
                if (--guests.get(number).days == 0) {
                    leave(number);
                }
            }
            for (int broom = settings[1]; broom > 0 && !dirtyRooms.isEmpty(); broom--) {
                int room = dirtyRooms.remove(0);
                cleaned++;
                int first = suites.floorKey(room);
                if (room == first + suites.get(first).size - 1) {
                    suites.get(first).dirty = false;
                    join(first);
                }
            }
            for (int hook : cutBefore) {
                cutting.compute(hook, (h, left) -> left == 1 ? null : left - 1);
            }
            days++;
        }
    }

    State now = new State();
    State kept;
    Deque<State> history = new ArrayDeque<>();
    String text = "";

    Model() {
        now.suites.put(0, new Suite(64));
    }

    static int size(int rooms) {
        int size = 1;
        while (size < rooms) {
            size *= 2;
        }
        return size;
    }

    int change(ToIntFunction<State> change) {
        State before = now.copy();
        int answer = change.applyAsInt(now);
        if (answer < 0) {
            now = before;
            return answer;
        }
        if (history.size() == 4) {
            history.removeFirst();
        }
        history.addLast(before);
        return answer;
    }

    int come(int rooms, int days) {
        return change(s -> s.come(rooms, days));
    }

    int leave(int guest) {
        return change(s -> s.leave(guest));
    }

    int move(int guest) {
        return change(s -> s.move(guest));
    }

    int stay(int guest, int days) {
        return change(s -> {
            Guest g = s.guests.get(guest);
            if (g == null) {
                return -1;
            }
            if (days < 1 || days > 30) {
                return -2;
            }
            return g.days + days > 99 ? -4 : (g.days += days);
        });
    }

    int lose(int guest) {
        return change(s -> {
            Guest g = s.guests.get(guest);
            if (g == null) {
                return -1;
            }
            if (g.lost) {
                return -5;
            }
            g.lost = true;
            s.lost++;
            return (int) s.guests.values().stream().filter(x -> x.lost).count();
        });
    }

    int pass(int days) {
        return change(s -> s.pass(days));
    }

    int set(int setting, int value) {
        return change(s -> {
            if (setting < 0 || setting > 2) {
                return -1;
            }
            if (value < (setting == 1 ? 1 : 0) || value > new int[] {1, 64, 9}[setting]) {
                return -2;
            }
            int previous = s.settings[setting];
            s.settings[setting] = value;
            return previous == value ? -5 : previous;
        });
    }

    private static Pattern pattern() {
        String order = "(?:(?:[1-9]|[1-5][0-9]|6[0-4])x(?:[1-9]|[12][0-9]|30)|-(?:[0-9]|1[01])|\\.[2-9]?)";
        return Pattern.compile(order + "(?:," + order + ")*");
    }

    static int fault(String text) {
        for (int end = 1; end <= text.length(); end++) {
            Matcher m = TEXT.matcher(text.substring(0, end));
            if (!m.matches() && !m.hitEnd()) {
                return end - 1;
            }
        }
        return TEXT.matcher(text).matches() ? -1 : text.length();
    }

    int perform() {
        int fault = fault(text);
        if (fault >= 0) {
            return -100 - fault;
        }
        String[] orders = text.split(",");
        return change(s -> {
            for (String order : orders) {
                int answer = obey(s, order);
                if (answer < 0) {
                    return answer;
                }
            }
            return orders.length;
        });
    }

    private static int obey(State s, String order) {
        if (order.startsWith("-")) {
            return s.leave(Integer.parseInt(order.substring(1)));
        }
        if (order.startsWith(".")) {
            return s.pass(order.length() == 1 ? 1 : Integer.parseInt(order.substring(1)));
        }
        String[] parts = order.split("x");
        return s.come(Integer.parseInt(parts[0]), Integer.parseInt(parts[1]));
    }

    int type(char character) {
        if (text.length() == 60) {
            return -3;
        }
        text += character;
        return text.length();
    }

    int clearText() {
        int had = text.length();
        text = "";
        return had;
    }

    int undo() {
        if (history.isEmpty()) {
            return -5;
        }
        now = history.removeLast();
        return history.size();
    }

    int keep() {
        kept = now.copy();
        return now.days;
    }

    int restore() {
        if (kept == null) {
            return -5;
        }
        return change(s -> {
            now = kept.copy();
            return now.days;
        });
    }

    int room(int room, int what) {
        if (room < 0 || room > 63) {
            return -1;
        }
        int first = now.suites.floorKey(room);
        Suite s = now.suites.get(first);
        int twin = s.size == 64 ? -5 : first % (2 * s.size) == 0 ? first + s.size : first - s.size;
        switch (what) {
            case 0: return first;
            case 1: return s.size;
            case 2: return s.free() ? 0 : s.dirty ? 2 : 1;
            case 3: return s.guest == null ? -5 : now.numberOf(s.guest);
            case 4: return twin;
            case 5: return now.suites.containsKey(twin) && now.suites.get(twin).size == s.size ? 1 : 0;
            default: return -2;
        }
    }

    int guest(int guest, int what) {
        Guest g = now.guests.get(guest);
        if (g == null) {
            return -1;
        }
        switch (what) {
            case 0: return g.rooms;
            case 1: return size(g.rooms);
            case 2: return now.home(g);
            case 3: return g.days;
            case 4: return g.lost ? 1 : 0;
            case 5: return g.moved;
            default: return -2;
        }
    }

    int hook(int hook) {
        if (hook < 0 || hook > 11) {
            return -1;
        }
        if (now.cutting.containsKey(hook)) {
            return -10 - now.cutting.get(hook);
        }
        return now.guests.containsKey(hook) ? 1 + now.home(now.guests.get(hook)) : 0;
    }

    int free(int size, int what) {
        if (!List.of(1, 2, 4, 8, 16, 32, 64).contains(size) || what < 0 || what > 1) {
            return -2;
        }
        int[] firsts = now.suites.keySet().stream().mapToInt(f -> f)
            .filter(f -> now.suites.get(f).free() && now.suites.get(f).size == size).toArray();
        return what == 0 ? firsts.length : firsts.length == 0 ? -5 : firsts[0];
    }

    int greatest(int way) {
        return way == 0 ? now.greatest() : way == 1 ? now.greatestByRooms() : -2;
    }

    int total(int what) {
        switch (what) {
            case 0: case 1: case 2: return now.settings[what];
            case 3: return now.days;
            case 4: return now.guests.size();
            case 5: return now.rooms(Suite::free);
            case 6: return now.rooms(s -> s.guest != null);
            case 7: return now.rooms(s -> s.dirty);
            case 8: return now.guests.values().stream().mapToInt(g -> size(g.rooms) - g.rooms).sum();
            case 9: return now.suites.size();
            case 10: return now.halvings;
            case 11: return now.joins;
            case 12: return now.came;
            case 13: return now.cleaned;
            case 14: return now.lost;
            case 15: return now.cutting.size();
            case 16: return history.size();
            case 17: return text.length();
            default: return -2;
        }
    }

    int why(int rooms) {
        return rooms < 1 || rooms > 64 ? -2 : now.reason(size(rooms));
    }

    int ifCome(int rooms) {
        return rooms < 1 || rooms > 64 ? -2 : now.place(size(rooms));
    }

    int untilRoom(int rooms) {
        if (rooms < 1 || rooms > 64) {
            return -2;
        }
        State s = now.copy();
        for (int days = 0; days <= 300; days++) {
            if (s.greatest() >= size(rooms)) {
                return days;
            }
            s.day();
        }
        return -5;
    }

    int bestLeave() {
        int best = -5;
        int most = 0;
        for (int number : now.guests.keySet()) {
            State s = now.copy();
            Guest g = s.guests.get(number);
            int first = s.home(g);
            s.suites.get(first).guest = null;
            s.join(first);
            if (s.greatest() > most) {
                most = s.greatest();
                best = number;
            }
        }
        return best;
    }

    int ifPassed(int days, int what) {
        if (days < 1 || days > 300 || what < 0 || what > 2) {
            return -2;
        }
        State s = now.copy();
        for (int i = 0; i < days; i++) {
            s.day();
        }
        return what == 0 ? s.rooms(Suite::free) : what == 1 ? s.greatest() : s.guests.size();
    }
}
