import java.lang.reflect.InvocationTargetException;
import java.lang.reflect.Method;
import java.nio.file.Files;
import java.nio.file.Path;
import java.util.Arrays;
import java.util.Comparator;
import java.util.HashMap;
import java.util.List;
import java.util.Map;
import java.util.function.Consumer;
import java.util.function.ToIntFunction;

/**
 * What the tests of the document's sentences have in common: each test holds one sentence (or the
 * part of it that names an edge), quotes it, and the quotation must stand in the document.
 */
class Sentences {
    static final int UNKNOWN = TwinSuites.UNKNOWN;
    static final int OUT_OF_RANGE = TwinSuites.OUT_OF_RANGE;
    static final int FULL = TwinSuites.FULL;
    static final int NOT_POSSIBLE = TwinSuites.NOT_POSSIBLE;
    static final int NONE = TwinSuites.NONE;
    static final int REFUSED = TwinSuites.REFUSED;

    static final int LOW = Integer.MIN_VALUE;
    static final int HIGH = Integer.MAX_VALUE;
    static final int[] SIZES = {1, 2, 4, 8, 16, 32, 64};

    static final int SIDE = 0;
    static final int BROOM = 1;
    static final int CUT = 2;

    private static final List<String> TERMS = Arrays.asList(
        "ROOMS, SUITES", "GUESTS, KEYS", "A DAY", "SETTINGS", "TEXTS", "HISTORY", "ERRORS");

    private static int wrong = 0;
    private static String name = "";
    private static Sentence sentence = null;

    // ---- running

    /** The second argument is the document. */
    static void run(Class<?> tests, String[] args) throws Exception {
        Map<String, String> document = partsOf(Path.of(args[1]));
        Method[] methods = tests.getDeclaredMethods();
        Arrays.sort(methods, Comparator.comparing(Method::getName));
        int count = 0;
        for (Method method : methods) {
            sentence = method.getAnnotation(Sentence.class);
            if (sentence != null) {
                name = method.getName();
                count++;
                if (!document.getOrDefault(sentence.at(), "").contains(sentence.says())) {
                    fault("these words do not stand there in the document");
                }
                runOne(method);
            }
        }
        System.out.println(tests.getName() + ": " + (wrong == 0 ? count + " sentences hold" : wrong + " wrong"));
        if (wrong != 0 || count == 0) {
            System.exit(1);
        }
    }

    private static void runOne(Method method) throws Exception {
        try {
            method.invoke(null);
        } catch (InvocationTargetException thrown) {
            fault("behind " + Called.latest() + ": " + thrown.getCause());
        }
    }

    /** The document by its promises and, in the terms, by their headings. */
    private static Map<String, String> partsOf(Path document) throws Exception {
        Map<String, StringBuilder> parts = new HashMap<>();
        String part = "";
        for (String line : Files.readAllLines(document)) {
            if (line.startsWith("## ")) {
                part = line.substring(3).replaceAll(":.*", "");
            } else if (TERMS.contains(line)) {
                part = line;
            } else {
                parts.computeIfAbsent(part, key -> new StringBuilder()).append(line).append(' ');
            }
        }
        Map<String, String> whole = new HashMap<>();
        parts.forEach((key, text) -> whole.put(key, text.toString().replaceAll("\\s+", " ")));
        return whole;
    }

    private static void fault(String what) {
        wrong++;
        System.out.println(name + " (" + sentence.at() + ": \"" + sentence.says() + "\"): " + what);
    }

    // ---- what is due

    static void due(int got, int want) {
        if (got != want) {
            fault(Called.latest() + " answered " + got + ", due is " + want);
        }
    }

    static void due(String what, int got, int want) {
        if (got != want) {
            fault(what + " is " + got + ", due is " + want);
        }
    }

    static void same(String what, String got, String want) {
        if (!got.equals(want)) {
            fault(what + ":\n  there is " + got + "\n  due is   " + want);
        }
    }

    /** The call must give this answer and leave everything as it was, the text, the history and the snapshot too. */
    static void changesNothing(Consumer<Called> before, ToIntFunction<Called> call, int answer) {
        Called without = palace();
        before.accept(without);
        Called with = palace();
        before.accept(with);
        due(call.applyAsInt(with), answer);
        String what = "behind " + Called.latest();
        same(what, everything(with), everything(without));
    }

    /** The call must record one state, and it must be the one before it. At most 3 states may be there before. */
    static void isAChange(Consumer<Called> before, ToIntFunction<Called> call, int answer) {
        Called without = palace();
        before.accept(without);
        Called with = palace();
        before.accept(with);
        int states = with.total(16);
        due(call.applyAsInt(with), answer);
        String what = "behind the undoing of " + Called.latest();
        due(with.total(16), states + 1);
        due(with.undo(), states);
        same(what, everything(with), everything(without));
    }

    // ---- palaces

    static Called palace() {
        return new Called();
    }

    /** Guests for so many rooms, each for 30 days, one after the other. */
    static Called guests(int... rooms) {
        Called x = palace();
        for (int guest = 0; guest < rooms.length; guest++) {
            due(x.come(rooms[guest], 30), guest);
        }
        return x;
    }

    /** These guests leave, and all that is dirty is cleaned in one day. */
    static Called gone(Called x, int... guests) {
        x.set(BROOM, 64);
        for (int guest : guests) {
            x.leave(guest);
        }
        x.pass(1);
        return x;
    }

    /** Free suites of 16 rooms from the rooms 0 and 32, guests 1 and 3 of 16 rooms each between them. */
    static Called quarters() {
        return gone(guests(16, 16, 16, 16), 0, 2);
    }

    static Called twelveGuests() {
        return guests(1, 1, 1, 1, 1, 1, 1, 1, 1, 1, 1, 1);
    }

    /** Something of all: a guest 2 of 32 rooms, dirty suites half clean, a key that is cut, a text, a snapshot. */
    static void busy(Called x) {
        x.come(5, 3);
        x.come(1, 9);
        x.come(20, 4);
        x.lose(1);
        x.keep();
        x.set(BROOM, 3);
        x.leave(0);
        x.leave(1);
        x.pass(1);
        x.write("1x1,.,-0");
    }

    /** On the last day that can be reached, behind 200 calls. */
    static Called lastDay() {
        Called x = palace();
        for (int call = 0; call < 199; call++) {
            x.pass(50);
        }
        x.pass(49);
        return x;
    }

    // ---- what there is

    private static StringBuilder list(String title, int... numbers) {
        return new StringBuilder(title).append(Arrays.toString(numbers));
    }

    private static String numbers(Called x) {
        int[] numbers = new int[28];
        for (int what = 0; what < 16; what++) {
            numbers[what] = x.total(what);
        }
        for (int hook = 0; hook < 12; hook++) {
            numbers[16 + hook] = x.hook(hook);
        }
        return list(" numbers", numbers).toString();
    }

    /** The state, as it is told by suites, guests, hooks and numbers. */
    static String state(Called x) {
        StringBuilder state = new StringBuilder();
        for (int room = 0; room < 64; room += Math.max(x.room(room, 1), 1)) {
            state.append(list("", room, x.room(room, 0), x.room(room, 1), x.room(room, 2), x.room(room, 3), x.room(room, 4), x.room(room, 5)));
        }
        for (int guest = 0; guest < 12; guest++) {
            if (x.guest(guest, 0) != UNKNOWN) {
                state.append(list(" guest " + guest, x.guest(guest, 0), x.guest(guest, 1), x.guest(guest, 2),
                    x.guest(guest, 3), x.guest(guest, 4), x.guest(guest, 5)));
            }
        }
        for (int size : SIZES) {
            state.append(list(" free", x.free(size, 0), x.free(size, 1)));
        }
        state.append(list(" greatest", x.greatest(0), x.greatest(1)));
        state.append(list(" ahead", x.untilRoom(1), x.untilRoom(64), x.ifPassed(1, 0), x.bestLeave()));
        return state.append(numbers(x)).toString();
    }

    /** State, history, snapshot and text. What is asked last changes the palace: it is of no use afterwards. */
    static String everything(Called x) {
        StringBuilder all = new StringBuilder(state(x));
        all.append(list(" counts", x.total(16), x.total(17)));
        for (int call = 0; call < 5; call++) {
            int left = x.undo();
            all.append("\n  undo ").append(left);
            if (left != NONE) {
                all.append(numbers(x));
            }
        }
        all.append("\n  restore ").append(x.restore()).append(numbers(x));
        all.append("\n  perform ").append(x.perform()).append(numbers(x));
        return all.append("\n  clearText ").append(x.clearText()).toString();
    }

    /** The rooms in suites of powers of two that begin at multiples of their size; returns how many. */
    static int suitesOf(Called x) {
        int count = 0;
        int first = 0;
        int size = 0;
        for (int room = 0; room < 64; room++) {
            if (room == first + size) {
                first = room;
                size = x.room(room, 1);
                due("the bits of the size of the suite of room " + room, Integer.bitCount(size), 1);
                due("the rest of its lowest room", first % Math.max(size, 1), 0);
                count++;
            }
            due(x.room(room, 0), first);
            due(x.room(room, 1), size);
        }
        due("the room behind the last suite", first + size, 64);
        return count;
    }
}
