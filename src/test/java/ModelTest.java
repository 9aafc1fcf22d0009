import java.util.ArrayList;
import java.util.List;
import java.util.Random;

/**
 * Long runs of calls, drawn from fixed seeds, on TwinSuites and on the Model side by side.
 * With the questions after each change they go beyond the 512 calls of the document: what is
 * asked here is more than is promised, so that each run tests more.
 */
public final class ModelTest {
    private static final int RUNS = 240;
    private static final int CALLS = 512;
    private static final int[] ODD = {Integer.MIN_VALUE, -65, -1, 0, 1, 2, 3, 12, 63, 64, 65, 99, 301, Integer.MAX_VALUE};
    private static final String SIGNS = "0123456789x-.,,..--xx3251 X;";

    private final TwinSuites real = new TwinSuites();
    private final Model model = new Model();
    private final List<String> calls = new ArrayList<>();
    private final Random random;
    private final int manner;
    private String wrong = null;

    private ModelTest(int seed) {
        random = new Random(seed);
        manner = seed % 4;
    }

    public static void main(String[] args) {
        for (int seed = 0; seed < RUNS; seed++) {
            ModelTest test = new ModelTest(seed);
            test.run();
            if (test.wrong != null) {
                System.out.println("seed " + seed + ": " + test.calls + " " + test.wrong);
                System.exit(1);
            }
        }
        System.out.println("ModelTest: " + RUNS + " runs as the model says");
    }

    private void run() {
        for (int call = 0; call < CALLS && wrong == null; call++) {
            int kind = random.nextInt(100);
            if (kind < 55) {
                change(random.nextInt(manner == 3 ? 24 : 20));
            } else if (kind < 62) {
                text();
            } else {
                question(random.nextInt(11));
            }
        }
    }

    /** Mostly a number from least to most, at times one that is out of every range. */
    private int pick(int least, int most) {
        int kind = random.nextInt(40);
        if (kind == 0) {
            return ODD[random.nextInt(ODD.length)];
        }
        if (kind == 1) {
            return random.nextBoolean() ? least - 1 : most + 1;
        }
        return least + random.nextInt(most - least + 1);
    }

    private int rooms() {
        int most = manner == 0 ? 64 : manner == 1 ? 8 : 20;
        return random.nextInt(12) == 0 ? pick(1, 64) : pick(1, most);
    }

    private void change(int kind) {
        switch (kind) {
            case 0: case 1: case 2: case 3: case 4: case 5: case 6: {
                int rooms = rooms();
                int days = random.nextInt(3) == 0 ? pick(1, 30) : pick(1, 6);
                due("come(" + rooms + "," + days + ")", real.come(rooms, days), model.come(rooms, days));
                break;
            }
            case 7: case 8: {
                int guest = pick(0, 11);
                due("leave(" + guest + ")", real.leave(guest), model.leave(guest));
                break;
            }
            case 9: case 10: {
                int guest = pick(0, 11);
                due("move(" + guest + ")", real.move(guest), model.move(guest));
                break;
            }
            case 11: {
                int guest = pick(0, 11);
                int days = pick(1, 30);
                due("stay(" + guest + "," + days + ")", real.stay(guest, days), model.stay(guest, days));
                break;
            }
            case 12: case 13: {
                int guest = pick(0, 11);
                due("lose(" + guest + ")", real.lose(guest), model.lose(guest));
                break;
            }
            case 14: case 15: {
                int days = random.nextInt(10) == 0 ? pick(1, 50) : pick(1, 3);
                due("pass(" + days + ")", real.pass(days), model.pass(days));
                break;
            }
            case 16: {
                int setting = pick(0, 2);
                int value = setting == 0 ? pick(0, 1) : setting == 1 ? pick(1, random.nextBoolean() ? 64 : 5) : pick(0, 9);
                due("set(" + setting + "," + value + ")", real.set(setting, value), model.set(setting, value));
                break;
            }
            case 17:
                due("undo()", real.undo(), model.undo());
                break;
            case 18:
                due("keep()", real.keep(), model.keep());
                break;
            case 19:
                if (random.nextInt(3) == 0) {
                    due("restore()", real.restore(), model.restore());
                }
                break;
            default:
                due("pass(50)", real.pass(50), model.pass(50));
                break;
        }
        compareAll();
    }

    private void text() {
        due("clearText()", real.clearText(), model.clearText());
        String orders = random.nextInt(3) == 0 ? anySigns() : someOrders();
        for (int i = 0; i < orders.length(); i++) {
            char sign = orders.charAt(i);
            due("type('" + sign + "')", real.type(sign), model.type(sign));
        }
        due("perform()", real.perform(), model.perform());
        compareAll();
    }

    private String anySigns() {
        StringBuilder signs = new StringBuilder();
        int length = random.nextInt(12);
        for (int i = 0; i < length; i++) {
            signs.append(random.nextInt(60) == 0 ? (char) random.nextInt(65536) : SIGNS.charAt(random.nextInt(SIGNS.length())));
        }
        return signs.toString();
    }

    private String someOrders() {
        StringBuilder orders = new StringBuilder();
        int count = random.nextInt(20) == 0 ? 31 : 1 + random.nextInt(4);
        for (int i = 0; i < count; i++) {
            orders.append(i == 0 ? "" : ",");
            switch (random.nextInt(count > 4 ? 1 : 4)) {
                case 0:
                    orders.append('.').append(random.nextInt(8) == 0 ? String.valueOf(random.nextInt(10)) : "");
                    break;
                case 1:
                    orders.append('-').append(random.nextInt(random.nextInt(6) == 0 ? 14 : 4));
                    break;
                default:
                    orders.append(random.nextInt(random.nextInt(4) == 0 ? 70 : 16)).append('x').append(random.nextInt(random.nextInt(4) == 0 ? 34 : 9));
                    break;
            }
        }
        return orders.toString();
    }

    private void question(int kind) {
        int a = pick(0, 64);
        int b = pick(0, 5);
        switch (kind) {
            case 0: due("room(" + a + "," + b + ")", real.room(a, b), model.room(a, b)); break;
            case 1: due("guest(" + b + "," + a + ")", real.guest(b, a), model.guest(b, a)); break;
            case 2: due("hook(" + a + ")", real.hook(a), model.hook(a)); break;
            case 3: due("free(" + a + "," + b + ")", real.free(a, b), model.free(a, b)); break;
            case 4: due("greatest(" + b + ")", real.greatest(b), model.greatest(b)); break;
            case 5: due("total(" + a + ")", real.total(a), model.total(a)); break;
            case 6: due("why(" + a + ")", real.why(a), model.why(a)); break;
            case 7: due("ifCome(" + a + ")", real.ifCome(a), model.ifCome(a)); break;
            case 8: due("untilRoom(" + a + ")", real.untilRoom(a), model.untilRoom(a)); break;
            case 9: due("bestLeave()", real.bestLeave(), model.bestLeave()); break;
            default:
                int days = pick(1, random.nextBoolean() ? 300 : 12);
                due("ifPassed(" + days + "," + b + ")", real.ifPassed(days, b), model.ifPassed(days, b));
                break;
        }
    }

    /** What there is must be the same in every part, and questions must have changed nothing. */
    private void compareAll() {
        for (int what = -1; what <= 18; what++) {
            due("total(" + what + ")", real.total(what), model.total(what));
        }
        for (int hook = -1; hook <= 12; hook++) {
            due("hook(" + hook + ")", real.hook(hook), model.hook(hook));
            for (int what = -1; what <= 6; what++) {
                due("guest(" + hook + "," + what + ")", real.guest(hook, what), model.guest(hook, what));
            }
        }
        for (int room = -1; room <= 64; room += 1 + random.nextInt(5)) {
            int what = random.nextInt(8) - 1;
            due("room(" + room + "," + what + ")", real.room(room, what), model.room(room, what));
        }
        for (int size = 1; size <= 64; size *= 2) {
            due("free(" + size + ",0)", real.free(size, 0), model.free(size, 0));
            due("free(" + size + ",1)", real.free(size, 1), model.free(size, 1));
            due("why(" + size + ")", real.why(size), model.why(size));
            due("ifCome(" + size + ")", real.ifCome(size), model.ifCome(size));
        }
        due("greatest(0)", real.greatest(0), model.greatest(0));
        due("greatest(1)", real.greatest(1), model.greatest(1));
        due("bestLeave()", real.bestLeave(), model.bestLeave());
        int rooms = 1 + random.nextInt(64);
        due("untilRoom(" + rooms + ")", real.untilRoom(rooms), model.untilRoom(rooms));
    }

    private void due(String call, int got, int want) {
        if (wrong != null) {
            return;
        }
        if (got != want) {
            wrong = call + " answered " + got + ", due is " + want;
        } else if (call.matches("(come|leave|move|stay|lose|pass|set|perform|type|clear|undo|keep|restore).*")) {
            calls.add(call + "=" + got);
        }
    }
}
