/** The promises one by one: ordinary inputs, the edges that the document names, and wrong inputs. */
public final class PromisesTest {
    private static final int LOW = Integer.MIN_VALUE;
    private static final int HIGH = Integer.MAX_VALUE;

    private static int promise = 0;
    private static int wrong = 0;

    public static void main(String[] args) {
        newObject();
        come();
        comeRefused();
        comeOnTheUpperSide();
        leave();
        move();
        stay();
        lose();
        pass();
        cleaning();
        cutting();
        set();
        perform();
        performAllOrNone();
        faults();
        type();
        clearText();
        undo();
        keepAndRestore();
        room();
        guest();
        hook();
        free();
        greatest();
        total();
        why();
        ifCome();
        untilRoom();
        bestLeave();
        ifPassed();
        nothingChangesByQuestions();
        changesRestOnTheStateAlone();
        System.out.println(wrong == 0 ? "PromisesTest: all answers are as due" : "PromisesTest: " + wrong + " wrong");
        if (wrong != 0) {
            System.exit(1);
        }
    }

    private static void due(String call, int got, int want) {
        if (got != want) {
            wrong++;
            System.out.println("promise " + promise + ": " + call + " answered " + got + ", due is " + want);
        }
    }

    private static TwinSuites begin(int number) {
        promise = number;
        return new TwinSuites();
    }

    private static void write(TwinSuites x, String text) {
        x.clearText();
        for (int i = 0; i < text.length(); i++) {
            due("type", x.type(text.charAt(i)), i + 1);
        }
    }

    private static int performed(TwinSuites x, String text) {
        write(x, text);
        return x.perform();
    }

    /** Four guests of 16 rooms each, those of 0 and 32 gone and their suites clean: 32 free rooms, no suite of 32. */
    private static TwinSuites scattered(int number) {
        TwinSuites x = begin(number);
        for (int guest = 0; guest < 4; guest++) {
            due("come(16,30)", x.come(16, 30), guest);
        }
        x.set(1, 64);
        x.leave(0);
        x.leave(2);
        due("pass(1)", x.pass(1), 32);
        return x;
    }

    private static void newObject() {
        TwinSuites x = begin(1);
        int[] totals = {0, 8, 2, 0, 0, 64, 0, 0, 0, 1, 0, 0, 0, 0, 0, 0, 0, 0};
        for (int what = 0; what < totals.length; what++) {
            due("total(" + what + ")", x.total(what), totals[what]);
        }
        for (int hook = 0; hook < 12; hook++) {
            due("hook(" + hook + ")", x.hook(hook), 0);
            due("guest(" + hook + ",0)", x.guest(hook, 0), TwinSuites.UNKNOWN);
        }
        for (int room = 0; room < 64; room++) {
            due("room(" + room + ",0)", x.room(room, 0), 0);
            due("room(" + room + ",1)", x.room(room, 1), 64);
            due("room(" + room + ",2)", x.room(room, 2), 0);
        }
        due("undo()", x.undo(), TwinSuites.NONE);
        due("restore()", x.restore(), TwinSuites.NONE);
        due("clearText()", x.clearText(), 0);
        TwinSuites other = new TwinSuites();
        x.come(64, 1);
        due("another's total(4)", other.total(4), 0);
    }

    private static void come() {
        TwinSuites x = begin(2);
        due("come(64,30)", x.come(64, 30), 0);
        x = begin(2);
        int[][] sizes = {{3, 4}, {1, 1}, {2, 2}, {5, 8}, {9, 16}, {17, 32}};
        int[] first = {0, 4, 6, 8, 16, 32};
        for (int guest = 0; guest < sizes.length; guest++) {
            due("come", x.come(sizes[guest][0], 30), guest);
            due("guest 1", x.guest(guest, 1), sizes[guest][1]);
            due("guest 2", x.guest(guest, 2), first[guest]);
        }
        due("halvings", x.total(10), 6);
        due("the last room", x.come(1, 1), 6);
        due("guest(6,2)", x.guest(6, 2), 5);
        due("the least size first, no halving", x.total(10), 6);
        x = begin(2);
        x.come(1, 30);
        x.come(4, 30);
        x.come(1, 30);
        due("the least that is great enough", x.guest(2, 2), 1);
        x.leave(0);
        due("lowest hook", x.come(2, 5), 0);
        due("guest(0,2)", x.guest(0, 2), 2);
        for (int bad : new int[] {LOW, -1, 0, 65, HIGH}) {
            due("come(" + bad + ",1)", x.come(bad, 1), TwinSuites.OUT_OF_RANGE);
            due("come(1," + bad + ")", x.come(1, bad), TwinSuites.OUT_OF_RANGE);
        }
        due("come(1,31)", x.come(1, 31), TwinSuites.OUT_OF_RANGE);
        due("history", x.total(16), 4);
        due("guests so far", x.total(12), 4);
    }

    private static void comeRefused() {
        TwinSuites x = begin(2);
        for (int guest = 0; guest < 12; guest++) {
            x.come(1, 30);
        }
        due("no key", x.come(64, 30), TwinSuites.REFUSED - 1);
        due("out of range ahead of no key", x.come(65, 30), TwinSuites.OUT_OF_RANGE);
        x = begin(2);
        x.come(33, 30);
        due("too few rooms", x.come(1, 30), TwinSuites.REFUSED - 2);
        x = scattered(2);
        due("too few rooms for the size", x.come(33, 1), TwinSuites.REFUSED - 2);
        due("no suite is large enough", x.come(17, 1), TwinSuites.REFUSED - 3);
        due("large enough", x.come(16, 1), 0);
        due("the lowest of several", x.guest(0, 2), 0);
    }

    private static void comeOnTheUpperSide() {
        TwinSuites x = begin(2);
        x.set(0, 1);
        x.come(1, 30);
        due("the upper half", x.guest(0, 2), 63);
        x.come(8, 30);
        due("the upper half of 32", x.guest(1, 2), 48);
        due("its other half", x.free(32, 1), 0);
        due("free(8,1)", x.free(8, 1), -5);
        due("free(16,1)", x.free(16, 1), 32);
        x = scattered(2);
        x.set(0, 1);
        due("come(9,1)", x.come(9, 1), 0);
        due("the highest of several", x.guest(0, 2), 32);
    }

    private static void leave() {
        TwinSuites x = begin(3);
        x.come(5, 9);
        x.come(1, 9);
        due("leave(0)", x.leave(0), 8);
        due("dirty", x.room(7, 2), 2);
        due("no guest", x.room(7, 3), TwinSuites.NONE);
        due("hook(0)", x.hook(0), 0);
        due("gone already", x.leave(0), TwinSuites.UNKNOWN);
        for (int bad : new int[] {LOW, -1, 2, 12, HIGH}) {
            due("leave(" + bad + ")", x.leave(bad), TwinSuites.UNKNOWN);
        }
        due("history", x.total(16), 3);
        due("free rooms", x.total(5), 55);
        x.lose(1);
        due("leave(1)", x.leave(1), 1);
        due("a key is cut", x.hook(1), -12);
        x.come(2, 9);
        x.lose(0);
        x.set(2, 0);
        due("leave(0)", x.leave(0), 2);
        due("cut at once", x.hook(0), 0);
        due("keys being cut", x.total(15), 1);
    }

    private static void move() {
        TwinSuites x = begin(4);
        x.come(3, 9);
        x.come(1, 9);
        due("move(0)", x.move(0), 8);
        due("guest(0,2)", x.guest(0, 2), 8);
        due("guest(0,5)", x.guest(0, 5), 1);
        due("guest(0,0)", x.guest(0, 0), 3);
        due("guest(0,3)", x.guest(0, 3), 9);
        due("the old one is dirty", x.room(0, 2), 2);
        due("the new one is the guest's", x.room(11, 3), 0);
        due("guests so far", x.total(12), 2);
        due("history", x.total(16), 3);
        x.set(0, 1);
        due("move(0)", x.move(0), 12);
        due("guest(0,5)", x.guest(0, 5), 2);
        x.pass(1);
        due("cleaned in the order of leaving", x.total(7), 0);
        for (int bad : new int[] {LOW, -1, 2, 12, HIGH}) {
            due("move(" + bad + ")", x.move(bad), TwinSuites.UNKNOWN);
        }
        x = begin(4);
        x.come(33, 9);
        due("for the reason 2", x.move(0), TwinSuites.NOT_POSSIBLE);
        due("history", x.total(16), 1);
        x = begin(4);
        x.come(32, 9);
        x.come(1, 9);
        due("for the reason 3", x.move(0), TwinSuites.NOT_POSSIBLE);
        due("not moved", x.guest(0, 5), 0);
        x = begin(4);
        for (int guest = 0; guest < 12; guest++) {
            x.come(1, 30);
        }
        due("not for the reason 1", x.move(3), 12);
    }

    private static void stay() {
        TwinSuites x = begin(5);
        x.come(1, 9);
        due("stay(0,1)", x.stay(0, 1), 10);
        due("stay(0,30)", x.stay(0, 30), 40);
        due("stay(0,30)", x.stay(0, 30), 70);
        due("more than 99", x.stay(0, 30), TwinSuites.NOT_POSSIBLE);
        due("just 99", x.stay(0, 29), 99);
        due("100", x.stay(0, 1), TwinSuites.NOT_POSSIBLE);
        due("guest(0,3)", x.guest(0, 3), 99);
        for (int bad : new int[] {LOW, -1, 0, 31, HIGH}) {
            due("stay(0," + bad + ")", x.stay(0, bad), TwinSuites.OUT_OF_RANGE);
        }
        for (int bad : new int[] {LOW, -1, 1, 12, HIGH}) {
            due("stay(" + bad + ",0)", x.stay(bad, 0), TwinSuites.UNKNOWN);
        }
        due("undo()", x.undo(), 3);
        due("guest(0,3)", x.guest(0, 3), 70);
    }

    private static void lose() {
        TwinSuites x = begin(6);
        x.come(1, 9);
        x.come(1, 9);
        x.come(1, 9);
        due("lose(1)", x.lose(1), 1);
        due("lose(1)", x.lose(1), TwinSuites.NONE);
        due("lose(0)", x.lose(0), 2);
        due("history", x.total(16), 4);
        x.leave(1);
        due("those who are there", x.lose(2), 2);
        due("lost so far", x.total(14), 3);
        for (int bad : new int[] {LOW, -1, 1, 12, HIGH}) {
            due("lose(" + bad + ")", x.lose(bad), TwinSuites.UNKNOWN);
        }
        x.set(2, 0);
        x.leave(0);
        due("come(1,9)", x.come(1, 9), 0);
        due("a new guest has lost nothing", x.guest(0, 4), 0);
        due("lose(0)", x.lose(0), 2);
    }

    private static void pass() {
        TwinSuites x = begin(7);
        x.come(8, 2);
        x.come(4, 1);
        due("pass(1)", x.pass(1), 56);
        due("guests", x.total(4), 1);
        due("pass(1)", x.pass(1), 64);
        due("joins", x.total(11), 4);
        due("history", x.total(16), 4);
        for (int bad : new int[] {LOW, -1, 0, 51, HIGH}) {
            due("pass(" + bad + ")", x.pass(bad), TwinSuites.OUT_OF_RANGE);
        }
        due("days", x.total(3), 2);
        x = begin(7);
        for (int call = 0; call < 199; call++) {
            due("pass(50)", x.pass(50), 64);
        }
        due("10000 days", x.pass(50), TwinSuites.NOT_POSSIBLE);
        due("out of range first", x.pass(51), TwinSuites.OUT_OF_RANGE);
        due("9999 days", x.pass(49), 64);
        due("one more", x.pass(1), TwinSuites.NOT_POSSIBLE);
        due("days", x.total(3), 9999);
        due("one more of the text", performed(x, "."), TwinSuites.NOT_POSSIBLE);
    }

    private static void cleaning() {
        TwinSuites x = begin(7);
        x.set(1, 3);
        x.come(4, 30);
        x.come(2, 30);
        x.come(1, 30);
        x.leave(1);
        x.leave(0);
        x.leave(2);
        due("2 of the first, 1 of the next", x.pass(1), 59);
        due("dirty", x.total(7), 5);
        due("cleaned", x.total(13), 3);
        due("undo()", x.undo(), 3);
        due("pass(1)", x.pass(1), 59);
        due("the rest of 4 first", x.pass(1), 63);
        due("cleaned", x.total(13), 6);
        due("no twin is joined that is dirty", x.total(9), 7);
        due("pass(1)", x.pass(1), 64);
        due("suites", x.total(9), 1);
        due("joins", x.total(11), 6);
        x = begin(7);
        x.come(1, 1);
        x.come(1, 30);
        x.come(1, 1);
        x.set(1, 1);
        x.pass(1);
        due("by rising numbers", x.room(0, 2), 0);
        due("by rising numbers", x.room(2, 2), 2);
    }

    private static void cutting() {
        TwinSuites x = begin(7);
        x.come(1, 1);
        x.lose(0);
        x.pass(1);
        due("cut from the next day on", x.hook(0), -12);
        x.pass(1);
        due("one day less", x.hook(0), -11);
        due("keys being cut", x.total(15), 1);
        due("the next hook", x.come(1, 1), 1);
        x.pass(1);
        due("on its hook", x.hook(0), 0);
        due("keys being cut", x.total(15), 0);
        x.set(2, 9);
        x.come(1, 30);
        x.lose(0);
        x.leave(0);
        due("nine days", x.hook(0), -19);
        x.set(2, 1);
        due("as it was when the guest left", x.hook(0), -19);
        x.pass(8);
        due("hook(0)", x.hook(0), -11);
        x.pass(1);
        due("hook(0)", x.hook(0), 0);
    }

    private static void set() {
        TwinSuites x = begin(8);
        int[] first = {0, 8, 2};
        int[] least = {0, 1, 0};
        int[] most = {1, 64, 9};
        for (int setting = 0; setting < 3; setting++) {
            due("the same", x.set(setting, first[setting]), TwinSuites.NONE);
            due("the most", x.set(setting, most[setting]), first[setting]);
            due("the least", x.set(setting, least[setting]), most[setting]);
            due("too small", x.set(setting, least[setting] - 1), TwinSuites.OUT_OF_RANGE);
            due("too great", x.set(setting, most[setting] + 1), TwinSuites.OUT_OF_RANGE);
            due("too small", x.set(setting, LOW), TwinSuites.OUT_OF_RANGE);
            due("too great", x.set(setting, HIGH), TwinSuites.OUT_OF_RANGE);
            due("total", x.total(setting), least[setting]);
        }
        for (int bad : new int[] {LOW, -1, 3, HIGH}) {
            due("set(" + bad + ",0)", x.set(bad, 0), TwinSuites.UNKNOWN);
            due("set(" + bad + ",99)", x.set(bad, 99), TwinSuites.UNKNOWN);
        }
        due("undo()", x.undo(), 3);
        due("settings are of the state", x.total(2), 9);
    }

    private static void perform() {
        TwinSuites x = begin(9);
        due("one guest", performed(x, "5x3"), 1);
        due("guest(0,0)", x.guest(0, 0), 5);
        due("guest(0,3)", x.guest(0, 3), 3);
        due("the text stays", x.total(17), 3);
        due("again", x.perform(), 1);
        due("guests", x.total(4), 2);
        due("several", performed(x, "64x1"), TwinSuites.REFUSED - 2);
        due("several", performed(x, "-1,10x30,.2,-0,.,1x10"), 6);
        due("one change", x.total(16), 3);
        due("days", x.total(3), 3);
        due("guests so far", x.total(12), 4);
        due("guest(1,0)", x.guest(1, 0), 10);
        due("guest(1,3)", x.guest(1, 3), 27);
        due("undo()", x.undo(), 2);
        due("days", x.total(3), 0);
        due("guests so far", x.total(12), 2);
        due("thirty orders", performed(x, ".,.,.,.,.,.,.,.,.,.,.,.,.,.,.,.,.,.,.,.,.,.,.,.,.,.,.,.,.,."), 30);
        due("days", x.total(3), 30);
        due("nine days", performed(x, ".9"), 1);
        due("days", x.total(3), 39);
    }

    private static void performAllOrNone() {
        TwinSuites x = begin(9);
        x.come(2, 9);
        due("no such guest", performed(x, "8x4,.,-0,.3,-0"), TwinSuites.UNKNOWN);
        due("guests", x.total(4), 1);
        due("days", x.total(3), 0);
        due("halvings", x.total(10), 5);
        due("history", x.total(16), 1);
        due("guest(0,3)", x.guest(0, 3), 9);
        due("the first error", performed(x, "64x1,-9"), TwinSuites.REFUSED - 2);
        due("the first error", performed(x, "-9,64x1"), TwinSuites.UNKNOWN);
        due("the fault ahead of the errors", performed(x, "-9,64x"), -106);
        due("reason 3", performed(x, "16x9,16x9,16x9,-0,-2,.5,17x1"), TwinSuites.REFUSED - 3);
        due("reason 1", performed(x, "1x9,1x9,1x9,1x9,1x9,1x9,1x9,1x9,1x9,1x9,1x9,1x9"), TwinSuites.REFUSED - 1);
        due("just so many", performed(x, "1x9,1x9,1x9,1x9,1x9,1x9,1x9,1x9,1x9,1x9,1x9,-11,-10,1x1"), 14);
        due("guests", x.total(4), 11);
    }

    private static void faults() {
        TwinSuites x = begin(9);
        String[] texts = {"", ",", "x", "-", "-,", "1", "12", "1x", "1x1,", ".,", ".,,", "0x1", "01x1", "7", "70x1",
            "65x1", "60", "64x30", "66x1", "100x1", "1x0", "1x31", "1x32", "1x40", "1x300", "1x1x", "1X1", "-12", "-00",
            "-01", "-110", "-1x", "-2", "-20", ".0", ".1", ".2.", ".22", "..", ". ", " 1x1", "1 x1", "--1", "-x", "1-", "5.",
            "6.x1", "1x.", "1x30,-11,.9,6", "/x1", ":x1", "1x/", "\u0661x1", "1x\u0661", "\0"};
        int[] faults = {0, 0, 0, 1, 1, 1, 2, 2, 4, 2, 2, 0, 0, 1, 1,
            1, 2, -1, 1, 2, 2, 3, 3, 3, 4, 3, 1, 2, 2,
            2, 3, 2, -1, 2, 1, 1, 2, 2, 1, 1, 0, 1, 1, 1, 1, 1,
            1, 2, 13, 0, 0, 2, 0, 2, 0};
        for (int i = 0; i < texts.length; i++) {
            x.clearText();
            for (char sign : texts[i].toCharArray()) {
                x.type(sign);
            }
            int answer = x.perform();
            if (faults[i] >= 0) {
                due("perform of \"" + texts[i] + "\"", answer, -100 - faults[i]);
            } else if (answer <= -100) {
                due("perform of \"" + texts[i] + "\"", answer, 1);
            }
        }
        due("history", x.total(16), 1);
        write(x, "1x1,1x1,1x1,1x1,1x1,1x1,1x1,1x1,1x1,1x1,1x1,1x1,1x1,1x1,1x1,");
        due("a full text that ends too early", x.perform(), -160);
    }

    private static void type() {
        TwinSuites x = begin(10);
        for (int length = 1; length <= 60; length++) {
            due("type", x.type((char) (length * 1090)), length);
        }
        due("type", x.type('1'), TwinSuites.FULL);
        due("type", x.type('\uffff'), TwinSuites.FULL);
        due("length", x.total(17), 60);
        due("history", x.total(16), 0);
        x.come(1, 1);
        x.undo();
        due("the text is not of the state", x.total(17), 60);
    }

    private static void clearText() {
        TwinSuites x = begin(11);
        due("clearText()", x.clearText(), 0);
        write(x, "1x1,-0");
        due("clearText()", x.clearText(), 6);
        due("length", x.total(17), 0);
        due("perform()", x.perform(), -100);
        due("type", x.type('.'), 1);
        due("perform()", x.perform(), 1);
        due("history", x.total(16), 1);
    }

    private static void undo() {
        TwinSuites x = begin(12);
        due("undo()", x.undo(), TwinSuites.NONE);
        for (int days = 1; days <= 6; days++) {
            x.pass(days);
        }
        int[] days = {15, 10, 6, 3};
        for (int call = 0; call < 4; call++) {
            due("undo()", x.undo(), 3 - call);
            due("days", x.total(3), days[call]);
        }
        due("the oldest were dropped", x.undo(), TwinSuites.NONE);
        due("days", x.total(3), 3);
        x = begin(12);
        x.come(3, 7);
        x.lose(0);
        x.leave(0);
        due("undo()", x.undo(), 2);
        due("guest(0,4)", x.guest(0, 4), 1);
        due("guest(0,2)", x.guest(0, 2), 0);
        due("hook(0)", x.hook(0), 1);
        due("dirty", x.total(7), 0);
        due("undo()", x.undo(), 1);
        due("guest(0,4)", x.guest(0, 4), 0);
        due("lost so far", x.total(14), 0);
        due("a change after undoing", x.pass(1), 60);
        due("history", x.total(16), 2);
        due("undo()", x.undo(), 1);
        due("undo()", x.undo(), 0);
        due("suites", x.total(9), 1);
        due("halvings", x.total(10), 0);
        due("guests so far", x.total(12), 0);
    }

    private static void keepAndRestore() {
        TwinSuites x = begin(13);
        x.pass(3);
        x.come(9, 20);
        due("keep()", x.keep(), 3);
        due("no change", x.total(16), 2);
        x.pass(5);
        promise = 14;
        due("restore()", x.restore(), 3);
        due("guest(0,3)", x.guest(0, 3), 20);
        due("a change", x.total(16), 4);
        due("undo()", x.undo(), 3);
        due("days", x.total(3), 8);
        x.leave(0);
        due("the snapshot stays", x.restore(), 3);
        due("guest(0,0)", x.guest(0, 0), 9);
        x.pass(1);
        x.leave(0);
        promise = 13;
        due("in place of the earlier one", x.keep(), 4);
        x.pass(1);
        due("cleaned", x.total(13), 8);
        due("restore()", x.restore(), 4);
        due("cleaned", x.total(13), 0);
        x.pass(1);
        due("half done again", x.total(7), 16);
        due("restore()", x.restore(), 4);
        due("guests", x.total(4), 0);
        due("undo()", x.undo(), 3);
        due("undo keeps the snapshot", x.restore(), 4);
        x = begin(14);
        due("no snapshot", x.restore(), TwinSuites.NONE);
        due("history", x.total(16), 0);
        due("keep()", x.keep(), 0);
        due("restore()", x.restore(), 0);
        due("history", x.total(16), 1);
        write(x, "12");
        x.restore();
        due("the text is not of the state", x.total(17), 2);
    }

    private static void room() {
        TwinSuites x = begin(15);
        x.come(3, 9);
        x.come(1, 9);
        x.come(4, 9);
        x.leave(0);
        int[][] rooms = {
            {3, 0, 4, 2, -5, 4, 0}, {4, 4, 1, 1, 1, 5, 1}, {5, 5, 1, 0, -5, 4, 1}, {7, 6, 2, 0, -5, 4, 0},
            {10, 8, 4, 1, 2, 12, 1}, {15, 12, 4, 0, -5, 8, 1}, {16, 16, 16, 0, -5, 0, 0}, {63, 32, 32, 0, -5, 0, 0}};
        for (int[] row : rooms) {
            for (int what = 0; what < 6; what++) {
                due("room(" + row[0] + "," + what + ")", x.room(row[0], what), row[what + 1]);
            }
        }
        for (int bad : new int[] {LOW, -1, 64, HIGH}) {
            due("room(" + bad + ",0)", x.room(bad, 0), TwinSuites.UNKNOWN);
            due("room(" + bad + ",6)", x.room(bad, 6), TwinSuites.UNKNOWN);
        }
        for (int bad : new int[] {LOW, -1, 6, HIGH}) {
            due("room(0," + bad + ")", x.room(0, bad), TwinSuites.OUT_OF_RANGE);
        }
        x = begin(15);
        due("no twin", x.room(40, 4), TwinSuites.NONE);
        due("no twin", x.room(40, 5), 0);
    }

    private static void guest() {
        TwinSuites x = begin(16);
        x.come(2, 9);
        x.come(5, 7);
        x.pass(2);
        x.lose(1);
        x.move(1);
        int[] facts = {5, 8, 16, 5, 1, 1};
        for (int what = 0; what < 6; what++) {
            due("guest(1," + what + ")", x.guest(1, what), facts[what]);
        }
        for (int bad : new int[] {LOW, -1, 6, HIGH}) {
            due("guest(1," + bad + ")", x.guest(1, bad), TwinSuites.OUT_OF_RANGE);
        }
        for (int bad : new int[] {LOW, -1, 2, 11, 12, HIGH}) {
            due("guest(" + bad + ",0)", x.guest(bad, 0), TwinSuites.UNKNOWN);
            due("guest(" + bad + ",6)", x.guest(bad, 6), TwinSuites.UNKNOWN);
        }
        x.set(2, 0);
        x.leave(1);
        x.come(1, 3);
        int[] anew = {1, 1, 2, 3, 0, 0};
        for (int what = 0; what < 6; what++) {
            due("guest(1," + what + ")", x.guest(1, what), anew[what]);
        }
    }

    private static void hook() {
        TwinSuites x = begin(17);
        x.come(2, 9);
        x.come(5, 7);
        x.lose(1);
        due("hook(0)", x.hook(0), 1);
        due("hook(1)", x.hook(1), 9);
        due("hook(2)", x.hook(2), 0);
        x.move(1);
        due("hook(1)", x.hook(1), 17);
        x.leave(1);
        due("hook(1)", x.hook(1), -12);
        x.leave(0);
        due("hook(0)", x.hook(0), 0);
        due("hook(11)", x.hook(11), 0);
        for (int bad : new int[] {LOW, -1, 12, HIGH}) {
            due("hook(" + bad + ")", x.hook(bad), TwinSuites.UNKNOWN);
        }
    }

    private static void free() {
        TwinSuites x = scattered(18);
        due("free(16,0)", x.free(16, 0), 2);
        due("free(16,1)", x.free(16, 1), 0);
        x.come(1, 9);
        int[] counts = {1, 1, 1, 1, 1, 0, 0};
        int[] firsts = {1, 2, 4, 8, 32, -5, -5};
        for (int power = 0; power < 7; power++) {
            due("free(" + (1 << power) + ",0)", x.free(1 << power, 0), counts[power]);
            due("free(" + (1 << power) + ",1)", x.free(1 << power, 1), firsts[power]);
        }
        for (int bad : new int[] {LOW, -64, -1, 0, 3, 5, 6, 63, 65, 128, HIGH}) {
            due("free(" + bad + ",0)", x.free(bad, 0), TwinSuites.OUT_OF_RANGE);
        }
        for (int bad : new int[] {LOW, -1, 2, HIGH}) {
            due("free(16," + bad + ")", x.free(16, bad), TwinSuites.OUT_OF_RANGE);
        }
    }

    private static void greatest() {
        TwinSuites x = begin(19);
        due("greatest(0)", x.greatest(0), 64);
        due("greatest(1)", x.greatest(1), 64);
        int[] rooms = {1, 32, 16, 8, 4, 2, 1};
        int[] greatest = {32, 16, 8, 4, 2, 1, 0};
        for (int i = 0; i < rooms.length; i++) {
            x.come(rooms[i], 9);
            due("greatest(0)", x.greatest(0), greatest[i]);
            due("greatest(1)", x.greatest(1), greatest[i]);
        }
        x.leave(0);
        due("dirty rooms are not free", x.greatest(0), 0);
        due("dirty rooms are not free", x.greatest(1), 0);
        x.pass(1);
        due("the room 0 alone", x.greatest(0), 1);
        due("the room 0 alone", x.greatest(1), 1);
        x = scattered(19);
        due("greatest(0)", x.greatest(0), 16);
        due("greatest(1)", x.greatest(1), 16);
        x = begin(19);
        for (int guest = 0; guest < 4; guest++) {
            x.come(8, 9);
        }
        x.come(32, 9);
        x.leave(1);
        x.leave(2);
        x.pass(2);
        due("side by side, but no twins", x.greatest(0), 8);
        due("side by side, but no place", x.greatest(1), 8);
        for (int bad : new int[] {LOW, -1, 2, HIGH}) {
            due("greatest(" + bad + ")", x.greatest(bad), TwinSuites.OUT_OF_RANGE);
        }
    }

    private static void total() {
        TwinSuites x = begin(20);
        x.set(0, 1);
        x.set(1, 3);
        x.set(2, 5);
        x.come(3, 9);
        x.come(10, 9);
        x.come(1, 2);
        x.lose(2);
        x.lose(0);
        x.pass(4);
        x.leave(1);
        x.pass(1);
        x.come(5, 1);
        write(x, "1x1");
        int[] totals = {1, 3, 5, 5, 2, 36, 12, 16, 4, 5, 6, 2, 4, 4, 2, 1, 4, 3};
        for (int what = 0; what < totals.length; what++) {
            due("total(" + what + ")", x.total(what), totals[what]);
        }
        for (int bad : new int[] {LOW, -1, 18, HIGH}) {
            due("total(" + bad + ")", x.total(bad), TwinSuites.OUT_OF_RANGE);
        }
    }

    private static void why() {
        TwinSuites x = scattered(21);
        due("why(16)", x.why(16), 0);
        due("why(17)", x.why(17), 3);
        due("why(32)", x.why(32), 3);
        due("why(33)", x.why(33), 2);
        for (int bad : new int[] {LOW, -1, 0, 65, HIGH}) {
            due("why(" + bad + ")", x.why(bad), TwinSuites.OUT_OF_RANGE);
        }
        for (int guest = 0; guest < 10; guest++) {
            x.come(1, 30);
        }
        due("why(64)", x.why(64), 1);
        due("why(1)", x.why(1), 1);
        due("why(0)", x.why(0), TwinSuites.OUT_OF_RANGE);
        x.lose(0);
        x.leave(0);
        due("a key that is cut is not on its hook", x.why(1), 1);
        x.pass(2);
        due("why(1)", x.why(1), 0);
    }

    private static void ifCome() {
        TwinSuites x = scattered(22);
        due("ifCome(3)", x.ifCome(3), 0);
        due("ifCome(17)", x.ifCome(17), TwinSuites.NONE);
        due("ifCome(64)", x.ifCome(64), TwinSuites.NONE);
        x.set(0, 1);
        due("ifCome(3)", x.ifCome(3), 44);
        due("ifCome(16)", x.ifCome(16), 32);
        for (int bad : new int[] {LOW, -1, 0, 65, HIGH}) {
            due("ifCome(" + bad + ")", x.ifCome(bad), TwinSuites.OUT_OF_RANGE);
        }
        for (int guest = 0; guest < 10; guest++) {
            x.come(1, 30);
        }
        due("not for the reason 1", x.ifCome(1), 37);
        due("come(1,1)", x.come(1, 1), TwinSuites.REFUSED - 1);
    }

    private static void untilRoom() {
        TwinSuites x = begin(23);
        due("untilRoom(64)", x.untilRoom(64), 0);
        x.come(33, 30);
        x.stay(0, 30);
        x.stay(0, 30);
        x.stay(0, 9);
        due("untilRoom(1)", x.untilRoom(1), 106);
        x.set(1, 1);
        due("the longest", x.untilRoom(1), 162);
        x.leave(0);
        due("untilRoom(1)", x.untilRoom(1), 64);
        x = begin(23);
        x.come(8, 1);
        x.come(8, 5);
        x.come(16, 9);
        due("untilRoom(32)", x.untilRoom(32), 0);
        due("untilRoom(33)", x.untilRoom(33), 10);
        x.come(32, 20);
        due("untilRoom(1)", x.untilRoom(1), 1);
        due("untilRoom(9)", x.untilRoom(9), 5);
        due("untilRoom(17)", x.untilRoom(17), 10);
        due("untilRoom(33)", x.untilRoom(33), 23);
        for (int guest = 0; guest < 8; guest++) {
            x.come(1, 30);
        }
        for (int bad : new int[] {LOW, -1, 0, 65, HIGH}) {
            due("untilRoom(" + bad + ")", x.untilRoom(bad), TwinSuites.OUT_OF_RANGE);
        }
        x = begin(23);
        for (int call = 0; call < 199; call++) {
            x.pass(50);
        }
        x.pass(49);
        x.come(64, 30);
        due("beyond the last day", x.untilRoom(64), 37);
    }

    private static void bestLeave() {
        TwinSuites x = begin(24);
        due("bestLeave()", x.bestLeave(), TwinSuites.NONE);
        x.come(16, 9);
        due("bestLeave()", x.bestLeave(), 0);
        x.come(16, 9);
        due("of several the lowest", x.bestLeave(), 0);
        x.come(32, 9);
        due("bestLeave()", x.bestLeave(), 2);
        x.leave(2);
        due("dirty rooms stay dirty", x.bestLeave(), 0);
        x.pass(4);
        due("both leave 32", x.bestLeave(), 0);
        x.leave(0);
        x.pass(2);
        due("joined with its twin", x.bestLeave(), 1);
        due("joins are not counted", x.total(11), 0);
        x = begin(24);
        x.come(32, 9);
        x.come(16, 9);
        x.come(8, 9);
        x.leave(1);
        x.pass(2);
        due("joined with twins twice", x.bestLeave(), 0);
        x.come(16, 9);
        x.come(8, 9);
        x.leave(0);
        due("the greatest of the guests' alone", x.bestLeave(), 1);
        x = begin(24);
        x.come(8, 9);
        x.come(16, 9);
        due("a greater one is free already", x.bestLeave(), 0);
    }

    private static void ifPassed() {
        TwinSuites x = begin(25);
        x.come(8, 1);
        x.come(8, 5);
        x.come(16, 9);
        x.come(32, 20);
        int[] days = {1, 4, 5, 9, 10, 22, 23, 300};
        int[][] due = {{8, 8, 3}, {8, 8, 3}, {16, 16, 2}, {16, 16, 1}, {32, 32, 1}, {32, 32, 0}, {64, 64, 0}, {64, 64, 0}};
        for (int i = 0; i < days.length; i++) {
            for (int what = 0; what < 3; what++) {
                due("ifPassed(" + days[i] + "," + what + ")", x.ifPassed(days[i], what), due[i][what]);
            }
        }
        for (int bad : new int[] {LOW, -1, 0, 301, HIGH}) {
            due("ifPassed(" + bad + ",0)", x.ifPassed(bad, 0), TwinSuites.OUT_OF_RANGE);
        }
        for (int bad : new int[] {LOW, -1, 3, HIGH}) {
            due("ifPassed(1," + bad + ")", x.ifPassed(1, bad), TwinSuites.OUT_OF_RANGE);
        }
        due("days", x.total(3), 0);
        due("guests", x.total(4), 4);
    }

    private static void nothingChangesByQuestions() {
        TwinSuites x = begin(21);
        x.come(5, 3);
        x.come(1, 9);
        x.lose(0);
        x.leave(1);
        int[] before = new int[18];
        for (int what = 0; what < 18; what++) {
            before[what] = x.total(what);
        }
        x.why(3);
        x.ifCome(3);
        x.untilRoom(64);
        x.bestLeave();
        x.ifPassed(300, 1);
        for (int what = 0; what < 18; what++) {
            due("total(" + what + ")", x.total(what), before[what]);
        }
        due("guest(0,3)", x.guest(0, 3), 3);
        due("undo()", x.undo(), 3);
        due("guest(1,2)", x.guest(1, 2), 8);
    }

    /** What questions and undone changes looked at must be gone when the next change is made. */
    private static void changesRestOnTheStateAlone() {
        TwinSuites x = begin(12);
        x.come(3, 9);
        x.ifPassed(300, 2);
        due("leave(0)", x.leave(0), 4);
        x.undo();
        due("move(0)", x.move(0), 4);
        x.undo();
        x.ifPassed(5, 2);
        due("stay(0,2)", x.stay(0, 2), 11);
        x.undo();
        x.ifPassed(300, 2);
        due("lose(0)", x.lose(0), 1);
        x.undo();
        due("pass(1)", x.pass(1), 60);
        x.undo();
        due("set(1,3)", x.set(1, 3), 8);
        x.undo();
        x.ifPassed(300, 2);
        due("perform()", performed(x, ".,-0"), 2);
        x.undo();
        due("come(1,1)", x.come(1, 1), 1);
        due("guest(0,3)", x.guest(0, 3), 9);
        due("history", x.total(16), 2);
    }
}
