/** A TwinSuites that is called at most 512 times, as the document has it, and tells its latest call. */
final class Called {
    private static final int MOST_CALLS = 512;

    private final TwinSuites palace = new TwinSuites();
    private int calls = 0;
    private static String latest = "";

    static String latest() {
        return latest;
    }

    private int told(int answer, String name, int... arguments) {
        StringBuilder call = new StringBuilder(name).append('(');
        for (int i = 0; i < arguments.length; i++) {
            call.append(i == 0 ? "" : ", ").append(arguments[i]);
        }
        latest = call.append(')').toString();
        calls++;
        if (calls > MOST_CALLS) {
            throw new IllegalStateException("the test calls an object more than " + MOST_CALLS + " times");
        }
        return answer;
    }

    int come(int rooms, int days) {
        return told(palace.come(rooms, days), "come", rooms, days);
    }

    int leave(int guest) {
        return told(palace.leave(guest), "leave", guest);
    }

    int move(int guest) {
        return told(palace.move(guest), "move", guest);
    }

    int stay(int guest, int days) {
        return told(palace.stay(guest, days), "stay", guest, days);
    }

    int lose(int guest) {
        return told(palace.lose(guest), "lose", guest);
    }

    int pass(int days) {
        return told(palace.pass(days), "pass", days);
    }

    int set(int setting, int value) {
        return told(palace.set(setting, value), "set", setting, value);
    }

    int perform() {
        return told(palace.perform(), "perform");
    }

    int type(char character) {
        return told(palace.type(character), "type", character);
    }

    int clearText() {
        return told(palace.clearText(), "clearText");
    }

    int undo() {
        return told(palace.undo(), "undo");
    }

    int keep() {
        return told(palace.keep(), "keep");
    }

    int restore() {
        return told(palace.restore(), "restore");
    }

    int room(int room, int what) {
        return told(palace.room(room, what), "room", room, what);
    }

    int guest(int guest, int what) {
        return told(palace.guest(guest, what), "guest", guest, what);
    }

    int hook(int hook) {
        return told(palace.hook(hook), "hook", hook);
    }

    int free(int size, int what) {
        return told(palace.free(size, what), "free", size, what);
    }

    int greatest(int way) {
        return told(palace.greatest(way), "greatest", way);
    }

    int total(int what) {
        return told(palace.total(what), "total", what);
    }

    int why(int rooms) {
        return told(palace.why(rooms), "why", rooms);
    }

    int ifCome(int rooms) {
        return told(palace.ifCome(rooms), "ifCome", rooms);
    }

    int untilRoom(int rooms) {
        return told(palace.untilRoom(rooms), "untilRoom", rooms);
    }

    int bestLeave() {
        return told(palace.bestLeave(), "bestLeave");
    }

    int ifPassed(int days, int what) {
        return told(palace.ifPassed(days, what), "ifPassed", days, what);
    }

    /** Puts this text in place of the one that was there. */
    void write(String text) {
        clearText();
        for (int i = 0; i < text.length(); i++) {
            type(text.charAt(i));
        }
    }

    int performed(String text) {
        write(text);
        int answer = perform();
        latest = "perform() of \"" + text + "\"";
        return answer;
    }
}
