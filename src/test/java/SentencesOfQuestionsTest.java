import java.util.List;
import java.util.function.ToIntFunction;

/** The sentences of the promises 15 to 25: what there is, and what would be. */
public final class SentencesOfQuestionsTest extends Sentences {
    private static final String ROOM = "Promise 15";
    private static final String GUEST = "Promise 16";
    private static final String HOOK = "Promise 17";
    private static final String FREE = "Promise 18";
    private static final String GREATEST = "Promise 19";
    private static final String TOTAL = "Promise 20";
    private static final String WHY = "Promise 21";
    private static final String IF_COME = "Promise 22";
    private static final String UNTIL_ROOM = "Promise 23";
    private static final String BEST_LEAVE = "Promise 24";
    private static final String IF_PASSED = "Promise 25";
    private static final String AHEAD = "---- what would be; nothing changes.";

    public static void main(String[] args) throws Exception {
        run(SentencesOfQuestionsTest.class, args);
    }

    /** Suites of 4 (dirty) from 0, 1 from 4 (guest 1), 1 from 5, 2 from 6, 4 from 8 (guest 2), 4, 16 and 32. */
    private static Called mixed() {
        Called x = guests(3, 1, 4);
        x.leave(0);
        return x;
    }

    private static void rows(ToIntFunction<int[]> call, int[][] rows) {
        for (int[] row : rows) {
            due(call.applyAsInt(row), row[row.length - 1]);
        }
    }

    // ---- Promise 15

    @Sentence(at = ROOM, says = "`room`: 0 to 63")
    static void theRooms0To63() {
        for (int what = 0; what < 6; what++) {
            Called x = palace();
            for (int room : new int[] {LOW, -64, -1, 64, 65, HIGH}) {
                due(x.room(room, what), UNKNOWN);
            }
            due(x.room(0, what), what == 1 ? 64 : what == 3 || what == 4 ? NONE : 0);
            due(x.room(63, what), what == 1 ? 64 : what == 3 || what == 4 ? NONE : 0);
        }
    }

    @Sentence(at = ROOM, says = "0 for the lowest room of its suite")
    static void theLowestRoomOfTheSuite() {
        Called x = mixed();
        int[][] rows = {{0, 0}, {3, 0}, {4, 4}, {5, 5}, {6, 6}, {7, 6}, {8, 8}, {11, 8}, {12, 12}, {15, 12}, {16, 16}, {31, 16}, {32, 32}, {63, 32}};
        rows(row -> x.room(row[0], 0), rows);
    }

    @Sentence(at = ROOM, says = "1 for the rooms of its suite")
    static void theRoomsOfTheSuite() {
        Called x = mixed();
        int[][] rows = {{0, 4}, {3, 4}, {4, 1}, {5, 1}, {6, 2}, {7, 2}, {8, 4}, {11, 4}, {12, 4}, {15, 4}, {16, 16}, {31, 16}, {32, 32}, {63, 32}};
        rows(row -> x.room(row[0], 1), rows);
    }

    @Sentence(at = ROOM, says = "2 for how it is (0 free, 1 a guest's, 2 dirty)")
    static void howTheRoomIs() {
        Called x = mixed();
        int[][] rows = {{0, 2}, {3, 2}, {4, 1}, {5, 0}, {7, 0}, {8, 1}, {11, 1}, {12, 0}, {63, 0}};
        rows(row -> x.room(row[0], 2), rows);
        x.set(BROOM, 3);
        x.pass(1);
        due("not done: dirty", x.room(0, 2), 2);
        x.pass(1);
        due(x.room(0, 2), 0);
    }

    @Sentence(at = ROOM, says = "3 for its guest (NONE without one)")
    static void theGuestOfTheRoom() {
        Called x = mixed();
        int[][] rows = {{0, NONE}, {3, NONE}, {4, 1}, {5, NONE}, {8, 2}, {11, 2}, {12, NONE}, {63, NONE}};
        rows(row -> x.room(row[0], 3), rows);
        due(guests(64).room(63, 3), 0);
        due(twelveGuests().room(11, 3), 11);
    }

    @Sentence(at = ROOM, says = "4 for the lowest room of the twin of its suite")
    static void theLowestRoomOfTheTwin() {
        Called x = mixed();
        int[][] rows = {{0, 4}, {3, 4}, {4, 5}, {5, 4}, {6, 4}, {7, 4}, {8, 12}, {11, 12}, {12, 8}, {15, 8}, {16, 0}, {31, 0}, {32, 0}, {63, 0}};
        rows(row -> x.room(row[0], 4), rows);
    }

    @Sentence(at = ROOM, says = "(NONE for a suite of 64)")
    static void noTwinOfASuiteOf64() {
        Called x = palace();
        due(x.room(0, 4), NONE);
        due(x.room(63, 4), NONE);
        x.come(33, 9);
        due(x.room(32, 4), NONE);
        x.leave(0);
        due(x.room(32, 4), NONE);
    }

    @Sentence(at = ROOM, says = "5 for whether that is a suite of the same size (1, otherwise 0")
    static void whetherTheTwinIsASuiteOfTheSameSize() {
        Called x = mixed();
        int[][] rows = {{0, 0}, {3, 0}, {4, 1}, {5, 1}, {6, 0}, {7, 0}, {8, 1}, {12, 1}, {15, 1}, {16, 0}, {32, 0}, {63, 0}};
        rows(row -> x.room(row[0], 5), rows);
        x.leave(2);
        due("also a dirty one", x.room(12, 5), 1);
        due(x.room(8, 5), 1);
    }

    @Sentence(at = ROOM, says = "0 for a suite of 64")
    static void noTwinOfTheSameSizeOfASuiteOf64() {
        due(palace().room(0, 5), 0);
        due(palace().room(63, 5), 0);
        due(guests(64).room(31, 5), 0);
    }

    @Sentence(at = ROOM, says = "Returns the number; UNKNOWN; OUT_OF_RANGE.")
    static void ofARoomSixThingsAreTold() {
        for (int what : new int[] {LOW, -1, 6, HIGH}) {
            due(mixed().room(0, what), OUT_OF_RANGE);
            due(mixed().room(63, what), OUT_OF_RANGE);
            due(mixed().room(64, what), UNKNOWN);
            due(mixed().room(-1, what), UNKNOWN);
        }
    }

    // ---- Promise 16

    @Sentence(at = GUEST, says = "`guest`: 0 to 11")
    static void theGuests0To11() {
        Called x = twelveGuests();
        for (int guest = 0; guest < 12; guest++) {
            due(x.guest(guest, 2), guest);
        }
        for (int guest : new int[] {LOW, -1, 12, HIGH}) {
            for (int what = 0; what < 6; what++) {
                due(x.guest(guest, what), UNKNOWN);
            }
        }
    }

    @Sentence(at = GUEST, says = "0 for the rooms wanted")
    static void theRoomsWanted() {
        Called x = guests(1, 3, 17, 5);
        int[][] rows = {{0, 1}, {1, 3}, {2, 17}, {3, 5}};
        rows(row -> x.guest(row[0], 0), rows);
        due(guests(64).guest(0, 0), 64);
        due(guests(33).guest(0, 0), 33);
    }

    @Sentence(at = GUEST, says = "1 for the rooms of the suite")
    static void theRoomsOfTheGuestsSuite() {
        Called x = guests(1, 3, 17, 5);
        int[][] rows = {{0, 1}, {1, 4}, {2, 32}, {3, 8}};
        rows(row -> x.guest(row[0], 1), rows);
        due(guests(33).guest(0, 1), 64);
    }

    @Sentence(at = GUEST, says = "2 for its lowest room")
    static void theLowestRoomOfTheGuestsSuite() {
        Called x = guests(1, 3, 17, 5);
        int[][] rows = {{0, 0}, {1, 4}, {2, 32}, {3, 8}};
        rows(row -> x.guest(row[0], 2), rows);
        x.move(1);
        due(x.guest(1, 2), 16);
    }

    @Sentence(at = GUEST, says = "3 for how many days the guest stays still")
    static void theDaysStill() {
        Called x = palace();
        x.come(1, 1);
        x.come(1, 30);
        due(x.guest(0, 3), 1);
        due(x.guest(1, 3), 30);
        x.pass(1);
        due(x.guest(0, 3), UNKNOWN);
        due(x.guest(1, 3), 29);
        x.pass(28);
        due(x.guest(1, 3), 1);
        x.stay(1, 30);
        due(x.guest(1, 3), 31);
    }

    @Sentence(at = GUEST, says = "4 for whether the key is lost (1, otherwise 0)")
    static void whetherTheKeyIsLost() {
        Called x = guests(1, 1);
        due(x.guest(0, 4), 0);
        x.lose(0);
        due(x.guest(0, 4), 1);
        due(x.guest(1, 4), 0);
        x.set(CUT, 0);
        x.leave(0);
        due(x.come(1, 1), 0);
        due("the next guest", x.guest(0, 4), 0);
    }

    @Sentence(at = GUEST, says = "5 for how often the guest was moved")
    static void howOftenTheGuestWasMoved() {
        Called x = guests(1, 1);
        due(x.guest(0, 5), 0);
        x.move(0);
        due(x.guest(0, 5), 1);
        x.move(0);
        due(x.guest(0, 5), 2);
        due(x.guest(1, 5), 0);
        x.leave(0);
        due(x.come(1, 1), 0);
        due("the next guest", x.guest(0, 5), 0);
    }

    @Sentence(at = GUEST, says = "Returns the number; UNKNOWN; OUT_OF_RANGE.")
    static void ofAGuestSixThingsAreTold() {
        for (int what : new int[] {LOW, -1, 6, HIGH}) {
            due(guests(1).guest(0, what), OUT_OF_RANGE);
            due(guests(1).guest(1, what), UNKNOWN);
            due(guests(1).guest(12, what), UNKNOWN);
        }
        Called x = guests(1);
        x.lose(0);
        x.leave(0);
        due("gone", x.guest(0, 0), UNKNOWN);
    }

    // ---- Promise 17

    @Sentence(at = HOOK, says = "`hook`: 0 to 11")
    static void theHooks0To11() {
        Called x = twelveGuests();
        for (int hook = 0; hook < 12; hook++) {
            due(x.hook(hook), hook + 1);
        }
        for (int hook : new int[] {LOW, -1, 12, HIGH}) {
            due(x.hook(hook), UNKNOWN);
        }
    }

    @Sentence(at = HOOK, says = "Returns 0 if its key is there")
    static void aHookWithItsKeyIs0() {
        Called x = guests(1);
        due(x.hook(1), 0);
        due(x.hook(11), 0);
        x.leave(0);
        due(x.hook(0), 0);
    }

    @Sentence(at = HOOK, says = "-10 minus the days if its key is being cut for so many days still")
    static void aHookWhoseKeyIsCutIsMinus10MinusTheDays() {
        for (int cut : new int[] {1, 2, 9}) {
            Called x = guests(64);
            x.set(CUT, cut);
            x.lose(0);
            x.leave(0);
            due(x.hook(0), -10 - cut);
            x.pass(cut - 1 == 0 ? 1 : cut - 1);
            due(x.hook(0), cut == 1 ? 0 : -11);
        }
    }

    @Sentence(at = HOOK, says = "otherwise 1 more than the lowest room of its guest")
    static void aHookOfAGuestIsOneMoreThanTheLowestRoom() {
        Called x = guests(2, 2);
        due(x.hook(0), 1);
        due(x.hook(1), 3);
        x.lose(1);
        due("also if the key is lost", x.hook(1), 3);
        x.set(SIDE, 1);
        due(x.come(1, 1), 2);
        due(x.hook(2), 8);
        x = palace();
        x.set(SIDE, 1);
        x.come(1, 1);
        due("the last room", x.hook(0), 64);
    }

    // ---- Promise 18

    @Sentence(at = FREE, says = "`size`: one of 1, 2, 4, 8, 16, 32 and 64")
    static void theSizesOfFreeSuites() {
        Called x = guests(1);
        for (int size = -1; size <= 130; size++) {
            boolean is = size > 0 && size <= 64 && Integer.bitCount(size) == 1;
            due(x.free(size, 0), !is ? OUT_OF_RANGE : size == 64 ? 0 : 1);
            due(x.free(size, 1), !is ? OUT_OF_RANGE : size == 64 ? NONE : size);
        }
        for (int size : new int[] {LOW, -64, -32, 256, 1 << 16, 1 << 30, HIGH}) {
            due(x.free(size, 0), OUT_OF_RANGE);
        }
    }

    @Sentence(at = FREE, says = "0 for how many free suites of this size there are")
    static void howManyFreeSuitesOfASize() {
        Called x = quarters();
        int[][] rows = {{1, 0}, {8, 0}, {16, 2}, {32, 0}, {64, 0}};
        rows(row -> x.free(row[0], 0), rows);
        due(palace().free(64, 0), 1);
        due(guests(64).free(64, 0), 0);
        Called dirty = guests(32);
        dirty.leave(0);
        due("neither a dirty one", dirty.free(32, 0), 1);
        due("of many", gone(guests(4, 4, 4, 4, 4, 4, 4, 4, 4, 4, 4, 4), 0, 2, 4, 6, 8, 10).free(4, 0), 6);
    }

    @Sentence(at = FREE, says = "1 for the lowest room of the lowest of them")
    static void theLowestRoomOfTheLowestFreeSuite() {
        Called x = quarters();
        due(x.free(16, 1), 0);
        x.come(9, 9);
        due(x.free(16, 1), 32);
        due(mixed().free(1, 1), 5);
        due(mixed().free(4, 1), 12);
        due(palace().free(64, 1), 0);
        x = guests(32);
        x.leave(0);
        due("not the dirty one", x.free(32, 1), 32);
    }

    @Sentence(at = FREE, says = "(NONE without one)")
    static void noneWithoutAFreeSuiteOfThisSize() {
        for (int size : SIZES) {
            due(guests(64).free(size, 1), NONE);
            due(guests(64).free(size, 0), 0);
            due(palace().free(size, 1), size == 64 ? 0 : NONE);
        }
    }

    @Sentence(at = FREE, says = "Returns the number; OUT_OF_RANGE.")
    static void ofFreeSuitesTwoThingsAreTold() {
        for (int what : new int[] {LOW, -1, 2, HIGH}) {
            due(palace().free(64, what), OUT_OF_RANGE);
            due(palace().free(3, what), OUT_OF_RANGE);
        }
    }

    // ---- Promise 19

    private static void greatest(Called x, int want) {
        due(x.greatest(0), want);
        due(x.greatest(1), want);
    }

    @Sentence(at = GREATEST, says = "0 told by the free suites; 1 told room by room: the greatest size so that all rooms of some place for a suite of this size are free")
    static void theGreatestFreeSuiteOfEachSize() {
        Called x = palace();
        greatest(x, 64);
        int[] rooms = {1, 32, 16, 8, 4, 2, 1};
        int[] left = {32, 16, 8, 4, 2, 1, 0};
        for (int i = 0; i < rooms.length; i++) {
            x.come(rooms[i], 30);
            greatest(x, left[i]);
        }
    }

    @Sentence(at = GREATEST, says = "all rooms of some place for a suite of this size are free")
    static void freeRoomsSideBySideNeedNotBeAPlace() {
        greatest(gone(guests(8, 8, 8, 8, 32), 1, 2), 8);
        greatest(gone(guests(16, 16, 16, 16), 1, 2), 16);
        greatest(gone(guests(1, 1, 1, 1, 4, 8, 16, 32), 1, 2), 1);
        greatest(gone(guests(1, 1, 1, 1, 4, 8, 16, 32), 2, 3), 2);
    }

    @Sentence(at = GREATEST, says = "0 without a free room")
    static void theGreatestIs0WithoutAFreeRoom() {
        Called x = guests(64);
        greatest(x, 0);
        x.leave(0);
        greatest(x, 0);
        x.set(BROOM, 63);
        x.pass(1);
        greatest(x, 0);
        x.pass(1);
        greatest(x, 64);
    }

    @Sentence(at = GREATEST, says = "(the same by both ways)")
    static void theGreatestIsTheSameByBothWays() {
        Called x = palace();
        for (int call = 0; call < 100; call++) {
            x.come(1 + call * 7 % 11, 1 + call * 5 % 6);
            if (call % 3 == 2) {
                x.pass(1);
            }
            due(x.greatest(1), x.greatest(0));
        }
    }

    @Sentence(at = GREATEST, says = "Returns how many, 0 without a free room (the same by both ways); OUT_OF_RANGE.")
    static void theGreatestIsToldInTwoWays() {
        for (int way : new int[] {LOW, -1, 2, HIGH}) {
            due(palace().greatest(way), OUT_OF_RANGE);
        }
    }

    // ---- Promise 20

    @Sentence(at = TOTAL, says = "0 to 2 for the settings")
    static void total0To2AreTheSettings() {
        Called x = palace();
        x.set(SIDE, 1);
        x.set(BROOM, 64);
        x.set(CUT, 9);
        due(x.total(0), 1);
        due(x.total(1), 64);
        due(x.total(2), 9);
    }

    @Sentence(at = TOTAL, says = "3 for the days")
    static void total3IsTheDays() {
        Called x = palace();
        x.pass(50);
        x.performed(".,.9");
        due(x.total(3), 60);
        due(lastDay().total(3), 9999);
    }

    @Sentence(at = TOTAL, says = "4 for guests, 5 for free rooms, 6 for rooms of guests, 7 for dirty rooms")
    static void total4To7AreGuestsAndRooms() {
        Called x = guests(3, 5, 1);
        x.leave(2);
        x.leave(0);
        int[][] rows = {{4, 1}, {5, 51}, {6, 8}, {7, 5}};
        rows(row -> x.total(row[0]), rows);
        x.set(BROOM, 4);
        x.pass(1);
        int[][] halfDone = {{4, 1}, {5, 52}, {6, 8}, {7, 4}};
        rows(row -> x.total(row[0]), halfDone);
        due(twelveGuests().total(4), 12);
        due(guests(64).total(6), 64);
        due(guests(64).total(5), 0);
    }

    @Sentence(at = TOTAL, says = "8 for rooms that guests have beyond those that they want")
    static void total8IsTheRoomsBeyondThoseWanted() {
        Called x = guests(3, 5, 4);
        due(x.total(8), 4);
        x.leave(1);
        due(x.total(8), 1);
        due(guests(33).total(8), 31);
        due(guests(64).total(8), 0);
    }

    @Sentence(at = TOTAL, says = "9 for suites")
    static void total9IsTheSuites() {
        due(palace().total(9), 1);
        due(guests(1).total(9), 7);
        due(mixed().total(9), 8);
        due(gone(guests(1), 0).total(9), 1);
    }

    @Sentence(at = TOTAL, says = "10 for halvings so far, 11 for joins so far")
    static void total10And11AreHalvingsAndJoinsSoFar() {
        Called x = guests(1);
        due(x.total(10), 6);
        due(x.total(11), 0);
        gone(x, 0);
        due(x.total(10), 6);
        due(x.total(11), 6);
        x.come(32, 9);
        due(x.total(10), 7);
        x.move(0);
        due(x.total(10), 7);
        x.come(16, 9);
        due("no suite is free: the 32 are dirty", x.total(10), 7);
        x.pass(1);
        x.come(16, 9);
        due(x.total(10), 8);
        due(x.total(11), 6);
    }

    @Sentence(at = TOTAL, says = "12 for guests so far")
    static void total12IsTheGuestsSoFar() {
        Called x = guests(1, 1);
        x.leave(0);
        x.come(1, 1);
        x.pass(2);
        x.move(1);
        x.come(65, 1);
        due(x.total(12), 3);
    }

    @Sentence(at = TOTAL, says = "13 for rooms cleaned so far")
    static void total13IsTheRoomsCleanedSoFar() {
        Called x = guests(3, 16);
        x.leave(0);
        x.leave(1);
        x.pass(1);
        due(x.total(13), 8);
        x.pass(1);
        due(x.total(13), 16);
        x.pass(9);
        due(x.total(13), 20);
    }

    @Sentence(at = TOTAL, says = "14 for keys lost so far, 15 for keys that are being cut")
    static void total14And15AreKeysLostAndBeingCut() {
        Called x = guests(1, 1, 1);
        x.lose(0);
        x.lose(1);
        due(x.total(14), 2);
        due(x.total(15), 0);
        x.leave(0);
        x.leave(2);
        due(x.total(15), 1);
        x.leave(1);
        due(x.total(15), 2);
        x.pass(1);
        due(x.total(15), 2);
        x.pass(1);
        due(x.total(15), 0);
        due(x.total(14), 2);
    }

    @Sentence(at = TOTAL, says = "16 for the states in the history")
    static void total16IsTheStatesInTheHistory() {
        Called x = palace();
        for (int call = 0; call < 6; call++) {
            due(x.total(16), Math.min(4, call));
            x.pass(1);
        }
        x.undo();
        due(x.total(16), 3);
    }

    @Sentence(at = TOTAL, says = "17 for the length of the text")
    static void total17IsTheLengthOfTheText() {
        Called x = palace();
        for (int length = 1; length <= 61; length++) {
            x.type('?');
            due(x.total(17), Math.min(length, 60));
        }
        x.clearText();
        due(x.total(17), 0);
    }

    @Sentence(at = TOTAL, says = "Returns the number; OUT_OF_RANGE.")
    static void eighteenNumbersAreTold() {
        for (int what : new int[] {LOW, -1, 18, 19, HIGH}) {
            due(guests(1).total(what), OUT_OF_RANGE);
        }
        for (int what = 0; what < 18; what++) {
            due("whether a number is told", palace().total(what) >= 0 ? 1 : 0, 1);
        }
    }

    // ---- Promise 21

    @Sentence(at = WHY, says = "`rooms`: 1 to 64")
    static void whyOf1To64Rooms() {
        Called x = palace();
        for (int rooms = 1; rooms <= 64; rooms++) {
            due(x.why(rooms), 0);
        }
        for (int rooms : new int[] {LOW, -1, 0, 65, HIGH}) {
            due(x.why(rooms), OUT_OF_RANGE);
            due(twelveGuests().why(rooms), OUT_OF_RANGE);
        }
    }

    @Sentence(at = WHY, says = "Returns 0 if the guest would not, otherwise the reason 1 to 3")
    static void whyTellsTheReason() {
        Called x = quarters();
        int[][] rows = {{1, 0}, {16, 0}, {17, 3}, {32, 3}, {33, 2}, {64, 2}};
        rows(row -> x.why(row[0]), rows);
        due(twelveGuests().why(1), 1);
        due(twelveGuests().why(64), 1);
    }

    @Sentence(at = WHY, says = "Tells why a guest would be refused.")
    static void whyTellsWhatComeWouldAnswer() {
        for (int rooms = 1; rooms <= 64; rooms++) {
            Called x = gone(guests(8, 16, 4, 16), 1);
            int reason = x.why(rooms);
            due(x.come(rooms, 1), reason == 0 ? 1 : REFUSED - reason);
        }
    }

    // ---- Promise 22

    @Sentence(at = IF_COME, says = "`rooms`: 1 to 64")
    static void ifComeOf1To64Rooms() {
        Called x = palace();
        for (int rooms = 1; rooms <= 64; rooms++) {
            due(x.ifCome(rooms), 0);
        }
        for (int rooms : new int[] {LOW, -1, 0, 65, HIGH}) {
            due(x.ifCome(rooms), OUT_OF_RANGE);
            due(guests(64).ifCome(rooms), OUT_OF_RANGE);
        }
    }

    @Sentence(at = IF_COME, says = "Tells the lowest room of the suite that a guest would get.")
    static void ifComeTellsTheRoomThatComeWouldGive() {
        for (int side = 0; side < 2; side++) {
            for (int rooms = 1; rooms <= 32; rooms++) {
                Called x = guests(3, 8, 1);
                x.set(SIDE, side);
                int first = x.ifCome(rooms);
                due(x.come(rooms, 1), 3);
                due(x.guest(3, 2), first);
            }
        }
    }

    @Sentence(at = IF_COME, says = "Tells the lowest room of the suite that a guest would get.")
    static void ifComeOfTheUpperHalves() {
        Called x = palace();
        x.set(SIDE, 1);
        int[][] rows = {{1, 63}, {2, 62}, {3, 60}, {8, 56}, {9, 48}, {17, 32}, {33, 0}};
        rows(row -> x.ifCome(row[0]), rows);
    }

    @Sentence(at = IF_COME, says = "NONE for the reasons 2 and 3.")
    static void ifComeIsNoneForTheReasons2And3() {
        Called x = quarters();
        due("reason 2", x.ifCome(33), NONE);
        due("reason 3", x.ifCome(17), NONE);
        due(x.ifCome(16), 0);
        due(guests(64).ifCome(1), NONE);
    }

    @Sentence(at = IF_COME, says = "NONE for the reasons 2 and 3.")
    static void ifComeIsNoneWithSide1Too() {
        Called x = quarters();
        x.set(SIDE, 1);
        due("reason 2", x.ifCome(33), NONE);
        due("reason 3", x.ifCome(17), NONE);
        due(x.ifCome(16), 32);
        x = guests(64);
        x.set(SIDE, 1);
        for (int size : SIZES) {
            due(x.ifCome(size), NONE);
        }
    }

    @Sentence(at = IF_COME, says = "NONE for the reasons 2 and 3.")
    static void ifComeIsARoomInSpiteOfTheReason1() {
        Called x = twelveGuests();
        due(x.why(1), 1);
        due(x.ifCome(1), 12);
        due(x.ifCome(32), 32);
        due(x.ifCome(33), NONE);
    }

    @Sentence(at = IF_COME, says = "Returns the room; OUT_OF_RANGE; NONE")
    static void ifComeOutOfRangeGoesAheadOfNone() {
        due(guests(64).ifCome(64), NONE);
        due(guests(64).ifCome(65), OUT_OF_RANGE);
        due(guests(64).ifCome(0), OUT_OF_RANGE);
    }

    // ---- Promise 23

    @Sentence(at = UNTIL_ROOM, says = "`rooms`: 1 to 64")
    static void untilRoomOf1To64Rooms() {
        Called x = palace();
        for (int rooms = 1; rooms <= 64; rooms++) {
            due(x.untilRoom(rooms), 0);
        }
        for (int rooms : new int[] {LOW, -1, 0, 65, HIGH}) {
            due(x.untilRoom(rooms), OUT_OF_RANGE);
            due(guests(64).untilRoom(rooms), OUT_OF_RANGE);
        }
    }

    @Sentence(at = UNTIL_ROOM, says = "Returns how many, 0 if there is one now")
    static void untilRoomIs0IfThereIsOneNow() {
        Called x = guests(32);
        due(x.untilRoom(32), 0);
        due(x.untilRoom(33), 33);
        due(twelveGuests().untilRoom(32), 0);
    }

    @Sentence(at = UNTIL_ROOM, says = "Tells behind how many days there is a free suite that is large enough for a guest")
    static void untilRoomWaitsForLeavingAndCleaning() {
        Called x = palace();
        x.come(32, 1);
        x.come(16, 5);
        x.come(9, 9);
        int[][] rows = {{1, 4}, {32, 4}, {33, 10}, {64, 10}};
        rows(row -> x.untilRoom(row[0]), rows);
        x.set(BROOM, 64);
        int[][] fast = {{1, 1}, {16, 1}, {32, 1}, {33, 9}};
        rows(row -> x.untilRoom(row[0]), fast);
        x.pass(1);
        int[][] later = {{32, 0}, {33, 8}};
        rows(row -> x.untilRoom(row[0]), later);
    }

    @Sentence(at = UNTIL_ROOM, says = "a free suite that is large enough")
    static void untilRoomWaitsForASuiteAndNotForRooms() {
        Called x = quarters();
        due(x.total(5), 32);
        due(x.untilRoom(17), 29);
    }

    @Sentence(at = UNTIL_ROOM, says = "a free suite that is large enough")
    static void untilRoomIsTheSameWithSide1() {
        Called x = quarters();
        x.set(SIDE, 1);
        due(x.untilRoom(16), 0);
        due(x.untilRoom(17), 29);
        x = guests(64);
        x.set(SIDE, 1);
        for (int size : SIZES) {
            due(x.untilRoom(size), 37);
        }
    }

    @Sentence(at = UNTIL_ROOM, says = "a free suite that is large enough for a guest")
    static void untilRoomDoesNotWaitForAKey() {
        Called x = twelveGuests();
        due(x.why(1), 1);
        due(x.untilRoom(1), 0);
        due(x.untilRoom(32), 0);
        due(x.untilRoom(64), 31);
    }

    @Sentence(at = UNTIL_ROOM, says = "if nobody comes, and nothing else is done")
    static void untilRoomIsHowManyDaysMustPass() {
        for (int rooms : SIZES) {
            Called x = palace();
            busy(x);
            x.come(9, 2);
            int days = x.untilRoom(rooms);
            for (int day = 0; day < days; day++) {
                due("whether there is one behind " + day + " days", x.greatest(0) >= rooms ? 1 : 0, 0);
                x.pass(1);
            }
            due("whether there is one behind " + days + " days", x.greatest(0) >= rooms ? 1 : 0, 1);
        }
    }

    @Sentence(at = UNTIL_ROOM, says = "at most 300; OUT_OF_RANGE; NONE if it takes longer.")
    static void untilRoomOfTheLongestStayAndTheSlowestCleaning() {
        Called x = guests(64);
        x.stay(0, 30);
        x.stay(0, 30);
        x.stay(0, 9);
        x.set(BROOM, 1);
        // The longest wait that there is, so that NONE is never due.
        due("98 days, and 64 for the rooms", x.untilRoom(1), 162);
        due(x.untilRoom(64), 162);
        x.set(BROOM, 64);
        due(x.untilRoom(64), 99);
    }

    // ---- Promise 24

    @Sentence(at = BEST_LEAVE, says = "Finds the guest whose leaving would bring the greatest free suite")
    static void bestLeaveIsTheGuestForTheGreatestFreeSuite() {
        Called x = guests(8, 8, 16, 32);
        due(x.bestLeave(), 3);
        x.leave(3);
        due(x.bestLeave(), 2);
        x.leave(2);
        due(x.bestLeave(), 0);
    }

    @Sentence(at = BEST_LEAVE, says = "would bring the greatest free suite")
    static void bestLeaveCountsWhatIsJoined() {
        Called x = gone(guests(16, 16, 32), 1);
        x.come(1, 9);
        x.come(8, 9);
        due("guest 0 has 16 rooms, guest 2 has 32", x.bestLeave(), 2);
        x = gone(guests(32, 4, 4, 8, 16), 2, 3, 4);
        due("guest 1 has 4 rooms, its leaving brings 32, as that of guest 0", x.bestLeave(), 0);
        x = gone(guests(4, 4, 8, 16, 16, 16), 1, 2, 3);
        due("the leaving of guest 0 brings 32, that of guest 4 brings 16", x.bestLeave(), 0);
        x = gone(guests(16, 16, 4, 4, 8, 16), 3, 4, 5);
        due("the leaving of guest 2 brings 32", x.bestLeave(), 2);
    }

    @Sentence(at = BEST_LEAVE, says = "if the rooms were clean at once")
    static void bestLeaveTakesTheRoomsAsCleanAtOnce() {
        Called x = guests(32, 16, 16);
        x.set(BROOM, 1);
        due(x.bestLeave(), 0);
        x.leave(0);
        due("the dirty 32 rooms count for nobody", x.bestLeave(), 1);
        due(x.total(7), 32);
        x = guests(16, 16, 16, 16);
        x.leave(3);
        due("the twin of guest 2 stays dirty", x.bestLeave(), 0);
    }

    @Sentence(at = BEST_LEAVE, says = "of several the lowest")
    static void bestLeaveIsTheLowestOfSeveral() {
        Called x = guests(16, 16, 16, 16);
        due(x.bestLeave(), 0);
        x.leave(0);
        due(x.bestLeave(), 1);
        due("a greater one is free already", guests(1, 2, 16).bestLeave(), 0);
        x = guests(1, 2, 16);
        x.leave(0);
        due(x.bestLeave(), 1);
    }

    @Sentence(at = BEST_LEAVE, says = "Returns the guest; NONE without guests.")
    static void bestLeaveIsNoneWithoutGuests() {
        Called x = palace();
        due(x.bestLeave(), NONE);
        x.come(64, 9);
        due(x.bestLeave(), 0);
        x.leave(0);
        due(x.bestLeave(), NONE);
        x = twelveGuests();
        for (int guest = 0; guest < 11; guest++) {
            x.leave(guest);
        }
        due("the last hook", x.bestLeave(), 11);
    }

    @Sentence(at = BEST_LEAVE, says = "would bring the greatest free suite")
    static void bestLeaveOfAGuestForOneRoomInAFullPalace() {
        Called x = guests(32, 16, 8, 4, 2, 1, 1);
        for (int guest = 0; guest < 5; guest++) {
            x.leave(guest);
        }
        due(x.total(5), 0);
        due(x.bestLeave(), 5);
        x.leave(5);
        due(x.bestLeave(), 6);
    }

    // ---- Promise 25

    @Sentence(at = IF_PASSED, says = "`days`: 1 to 300")
    static void ifPassedOf1To300Days() {
        Called x = palace();
        for (int days = 1; days <= 300; days++) {
            due(x.ifPassed(days, 0), 64);
        }
        for (int days : new int[] {LOW, -1, 0, 301, HIGH}) {
            for (int what = 0; what < 3; what++) {
                due(x.ifPassed(days, what), OUT_OF_RANGE);
            }
        }
    }

    @Sentence(at = IF_PASSED, says = "0 for free rooms then, 1 for the rooms of the greatest free suite then, 2 for guests then")
    static void ifPassedTellsThreeThings() {
        Called x = palace();
        x.come(16, 2);
        x.come(16, 9);
        x.come(16, 2);
        x.come(16, 9);
        int[][] rows = {{1, 0, 0}, {1, 1, 0}, {1, 2, 4}, {2, 0, 0}, {2, 1, 0}, {2, 2, 2}, {3, 0, 16}, {3, 1, 16}, {3, 2, 2},
            {5, 0, 32}, {5, 1, 16}, {8, 2, 2}, {9, 2, 0}, {9, 0, 32}, {10, 0, 48}, {10, 1, 32}, {12, 0, 64}, {12, 1, 64}, {300, 1, 64}};
        rows(row -> x.ifPassed(row[0], row[1]), rows);
    }

    @Sentence(at = IF_PASSED, says = "Returns the number; OUT_OF_RANGE.")
    static void ifPassedTellsNothingElse() {
        for (int what : new int[] {LOW, -1, 3, HIGH}) {
            due(palace().ifPassed(1, what), OUT_OF_RANGE);
            due(palace().ifPassed(300, what), OUT_OF_RANGE);
        }
    }

    @Sentence(at = IF_PASSED, says = "Tells what days would bring, if nobody comes.")
    static void ifPassedTellsWhatPassBrings() {
        for (int days = 1; days <= 50; days++) {
            Called x = palace();
            busy(x);
            x.come(3, 5);
            int free = x.ifPassed(days, 0);
            int greatest = x.ifPassed(days, 1);
            int guests = x.ifPassed(days, 2);
            due(x.pass(days), free);
            due(x.greatest(0), greatest);
            due(x.total(4), guests);
        }
    }

    @Sentence(at = IF_PASSED, says = "Tells what days would bring")
    static void ifPassedAndUntilRoomLookBeyondTheLastDay() {
        Called x = lastDay();
        x.come(64, 3);
        due(x.pass(1), NOT_POSSIBLE);
        due(x.ifPassed(2, 2), 1);
        due(x.ifPassed(3, 2), 0);
        due(x.ifPassed(300, 0), 64);
        due(x.untilRoom(1), 10);
    }

    // ---- what would be; nothing changes

    @Sentence(at = "ERRORS", says = AHEAD)
    static void whyChangesNothing() {
        changesNothing(Sentences::busy, x -> x.why(20), 2);
        changesNothing(Sentences::busy, x -> x.why(1), 0);
    }

    @Sentence(at = "ERRORS", says = AHEAD)
    static void ifComeChangesNothing() {
        changesNothing(Sentences::busy, x -> x.ifCome(1), 9);
    }

    @Sentence(at = "ERRORS", says = AHEAD)
    static void untilRoomChangesNothing() {
        changesNothing(Sentences::busy, x -> x.untilRoom(64), 13);
    }

    @Sentence(at = "ERRORS", says = AHEAD)
    static void bestLeaveChangesNothing() {
        changesNothing(Sentences::busy, Called::bestLeave, 2);
    }

    /** What the questions looked at must be gone when the next change is made. */
    @Sentence(at = "ERRORS", says = AHEAD)
    static void changesBehindQuestionsRestOnTheStateAlone() {
        ToIntFunction<Called> come = x -> x.come(7, 9);
        ToIntFunction<Called> leave = x -> x.leave(2);
        ToIntFunction<Called> move = x -> x.move(0);
        ToIntFunction<Called> stay = x -> x.stay(2, 9);
        ToIntFunction<Called> lose = x -> x.lose(2);
        ToIntFunction<Called> pass = x -> x.pass(1);
        ToIntFunction<Called> set = x -> x.set(CUT, 9);
        for (ToIntFunction<Called> change : List.of(come, leave, move, stay, lose, pass, set, Called::perform, Called::restore)) {
            Called without = palace();
            behindBusy(without);
            int answer = change.applyAsInt(without);
            Called with = palace();
            behindBusy(with);
            with.untilRoom(64);
            with.bestLeave();
            with.ifPassed(300, 0);
            due(change.applyAsInt(with), answer);
            same("behind " + Called.latest(), everything(with), everything(without));
        }
    }

    private static void behindBusy(Called x) {
        busy(x);
        x.come(1, 9);
    }

    @Sentence(at = "ERRORS", says = AHEAD)
    static void ifPassedChangesNothing() {
        changesNothing(Sentences::busy, x -> x.ifPassed(300, 0), 64);
        changesNothing(Sentences::busy, x -> x.ifPassed(1, 2), 1);
    }
}
