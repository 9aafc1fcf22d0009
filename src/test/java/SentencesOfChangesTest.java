/** The sentences of the promises 1 to 8: a new object, and the changes but for those of texts and history. */
public final class SentencesOfChangesTest extends Sentences {
    private static final String NEW = "Promise 1";
    private static final String COME = "Promise 2";
    private static final String LEAVE = "Promise 3";
    private static final String MOVE = "Promise 4";
    private static final String STAY = "Promise 5";
    private static final String LOSE = "Promise 6";
    private static final String PASS = "Promise 7";
    private static final String SET = "Promise 8";

    public static void main(String[] args) throws Exception {
        run(SentencesOfChangesTest.class, args);
    }

    @Sentence(at = "What it is", says = "An object is used for at most 512 calls after it has been made")
    static void all512CallsAreAnswered() {
        Called x = palace();
        for (int round = 0; round < 127; round++) {
            due(x.come(64, 30), 0);
            due(x.lose(0), 1);
            due(x.leave(0), 64);
            due(x.pass(8), 64);
        }
        due(x.total(14), 127);
        due(x.total(13), 127 * 64);
        due(x.total(3), 127 * 8);
        due(x.total(12), 127);
    }

    // ---- Promise 1

    @Sentence(at = NEW, says = "Creates a palace without guests, on the day 0.")
    static void aNewPalaceHasNoGuests() {
        Called x = palace();
        due(x.total(4), 0);
        due(x.total(6), 0);
        due(x.total(7), 0);
        for (int hook = 0; hook < 12; hook++) {
            due(x.guest(hook, 0), UNKNOWN);
        }
        for (int what = 8; what < 18; what++) {
            due(x.total(what), what == 9 ? 1 : 0);
        }
    }

    @Sentence(at = NEW, says = "on the day 0")
    static void aNewPalaceIsOnTheDay0() {
        due(palace().total(3), 0);
    }

    @Sentence(at = NEW, says = "Creates a palace")
    static void eachObjectIsAPalaceOfItsOwn() {
        Called x = palace();
        Called other = palace();
        busy(x);
        same("the other palace", everything(other), everything(palace()));
    }

    // ---- Promise 2

    @Sentence(at = COME, says = "`rooms`: 1 to 64")
    static void comeFor1To64Rooms() {
        for (int rooms = 1; rooms <= 64; rooms++) {
            due(palace().come(rooms, 1), 0);
        }
        for (int rooms : new int[] {LOW, -64, -1, 0, 65, 128, HIGH}) {
            due(palace().come(rooms, 1), OUT_OF_RANGE);
        }
    }

    @Sentence(at = COME, says = "`days`: 1 to 30")
    static void comeFor1To30Days() {
        for (int days = 1; days <= 30; days++) {
            due(palace().come(1, days), 0);
        }
        for (int days : new int[] {LOW, -30, -1, 0, 31, 64, HIGH}) {
            due(palace().come(1, days), OUT_OF_RANGE);
        }
    }

    @Sentence(at = COME, says = "Returns the number of the guest")
    static void comeReturnsTheNumber() {
        Called x = palace();
        for (int guest = 0; guest < 12; guest++) {
            due(x.come(1, 30), guest);
        }
        x.leave(9);
        due(x.come(1, 30), 9);
    }

    @Sentence(at = COME, says = "Returns the number of the guest; OUT_OF_RANGE; REFUSED minus the reason.")
    static void comeReturnsRefusedMinusTheReason() {
        due("reason 1", twelveGuests().come(1, 1), -11);
        due("reason 2", guests(64).come(1, 1), -12);
        due("reason 3", quarters().come(32, 1), -13);
    }

    @Sentence(at = COME, says = "OUT_OF_RANGE; REFUSED minus the reason.")
    static void comeOutOfRangeGoesAheadOfRefused() {
        Called x = twelveGuests();
        due(x.come(0, 1), OUT_OF_RANGE);
        due(x.come(65, 1), OUT_OF_RANGE);
        due(x.come(1, 0), OUT_OF_RANGE);
        due(x.come(1, 31), OUT_OF_RANGE);
        due(guests(64).come(1, 31), OUT_OF_RANGE);
        due(quarters().come(32, 0), OUT_OF_RANGE);
    }

    @Sentence(at = COME, says = "This is a change.")
    static void comeIsAChange() {
        isAChange(x -> x.come(3, 9), x -> x.come(20, 30), 1);
    }

    // ---- Promise 3

    @Sentence(at = LEAVE, says = "`guest`: 0 to 11")
    static void leaveOfTheGuests0To11() {
        Called x = twelveGuests();
        for (int guest : new int[] {LOW, -1, 12, HIGH}) {
            due(x.leave(guest), UNKNOWN);
        }
        for (int guest = 11; guest >= 0; guest--) {
            due(x.leave(guest), 1);
        }
        due(x.total(4), 0);
    }

    @Sentence(at = LEAVE, says = "Returns the rooms of the suite")
    static void leaveReturnsTheRoomsOfTheSuite() {
        int[] wanted = {1, 2, 3, 5, 9, 17, 33};
        for (int power = 0; power < 7; power++) {
            due(guests(wanted[power]).leave(0), SIZES[power]);
            due(guests(SIZES[power]).leave(0), SIZES[power]);
        }
    }

    @Sentence(at = LEAVE, says = "UNKNOWN.")
    static void leaveOfNobodyIsUnknown() {
        Called x = guests(1, 1);
        due(x.leave(2), UNKNOWN);
        due(x.leave(0), 1);
        due(x.leave(0), UNKNOWN);
        x.lose(1);
        due(x.leave(1), 1);
        due(x.leave(1), UNKNOWN);
    }

    @Sentence(at = LEAVE, says = "This is a change.")
    static void leaveIsAChange() {
        isAChange(x -> {
            x.come(3, 9);
            x.lose(0);
        }, x -> x.leave(0), 4);
    }

    // ---- Promise 4

    @Sentence(at = MOVE, says = "`guest`: 0 to 11")
    static void moveOfTheGuests0To11() {
        Called x = twelveGuests();
        for (int guest : new int[] {LOW, -1, 12, HIGH}) {
            due(x.move(guest), UNKNOWN);
        }
        for (int guest = 0; guest < 12; guest++) {
            due(x.move(guest), 12 + guest);
        }
    }

    @Sentence(at = MOVE, says = "Returns the lowest room of the new suite")
    static void moveReturnsTheLowestRoomOfTheNewSuite() {
        Called x = gone(guests(9, 5, 2, 1), 0);
        due(x.move(1), 0);
        due(x.move(2), 28);
        due(x.move(3), 27);
        due(x.guest(3, 2), 27);
        x.set(SIDE, 1);
        due(x.move(1), 8);
        due(x.move(1), 56);
        due(x.guest(1, 2), 56);
    }

    @Sentence(at = MOVE, says = "UNKNOWN; NOT_POSSIBLE.")
    static void moveOfNobodyIsUnknown() {
        Called x = guests(64);
        due(x.move(1), UNKNOWN);
        due(x.move(0), NOT_POSSIBLE);
        x.leave(0);
        due(x.move(0), UNKNOWN);
    }

    @Sentence(at = MOVE, says = "This is a change.")
    static void moveIsAChange() {
        isAChange(x -> {
            x.come(3, 9);
            x.come(1, 9);
            x.leave(1);
        }, x -> x.move(0), 8);
    }

    // ---- Promise 5

    @Sentence(at = STAY, says = "`guest`: 0 to 11")
    static void stayOfTheGuests0To11() {
        Called x = twelveGuests();
        for (int guest = 0; guest < 12; guest++) {
            due(x.stay(guest, 1 + guest), 31 + guest);
        }
        for (int guest : new int[] {LOW, -1, 12, HIGH}) {
            due(x.stay(guest, 1), UNKNOWN);
        }
    }

    @Sentence(at = STAY, says = "`days`: 1 to 30")
    static void stayFor1To30DaysMore() {
        for (int days = 1; days <= 30; days++) {
            due(guests(1).stay(0, days), 30 + days);
        }
        for (int days : new int[] {LOW, -1, 0, 31, 99, HIGH}) {
            due(guests(1).stay(0, days), OUT_OF_RANGE);
        }
    }

    @Sentence(at = STAY, says = "Returns for how many days the guest stays still")
    static void stayReturnsTheDaysStill() {
        Called x = palace();
        x.come(1, 1);
        due(x.stay(0, 1), 2);
        x.pass(1);
        due(x.stay(0, 5), 6);
        due(x.guest(0, 3), 6);
        x.pass(5);
        due(x.total(4), 1);
        x.pass(1);
        due(x.total(4), 0);
    }

    @Sentence(at = STAY, says = "NOT_POSSIBLE if it would be more than 99")
    static void stayOf99DaysButNotOf100() {
        Called x = guests(1);
        x.stay(0, 30);
        x.stay(0, 30);
        due(x.stay(0, 10), NOT_POSSIBLE);
        due(x.guest(0, 3), 90);
        due(x.stay(0, 9), 99);
        due(x.stay(0, 1), NOT_POSSIBLE);
        due(x.stay(0, 30), NOT_POSSIBLE);
        x.pass(1);
        due(x.stay(0, 1), 99);
    }

    @Sentence(at = STAY, says = "UNKNOWN; OUT_OF_RANGE; NOT_POSSIBLE")
    static void stayTheFirstOfSeveralErrors() {
        Called x = guests(1);
        due(x.stay(1, 0), UNKNOWN);
        due(x.stay(12, 31), UNKNOWN);
        x.stay(0, 30);
        x.stay(0, 30);
        x.stay(0, 9);
        due(x.stay(0, 31), OUT_OF_RANGE);
        due(x.stay(0, HIGH), OUT_OF_RANGE);
        due(x.stay(0, 0), OUT_OF_RANGE);
        x.leave(0);
        due(x.stay(0, 31), UNKNOWN);
    }

    @Sentence(at = STAY, says = "This is a change.")
    static void stayIsAChange() {
        isAChange(x -> x.come(3, 9), x -> x.stay(0, 30), 39);
    }

    // ---- Promise 6

    @Sentence(at = LOSE, says = "`guest`: 0 to 11")
    static void loseOfTheGuests0To11() {
        Called x = twelveGuests();
        for (int guest : new int[] {LOW, -1, 12, HIGH}) {
            due(x.lose(guest), UNKNOWN);
        }
        for (int guest = 11; guest >= 0; guest--) {
            due(x.lose(guest), 12 - guest);
        }
    }

    @Sentence(at = LOSE, says = "Returns how many guests have lost theirs then")
    static void loseReturnsHowManyGuestsHaveLostTheirs() {
        Called x = guests(1, 1, 1);
        due(x.lose(2), 1);
        due(x.lose(0), 2);
        x.leave(2);
        due("who has left does not count", x.lose(1), 2);
        due(x.total(14), 3);
    }

    @Sentence(at = LOSE, says = "UNKNOWN; NONE if this one has already.")
    static void loseTwiceIsNone() {
        Called x = guests(1, 1);
        due(x.lose(0), 1);
        due(x.lose(0), NONE);
        x.move(0);
        due(x.lose(0), NONE);
        due(x.lose(1), 2);
        due(x.total(14), 2);
    }

    @Sentence(at = LOSE, says = "UNKNOWN")
    static void loseOfNobodyIsUnknown() {
        Called x = guests(1);
        due(x.lose(1), UNKNOWN);
        x.lose(0);
        x.leave(0);
        due(x.lose(0), UNKNOWN);
        x.pass(2);
        due(x.come(1, 1), 0);
        due("the next guest has the new key", x.lose(0), 1);
    }

    @Sentence(at = LOSE, says = "This is a change.")
    static void loseIsAChange() {
        isAChange(x -> x.come(3, 9), x -> x.lose(0), 1);
    }

    // ---- Promise 7

    @Sentence(at = PASS, says = "`days`: 1 to 50")
    static void passOf1To50Days() {
        for (int days = 1; days <= 50; days++) {
            Called x = palace();
            due(x.pass(days), 64);
            due(x.total(3), days);
        }
        for (int days : new int[] {LOW, -50, -1, 0, 51, 300, HIGH}) {
            due(palace().pass(days), OUT_OF_RANGE);
        }
    }

    @Sentence(at = PASS, says = "Returns how many rooms are free then")
    static void passReturnsTheFreeRooms() {
        Called x = palace();
        x.come(33, 9);
        due(x.pass(1), 0);
        due(x.pass(8), 0);
        due(x.pass(6), 0);
        due(x.pass(1), 64);
        x.come(3, 9);
        due(x.pass(1), 60);
    }

    @Sentence(at = PASS, says = "NOT_POSSIBLE if there would be more than 9999 days")
    static void passTo9999DaysButNotTo10000() {
        Called x = lastDay();
        due(x.total(3), 9999);
        due(x.pass(1), NOT_POSSIBLE);
        due(x.pass(50), NOT_POSSIBLE);
        x.undo();
        due(x.total(3), 9950);
        due(x.pass(50), NOT_POSSIBLE);
        due(x.total(3), 9950);
        due(x.pass(49), 64);
    }

    @Sentence(at = PASS, says = "OUT_OF_RANGE; NOT_POSSIBLE")
    static void passOutOfRangeGoesAheadOfNotPossible() {
        Called x = lastDay();
        due(x.pass(51), OUT_OF_RANGE);
        due(x.pass(HIGH), OUT_OF_RANGE);
        due(x.pass(0), OUT_OF_RANGE);
        due(x.pass(LOW), OUT_OF_RANGE);
        due(x.pass(1), NOT_POSSIBLE);
    }

    @Sentence(at = PASS, says = "This is a change.")
    static void passIsAChange() {
        isAChange(x -> {
            x.come(12, 2);
            x.lose(0);
        }, x -> x.pass(2), 48);
    }

    // ---- Promise 8

    @Sentence(at = SET, says = "`setting`: 0 to 2")
    static void setOfTheSettings0To2() {
        Called x = palace();
        due(x.set(0, 1), 0);
        due(x.set(1, 1), 8);
        due(x.set(2, 1), 2);
        for (int setting : new int[] {LOW, -1, 3, HIGH}) {
            due(x.set(setting, 1), UNKNOWN);
        }
    }

    @Sentence(at = SET, says = "`value`: in its range")
    static void setOfAValueInItsRange() {
        Called x = palace();
        due(x.set(SIDE, -1), OUT_OF_RANGE);
        due(x.set(SIDE, 2), OUT_OF_RANGE);
        due(x.set(BROOM, 0), OUT_OF_RANGE);
        due(x.set(BROOM, 65), OUT_OF_RANGE);
        due(x.set(CUT, -1), OUT_OF_RANGE);
        due(x.set(CUT, 10), OUT_OF_RANGE);
        due(x.set(BROOM, 64), 8);
        due(x.set(BROOM, 1), 64);
        due(x.set(CUT, 0), 2);
        due(x.set(CUT, 9), 0);
    }

    @Sentence(at = SET, says = "Returns the previous value; UNKNOWN; OUT_OF_RANGE")
    static void setUnknownGoesAheadOfOutOfRange() {
        for (int setting : new int[] {LOW, -1, 3, HIGH}) {
            for (int value : new int[] {LOW, -1, 65, HIGH}) {
                due(palace().set(setting, value), UNKNOWN);
            }
        }
    }

    @Sentence(at = SET, says = "Returns the previous value")
    static void setReturnsThePreviousValue() {
        Called x = palace();
        due(x.set(BROOM, 9), 8);
        due(x.set(BROOM, 8), 9);
        due(x.set(SIDE, 1), 0);
        due(x.set(SIDE, 0), 1);
        due(x.set(CUT, 7), 2);
        due(x.set(CUT, 3), 7);
    }

    @Sentence(at = SET, says = "NONE if it has this value already")
    static void setToTheSameValueIsNone() {
        Called x = palace();
        due(x.set(SIDE, 0), NONE);
        due(x.set(BROOM, 8), NONE);
        due(x.set(CUT, 2), NONE);
        x.set(CUT, 9);
        due(x.set(CUT, 9), NONE);
        due(x.set(CUT, 2), 9);
    }

    @Sentence(at = SET, says = "This is a change.")
    static void setIsAChange() {
        isAChange(x -> x.come(3, 9), x -> x.set(SIDE, 1), 0);
        isAChange(x -> x.come(3, 9), x -> x.set(BROOM, 64), 8);
        isAChange(x -> x.come(3, 9), x -> x.set(CUT, 0), 2);
    }
}
