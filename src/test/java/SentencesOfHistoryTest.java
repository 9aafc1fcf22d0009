/** The sentences on the history and on errors: those of the terms, and the promises 12 to 14. */
public final class SentencesOfHistoryTest extends Sentences {
    private static final String HISTORY = "HISTORY";
    private static final String ERRORS = "ERRORS";
    private static final String UNDO = "Promise 12";
    private static final String KEEP = "Promise 13";
    private static final String RESTORE = "Promise 14";

    private static final String SEVERAL =
        "If several errors apply, the one that stands first in the @return line is returned.";
    private static final String NOTHING = "A method that returns an error or NONE changes nothing.";
    private static final String RECORDS =
        "Each call of a method that is described as a change, and that returns neither an error nor NONE, records the state before it";
    private static final String STATE = "The state is everything except the text, the history and the snapshot.";

    public static void main(String[] args) throws Exception {
        run(SentencesOfHistoryTest.class, args);
    }

    // ---- HISTORY

    @Sentence(at = HISTORY, says = "A history of at most 4 states is kept.")
    static void theHistoryHasAtMost4States() {
        Called x = palace();
        for (int call = 0; call < 7; call++) {
            due(x.total(16), Math.min(call, 4));
            x.pass(1);
        }
        for (int left = 3; left >= 0; left--) {
            due(x.undo(), left);
        }
        due(x.undo(), NONE);
        due(x.total(3), 3);
    }

    @Sentence(at = HISTORY, says = "if there are 4 already, the oldest one is dropped")
    static void theOldestStateIsDropped() {
        Called x = palace();
        for (int days = 1; days <= 6; days++) {
            x.pass(days);
        }
        int[] days = {15, 10, 6, 3};
        for (int call = 0; call < 4; call++) {
            x.undo();
            due(x.total(3), days[call]);
        }
        x = palace();
        for (int call = 0; call < 4; call++) {
            x.pass(9);
        }
        for (int call = 0; call < 4; call++) {
            x.undo();
        }
        due("four changes drop none", x.total(3), 0);
    }

    @Sentence(at = HISTORY, says = RECORDS)
    static void eachChangeRecordsTheStateBeforeIt() {
        Called x = palace();
        x.come(3, 9);
        due(x.total(16), 1);
        x.move(0);
        due(x.total(16), 2);
        x.undo();
        due("the state before the move", x.guest(0, 2), 0);
        x.stay(0, 2);
        x.lose(0);
        due(x.total(16), 3);
        x.leave(0);
        due(x.total(16), 4);
        x.undo();
        due("the state before the leaving", x.guest(0, 4), 1);
        due(x.hook(0), 1);
        x.undo();
        due("the state before the loss", x.guest(0, 4), 0);
        due(x.guest(0, 3), 11);
        x.undo();
        due("the state before the stay", x.guest(0, 3), 9);
    }

    @Sentence(at = HISTORY, says = "and that returns neither an error nor NONE, records")
    static void errorsAndNoneAreNotRecorded() {
        Called x = guests(40);
        due(x.come(0, 1), OUT_OF_RANGE);
        due(x.come(1, 1), REFUSED - 2);
        due(x.leave(1), UNKNOWN);
        due(x.move(1), UNKNOWN);
        due(x.move(0), NOT_POSSIBLE);
        due(x.stay(1, 1), UNKNOWN);
        due(x.stay(0, 0), OUT_OF_RANGE);
        due(x.lose(1), UNKNOWN);
        due(x.pass(0), OUT_OF_RANGE);
        due(x.set(3, 0), UNKNOWN);
        due(x.set(0, 2), OUT_OF_RANGE);
        due(x.set(0, 0), NONE);
        due(x.perform(), -100);
        due(x.performed("-1"), UNKNOWN);
        due(x.restore(), NONE);
        due(x.total(16), 1);
        x.lose(0);
        due(x.lose(0), NONE);
        due(x.total(16), 2);
    }

    @Sentence(at = HISTORY, says = "Each call of a method that is described as a change")
    static void whatIsNoChangeIsNotRecorded() {
        Called x = guests(1);
        x.write("1x1");
        x.clearText();
        x.keep();
        x.room(0, 0);
        x.guest(0, 0);
        x.hook(0);
        x.free(1, 0);
        x.greatest(0);
        x.why(1);
        x.ifCome(1);
        x.untilRoom(64);
        x.bestLeave();
        x.ifPassed(300, 2);
        due(x.total(16), 1);
        x.undo();
        due("the undoing itself", x.total(16), 0);
    }

    @Sentence(at = HISTORY, says = "There is one snapshot, empty at first.")
    static void thereIsNoSnapshotAtFirst() {
        Called x = guests(1);
        due(x.restore(), NONE);
        x.undo();
        due(x.restore(), NONE);
    }

    @Sentence(at = HISTORY, says = "There is one snapshot")
    static void thereIsOneSnapshotAlone() {
        Called x = palace();
        x.keep();
        x.pass(7);
        x.keep();
        x.pass(5);
        due(x.restore(), 7);
        due(x.restore(), 7);
        x.undo();
        x.undo();
        x.undo();
        due(x.total(3), 7);
        due(x.restore(), 7);
    }

    @Sentence(at = HISTORY, says = STATE)
    static void settingsDaysAndCountsAreOfTheState() {
        Called x = palace();
        x.keep();
        String first = state(x);
        x.performed("3x9,1x1,.2,-0,1x1,.");
        x.set(SIDE, 1);
        x.set(BROOM, 3);
        x.set(CUT, 9);
        x.restore();
        same("the state that is restored", state(x), first);
        due(x.undo(), 3);
        due(x.total(CUT), 9);
        x.undo();
        due(x.total(CUT), 2);
        x.undo();
        due(x.total(BROOM), 8);
        x.undo();
        due(x.total(SIDE), 0);
        due(x.total(10), 8);
    }

    @Sentence(at = HISTORY, says = STATE)
    static void theOrderOfTheDirtySuitesIsOfTheState() {
        Called x = guests(1, 1, 1);
        x.set(BROOM, 1);
        x.leave(2);
        x.leave(0);
        x.keep();
        x.pass(1);
        due(x.room(2, 2), 0);
        x.undo();
        x.leave(1);
        x.pass(2);
        due(x.room(0, 2), 0);
        due(x.room(1, 2), 2);
        x.restore();
        due(x.room(1, 2), 1);
        x.pass(1);
        due(x.room(2, 2), 0);
        due(x.room(0, 2), 2);
    }

    @Sentence(at = HISTORY, says = STATE)
    static void keysAndGuestsAreOfTheState() {
        Called x = guests(3, 5);
        x.lose(0);
        x.move(1);
        x.undo();
        due(x.guest(1, 5), 0);
        due(x.guest(1, 2), 8);
        x.leave(0);
        x.pass(1);
        due(x.hook(0), -11);
        x.undo();
        due(x.hook(0), -12);
        x.undo();
        due(x.hook(0), 1);
        due(x.guest(0, 4), 1);
        x.undo();
        due(x.guest(0, 4), 0);
        due(x.total(14), 0);
    }

    @Sentence(at = HISTORY, says = "everything except the text")
    static void theTextIsNotOfTheState() {
        Called x = palace();
        x.write("1x1");
        x.keep();
        x.pass(1);
        x.type('2');
        x.undo();
        due(x.total(17), 4);
        x.restore();
        due(x.total(17), 4);
        due(x.perform(), 1);
        due(x.guest(0, 3), 12);
    }

    @Sentence(at = HISTORY, says = "everything except the text, the history")
    static void theHistoryIsNotOfTheState() {
        Called x = palace();
        x.keep();
        x.pass(1);
        x.pass(2);
        x.pass(3);
        due(x.restore(), 0);
        due(x.total(16), 4);
        due(x.undo(), 3);
        due(x.total(3), 6);
        due(x.undo(), 2);
        due(x.total(3), 3);
    }

    @Sentence(at = HISTORY, says = "everything except the text, the history and the snapshot")
    static void theSnapshotIsNotOfTheState() {
        Called x = palace();
        x.pass(4);
        x.keep();
        x.undo();
        due(x.total(3), 0);
        due(x.restore(), 4);
        x.pass(5);
        x.keep();
        due(x.restore(), 9);
        x.undo();
        x.undo();
        due(x.total(3), 4);
        due(x.restore(), 9);
    }

    // ---- ERRORS: which one is returned

    @Sentence(at = ERRORS, says = "`UNKNOWN = -1`")
    static void unknownIsMinus1() {
        due("UNKNOWN", TwinSuites.UNKNOWN, -1);
    }

    @Sentence(at = ERRORS, says = "`OUT_OF_RANGE = -2`")
    static void outOfRangeIsMinus2() {
        due("OUT_OF_RANGE", TwinSuites.OUT_OF_RANGE, -2);
    }

    @Sentence(at = ERRORS, says = "`FULL = -3`")
    static void fullIsMinus3() {
        due("FULL", TwinSuites.FULL, -3);
    }

    @Sentence(at = ERRORS, says = "`NOT_POSSIBLE = -4`")
    static void notPossibleIsMinus4() {
        due("NOT_POSSIBLE", TwinSuites.NOT_POSSIBLE, -4);
    }

    @Sentence(at = ERRORS, says = "`NONE = -5`")
    static void noneIsMinus5() {
        due("NONE", TwinSuites.NONE, -5);
    }

    @Sentence(at = ERRORS, says = "`REFUSED = -10`: A guest is refused: this minus the reason is returned.")
    static void refusedIsMinus10() {
        due("REFUSED", TwinSuites.REFUSED, -10);
        due("reason 1", twelveGuests().come(1, 1), -11);
        due("reason 2", guests(64).come(1, 1), -12);
        due("reason 3", quarters().come(32, 1), -13);
    }

    @Sentence(at = ERRORS, says = SEVERAL)
    static void theFirstErrorOfCome() {
        due(guests(64).come(65, 1), OUT_OF_RANGE);
        due(guests(64).come(1, 0), OUT_OF_RANGE);
        due(twelveGuests().come(0, 31), OUT_OF_RANGE);
        due(quarters().come(32, 31), OUT_OF_RANGE);
    }

    @Sentence(at = ERRORS, says = SEVERAL)
    static void theFirstErrorOfStay() {
        due(palace().stay(0, 0), UNKNOWN);
        due(palace().stay(-1, 31), UNKNOWN);
        due(palace().stay(12, HIGH), UNKNOWN);
        Called x = guests(1);
        x.stay(0, 30);
        x.stay(0, 30);
        due(x.stay(0, 31), OUT_OF_RANGE);
        due(x.stay(0, 30), NOT_POSSIBLE);
    }

    @Sentence(at = ERRORS, says = SEVERAL)
    static void theFirstErrorOfPass() {
        Called x = lastDay();
        due(x.pass(51), OUT_OF_RANGE);
        due(x.pass(50), NOT_POSSIBLE);
    }

    @Sentence(at = ERRORS, says = SEVERAL)
    static void theFirstErrorOfSet() {
        due(palace().set(-1, -1), UNKNOWN);
        due(palace().set(3, 65), UNKNOWN);
        due(palace().set(2, 65), OUT_OF_RANGE);
    }

    @Sentence(at = ERRORS, says = SEVERAL)
    static void theFirstErrorOfPerform() {
        due(palace().performed("-0,-"), -104);
        due(palace().performed("-0,64x1,64x1"), UNKNOWN);
    }

    @Sentence(at = ERRORS, says = SEVERAL)
    static void theFirstErrorOfRoom() {
        due(palace().room(64, 6), UNKNOWN);
        due(palace().room(-1, -1), UNKNOWN);
        due(palace().room(63, 6), OUT_OF_RANGE);
    }

    @Sentence(at = ERRORS, says = SEVERAL)
    static void theFirstErrorOfGuest() {
        due(palace().guest(0, 6), UNKNOWN);
        due(palace().guest(12, -1), UNKNOWN);
        due(guests(1).guest(0, 6), OUT_OF_RANGE);
    }

    @Sentence(at = ERRORS, says = "NONE is not an error; it is returned only if no error applies.")
    static void noneOnlyWithoutAnError() {
        due("no error, no free suite of 32", palace().free(32, 1), NONE);
        due(palace().free(33, 1), OUT_OF_RANGE);
        due(palace().free(32, 2), OUT_OF_RANGE);
        due("no error, no room", guests(64).ifCome(1), NONE);
        due(guests(64).ifCome(65), OUT_OF_RANGE);
        due("no error, no twin", palace().room(0, 4), NONE);
        due(palace().room(64, 4), UNKNOWN);
        due("no error, no guest", palace().room(0, 3), NONE);
        due(palace().room(0, -1), OUT_OF_RANGE);
        Called x = guests(1);
        x.lose(0);
        due(x.lose(0), NONE);
        due(x.lose(1), UNKNOWN);
        due(x.set(0, 0), NONE);
        due(x.set(-1, 0), UNKNOWN);
    }

    @Sentence(at = ERRORS, says = "REFUSED minus a reason is an error.")
    static void refusedMinusAReasonIsAnError() {
        changesNothing(x -> x.come(64, 9), x -> x.come(1, 1), REFUSED - 2);
        changesNothing(x -> {
            x.come(33, 9);
            x.write(".,1x1,.");
        }, Called::perform, REFUSED - 2);
    }

    // ---- ERRORS: nothing changes

    @Sentence(at = ERRORS, says = NOTHING)
    static void comeWithAnErrorChangesNothing() {
        changesNothing(Sentences::busy, x -> x.come(0, 1), OUT_OF_RANGE);
        changesNothing(Sentences::busy, x -> x.come(65, 1), OUT_OF_RANGE);
        changesNothing(Sentences::busy, x -> x.come(1, 0), OUT_OF_RANGE);
        changesNothing(Sentences::busy, x -> x.come(1, 31), OUT_OF_RANGE);
        changesNothing(Sentences::busy, x -> x.come(17, 1), REFUSED - 2);
        changesNothing(x -> {
            for (int guest = 0; guest < 12; guest++) {
                x.come(2, 9);
            }
        }, x -> x.come(2, 1), REFUSED - 1);
        changesNothing(x -> x.performed("16x9,16x9,16x9,16x9,-0,-2,.4"), x -> x.come(17, 1), REFUSED - 3);
    }

    @Sentence(at = ERRORS, says = NOTHING)
    static void leaveWithAnErrorChangesNothing() {
        for (int guest : new int[] {-1, 0, 1, 3, 12}) {
            changesNothing(Sentences::busy, x -> x.leave(guest), UNKNOWN);
        }
    }

    @Sentence(at = ERRORS, says = NOTHING)
    static void moveWithAnErrorChangesNothing() {
        for (int guest : new int[] {-1, 0, 1, 3, 12}) {
            changesNothing(Sentences::busy, x -> x.move(guest), UNKNOWN);
        }
        changesNothing(Sentences::busy, x -> x.move(2), NOT_POSSIBLE);
        changesNothing(x -> x.performed("8x9,8x9,16x9,8x9,8x9,16x9,-0,-3,.4"), x -> x.move(2), NOT_POSSIBLE);
    }

    @Sentence(at = ERRORS, says = NOTHING)
    static void stayWithAnErrorChangesNothing() {
        changesNothing(Sentences::busy, x -> x.stay(0, 1), UNKNOWN);
        changesNothing(Sentences::busy, x -> x.stay(2, 0), OUT_OF_RANGE);
        changesNothing(Sentences::busy, x -> x.stay(2, 31), OUT_OF_RANGE);
        changesNothing(x -> {
            x.come(1, 30);
            x.stay(0, 30);
            x.stay(0, 30);
        }, x -> x.stay(0, 10), NOT_POSSIBLE);
    }

    @Sentence(at = ERRORS, says = NOTHING)
    static void loseWithAnErrorOrNoneChangesNothing() {
        changesNothing(Sentences::busy, x -> x.lose(1), UNKNOWN);
        changesNothing(x -> {
            busy(x);
            x.lose(2);
        }, x -> x.lose(2), NONE);
    }

    @Sentence(at = ERRORS, says = NOTHING)
    static void passWithAnErrorChangesNothing() {
        changesNothing(Sentences::busy, x -> x.pass(0), OUT_OF_RANGE);
        changesNothing(Sentences::busy, x -> x.pass(51), OUT_OF_RANGE);
        Called x = lastDay();
        x.come(1, 9);
        due(x.pass(1), NOT_POSSIBLE);
        due(x.pass(50), NOT_POSSIBLE);
        due(x.total(3), 9999);
        due(x.guest(0, 3), 9);
    }

    @Sentence(at = ERRORS, says = NOTHING)
    static void setWithAnErrorOrNoneChangesNothing() {
        changesNothing(Sentences::busy, x -> x.set(3, 1), UNKNOWN);
        changesNothing(Sentences::busy, x -> x.set(SIDE, 2), OUT_OF_RANGE);
        changesNothing(Sentences::busy, x -> x.set(BROOM, 0), OUT_OF_RANGE);
        changesNothing(Sentences::busy, x -> x.set(CUT, 10), OUT_OF_RANGE);
        changesNothing(Sentences::busy, x -> x.set(BROOM, 3), NONE);
    }

    @Sentence(at = ERRORS, says = NOTHING)
    static void undoAndRestoreWithNoneChangeNothing() {
        changesNothing(x -> x.write("1x1"), Called::undo, NONE);
        changesNothing(x -> {
            x.come(3, 9);
            x.lose(0);
            x.write("1x1");
        }, Called::restore, NONE);
    }

    @Sentence(at = ERRORS, says = NOTHING)
    static void questionsWithAnErrorOrNoneChangeNothing() {
        changesNothing(Sentences::busy, x -> x.room(64, 0), UNKNOWN);
        changesNothing(Sentences::busy, x -> x.guest(0, 0), UNKNOWN);
        changesNothing(Sentences::busy, x -> x.hook(12), UNKNOWN);
        changesNothing(Sentences::busy, x -> x.free(1, 2), OUT_OF_RANGE);
        changesNothing(Sentences::busy, x -> x.greatest(2), OUT_OF_RANGE);
        changesNothing(Sentences::busy, x -> x.total(18), OUT_OF_RANGE);
        changesNothing(Sentences::busy, x -> x.why(0), OUT_OF_RANGE);
        changesNothing(Sentences::busy, x -> x.ifCome(64), NONE);
        changesNothing(Sentences::busy, x -> x.untilRoom(65), OUT_OF_RANGE);
        changesNothing(Sentences::busy, x -> x.ifPassed(0, 0), OUT_OF_RANGE);
    }

    /** What orders did before one of them was not possible must be gone when the next change is made. */
    @Sentence(at = ERRORS, says = NOTHING)
    static void changesBehindAnErrorRestOnTheStateAlone() {
        Called x = guests(3);
        due(x.performed("16x1,.,-0,-0"), UNKNOWN);
        due(x.come(2, 9), 1);
        due(x.performed("16x1,.,-0,-0"), UNKNOWN);
        due(x.move(0), 8);
        due(x.performed("16x1,-1,-1"), UNKNOWN);
        due(x.lose(0), 1);
        due(x.performed("-0,-0"), UNKNOWN);
        due(x.stay(0, 1), 31);
        due(x.performed("-0,-0"), UNKNOWN);
        due(x.set(CUT, 0), 2);
        due(x.performed("-0,-0"), UNKNOWN);
        due(x.pass(1), 58);
        due(x.performed("-0,-0"), UNKNOWN);
        due(x.leave(0), 4);
        due(x.total(4), 1);
        due(x.total(12), 2);
        due(x.total(3), 1);
    }

    // ---- Promise 12

    @Sentence(at = UNDO, says = "Restores the latest state of the history, and removes it from there.")
    static void undoRestoresTheLatestState() {
        Called x = palace();
        x.pass(1);
        x.pass(2);
        x.pass(3);
        x.undo();
        due(x.total(3), 3);
        due(x.total(16), 2);
        x.pass(4);
        due(x.total(16), 3);
        x.undo();
        due(x.total(3), 3);
        x.undo();
        due(x.total(3), 1);
    }

    @Sentence(at = UNDO, says = "Returns how many states are left")
    static void undoReturnsHowManyStatesAreLeft() {
        Called x = palace();
        for (int call = 0; call < 4; call++) {
            x.pass(1);
        }
        due(x.undo(), 3);
        due(x.undo(), 2);
        due(x.undo(), 1);
        due(x.undo(), 0);
    }

    @Sentence(at = UNDO, says = "NONE if the history is empty")
    static void undoOfAnEmptyHistoryIsNone() {
        Called x = palace();
        due(x.undo(), NONE);
        x.pass(1);
        due(x.undo(), 0);
        due(x.undo(), NONE);
        due(x.undo(), NONE);
        due(x.total(3), 0);
        x.keep();
        due(x.undo(), NONE);
    }

    // ---- Promise 13

    @Sentence(at = KEEP, says = "Takes a snapshot of the state, in place of an earlier one.")
    static void theSnapshotIsInPlaceOfAnEarlierOne() {
        Called x = guests(3);
        x.keep();
        x.leave(0);
        x.pass(1);
        x.keep();
        x.come(9, 9);
        x.restore();
        due(x.total(4), 0);
        due(x.total(3), 1);
        due(x.total(5), 64);
    }

    @Sentence(at = KEEP, says = "Takes a snapshot of the state")
    static void theSnapshotDoesNotChangeWithTheState() {
        Called x = palace();
        busy(x);
        x.keep();
        String kept = state(x);
        x.come(1, 1);
        x.lose(2);
        x.set(CUT, 9);
        x.pass(50);
        x.restore();
        same("the state that was kept", state(x), kept);
    }

    @Sentence(at = KEEP, says = "Returns the days so far.")
    static void keepReturnsTheDaysSoFar() {
        Called x = palace();
        due(x.keep(), 0);
        x.pass(50);
        due(x.keep(), 50);
        x.undo();
        due(x.keep(), 0);
        due(lastDay().keep(), 9999);
    }

    // ---- Promise 14

    @Sentence(at = RESTORE, says = "Restores the state of the snapshot, which stays.")
    static void theSnapshotStays() {
        Called x = guests(3);
        x.keep();
        String kept = state(x);
        for (int call = 0; call < 3; call++) {
            x.move(0);
            x.pass(9);
            due(x.restore(), 0);
        }
        same("the state that was kept", state(x), kept);
    }

    @Sentence(at = RESTORE, says = "This is a change.")
    static void restoreIsAChange() {
        isAChange(x -> {
            x.come(3, 9);
            x.keep();
            x.lose(0);
            x.leave(0);
        }, Called::restore, 0);
        isAChange(Called::keep, Called::restore, 0);
    }

    @Sentence(at = RESTORE, says = "Returns the days so far then")
    static void restoreReturnsTheDaysThen() {
        Called x = palace();
        x.keep();
        x.pass(9);
        due(x.restore(), 0);
        x.pass(3);
        x.keep();
        x.pass(9);
        due(x.restore(), 3);
        due(x.total(3), 3);
    }

    @Sentence(at = RESTORE, says = "NONE if there is no snapshot")
    static void restoreWithoutASnapshotIsNone() {
        Called x = guests(1);
        due(x.restore(), NONE);
        due(x.total(4), 1);
        due(x.total(16), 1);
        x.keep();
        due(x.restore(), 0);
    }
}
