/** The sentences of the terms on a day and on the settings. */
public final class SentencesOfDaysTest extends Sentences {
    private static final String DAY = "A DAY";
    private static final String SETTINGS = "SETTINGS";

    public static void main(String[] args) throws Exception {
        run(SentencesOfDaysTest.class, args);
    }

    // ---- A DAY: the guests

    @Sentence(at = DAY, says = "Days are counted from 0.")
    static void theFirstDayIs0() {
        Called x = palace();
        due(x.total(3), 0);
        due(x.keep(), 0);
        x.pass(1);
        due(x.total(3), 1);
        due(x.keep(), 1);
    }

    @Sentence(at = DAY, says = "Each guest, by rising numbers, has one day less to stay")
    static void eachGuestHasOneDayLess() {
        Called x = palace();
        x.come(1, 30);
        x.come(1, 2);
        x.come(1, 3);
        x.pass(1);
        due(x.guest(0, 3), 29);
        due(x.guest(1, 3), 1);
        due(x.guest(2, 3), 2);
    }

    @Sentence(at = DAY, says = "who has none left leaves")
    static void whoHasNoDayLeftLeaves() {
        for (int days : new int[] {1, 2, 30}) {
            Called x = palace();
            x.come(1, days);
            for (int day = 1; day < days; day++) {
                x.pass(1);
                due(x.guest(0, 3), days - day);
            }
            due(x.total(4), 1);
            x.pass(1);
            due(x.total(4), 0);
            due(x.guest(0, 3), UNKNOWN);
            due(x.hook(0), 0);
        }
    }

    @Sentence(at = DAY, says = "Each guest, by rising numbers")
    static void whoLeavesTheSameDayLeavesByNumber() {
        Called x = palace();
        x.set(BROOM, 1);
        x.come(1, 2);
        x.come(1, 2);
        x.come(1, 2);
        due(x.move(0), 3);
        x.pass(1);
        due("the room that guest 0 had", x.room(0, 2), 0);
        x.pass(1);
        due(x.total(4), 0);
        due(x.room(3, 2), 0);
        due(x.room(1, 2), 2);
        x.pass(1);
        due(x.room(1, 2), 0);
        due(x.room(2, 2), 2);
    }

    @Sentence(at = DAY, says = "(Keys that are lost by them are cut from the next day on.)")
    static void keysOfWhoLeavesAreCutFromTheNextDayOn() {
        for (int cut = 1; cut <= 9; cut++) {
            Called x = palace();
            x.set(CUT, cut);
            x.come(1, 1);
            x.lose(0);
            x.pass(1);
            due(x.hook(0), -10 - cut);
            x.pass(1);
            due(x.hook(0), cut == 1 ? 0 : -9 - cut);
        }
    }

    @Sentence(at = DAY, says = "who has none left leaves. (Keys that are lost by them")
    static void withCut0TheKeyOfWhoLeavesIsThereThatDay() {
        Called x = palace();
        x.set(CUT, 0);
        x.come(1, 1);
        x.lose(0);
        x.pass(1);
        due(x.hook(0), 0);
        due(x.total(15), 0);
    }

    // ---- A DAY: the janitor

    @Sentence(at = DAY, says = "The janitor cleans BROOM rooms")
    static void theJanitorCleansJustBroomRooms() {
        for (int broom : new int[] {1, 2, 8, 63, 64}) {
            Called x = guests(64);
            x.set(BROOM, broom);
            x.leave(0);
            x.pass(1);
            due(x.total(13), broom);
            due(x.total(5), broom == 64 ? 64 : 0);
        }
    }

    @Sentence(at = DAY, says = "The janitor cleans BROOM rooms")
    static void whatTheJanitorDoesNotNeedIsNotKeptForLater() {
        Called x = guests(4, 16);
        x.leave(0);
        due(x.pass(1), 48);
        due(x.total(13), 4);
        x.leave(1);
        due(x.pass(1), 48);
        due(x.total(13), 12);
        due(x.pass(1), 64);
        due(x.total(13), 20);
        x.pass(1);
        due(x.total(13), 20);
    }

    @Sentence(at = DAY, says = "The janitor cleans BROOM rooms, those of the dirty suites")
    static void theJanitorGoesOnWithTheNextSuite() {
        Called x = guests(4, 2, 4);
        x.leave(0);
        x.leave(1);
        x.leave(2);
        due(x.pass(1), 60);
        due(x.total(13), 8);
        due(x.room(0, 2), 0);
        due(x.room(4, 2), 0);
        due(x.room(8, 2), 2);
        due(x.pass(1), 64);
        due(x.total(13), 10);
    }

    @Sentence(at = DAY, says = "in the order in which they became dirty")
    static void theJanitorCleansInTheOrderOfBecomingDirty() {
        Called x = palace();
        x.set(BROOM, 1);
        x.come(1, 1);
        x.come(1, 30);
        x.come(1, 30);
        x.leave(2);
        x.move(1);
        x.pass(1);
        due("first who left", x.room(2, 2), 0);
        due(x.room(1, 2), 2);
        due(x.room(0, 2), 2);
        x.pass(1);
        due("then who was moved", x.room(1, 2), 0);
        due(x.room(0, 2), 2);
        x.pass(1);
        due("then who left in the day", x.room(0, 2), 0);
    }

    @Sentence(at = DAY, says = "a suite is free as soon as all its rooms are clean")
    static void aSuiteIsFreeWithItsLastCleanRoom() {
        for (int broom = 7; broom <= 8; broom++) {
            Called x = guests(8);
            x.set(BROOM, broom);
            x.leave(0);
            due(x.total(5), 56);
            due(x.pass(1), broom == 8 ? 64 : 56);
            due(x.total(7), broom == 8 ? 0 : 8);
            due(x.pass(1), 64);
            due(x.total(7), 0);
        }
    }

    @Sentence(at = DAY, says = "The janitor cleans BROOM rooms, those of the dirty suites")
    static void all64RoomsCanBeDirtySuitesOfOneRoom() {
        for (int broom : new int[] {63, 64}) {
            Called x = palace();
            x.set(BROOM, broom);
            for (int room = 0; room < 64; room++) {
                due(x.come(1, 30), 0);
                due(x.leave(0), 1);
                due(x.room(room, 2), 2);
            }
            due(x.come(1, 30), REFUSED - 2);
            due(x.total(7), 64);
            due(x.total(9), 64);
            due(x.pass(1), broom);
            due(x.room(63, 2), broom == 64 ? 0 : 2);
            due(x.pass(1), 64);
            due(x.total(9), 1);
            due(x.total(11), 63);
        }
    }

    @Sentence(at = DAY, says = "a suite is free as soon as all its rooms are clean")
    static void withBroom1ASuiteOf64Takes64Days() {
        Called x = guests(64);
        x.set(BROOM, 1);
        x.leave(0);
        x.pass(50);
        due(x.pass(13), 0);
        due(x.total(7), 64);
        due(x.total(13), 63);
        due(x.pass(1), 64);
    }

    @Sentence(at = DAY, says = "Rooms that were cleaned of a suite that is not done are remembered.")
    static void roomsThatWereCleanedAreRemembered() {
        Called x = guests(4, 4);
        x.set(BROOM, 3);
        x.leave(0);
        due(x.pass(1), 56);
        x.set(BROOM, 1);
        due(x.pass(1), 60);
        x.leave(1);
        due("the next suite begins anew", x.pass(1), 60);
        due(x.pass(2), 60);
        due(x.pass(1), 64);
    }

    @Sentence(at = DAY, says = "Rooms that were cleaned of a suite that is not done are remembered.")
    static void roomsThatWereCleanedAreOfTheState() {
        Called x = guests(4);
        x.set(BROOM, 3);
        x.leave(0);
        x.pass(1);
        x.keep();
        due(x.pass(1), 64);
        due(x.undo(), 3);
        due(x.pass(1), 64);
        due(x.restore(), 1);
        due(x.total(5), 60);
        due(x.pass(1), 64);
    }

    @Sentence(at = DAY, says = "In a day:")
    static void whoLeavesInADayIsCleanedForOnTheSameDay() {
        Called x = palace();
        x.come(8, 1);
        due(x.pass(1), 64);
        x = palace();
        x.come(16, 1);
        due(x.pass(1), 48);
        due(x.total(13), 8);
    }

    // ---- A DAY: the keys

    @Sentence(at = DAY, says = "Each key that was being cut when the day began has one day less; at 0 it is on its hook.")
    static void eachKeyThatIsCutHasOneDayLess() {
        Called x = guests(1, 1, 1);
        x.lose(0);
        x.lose(2);
        x.leave(0);
        x.set(CUT, 3);
        x.leave(2);
        due(x.hook(0), -12);
        due(x.hook(2), -13);
        x.pass(1);
        due(x.hook(0), -11);
        due(x.hook(2), -12);
        x.pass(1);
        due(x.hook(0), 0);
        due(x.hook(2), -11);
        due(x.hook(1), 2);
        x.pass(1);
        due(x.hook(2), 0);
    }

    @Sentence(at = DAY, says = "Each key that was being cut when the day began has one day less")
    static void cutDoesNotChangeAKeyThatIsCutAlready() {
        Called x = guests(1);
        x.lose(0);
        x.leave(0);
        x.set(CUT, 9);
        due(x.hook(0), -12);
        x.set(CUT, 0);
        due(x.hook(0), -12);
        x.pass(1);
        due(x.hook(0), -11);
    }

    @Sentence(at = DAY, says = "In a day:")
    static void manyDaysAreAsManyTimesOneDay() {
        Called many = palace();
        busy(many);
        Called one = palace();
        busy(one);
        many.pass(5);
        for (int day = 0; day < 5; day++) {
            one.pass(1);
        }
        same("five days", state(many), state(one));
    }

    // ---- SETTINGS

    private static void range(int setting, int least, int most, int first) {
        Called x = palace();
        due(x.total(setting), first);
        int value = first;
        for (int next = least; next <= most; next++) {
            due(x.set(setting, next), next == value ? NONE : value);
            value = next;
            due(x.total(setting), next);
        }
        due(x.set(setting, least - 1), OUT_OF_RANGE);
        due(x.set(setting, most + 1), OUT_OF_RANGE);
        due(x.set(setting, LOW), OUT_OF_RANGE);
        due(x.set(setting, HIGH), OUT_OF_RANGE);
        due(x.total(setting), most);
    }

    @Sentence(at = SETTINGS, says = "0 SIDE (0 or 1; 0)")
    static void sideIs0Or1AndFirst0() {
        range(SIDE, 0, 1, 0);
    }

    @Sentence(at = SETTINGS, says = "1 BROOM (1 to 64; 8)")
    static void broomIs1To64AndFirst8() {
        range(BROOM, 1, 64, 8);
    }

    @Sentence(at = SETTINGS, says = "2 CUT (0 to 9; 2)")
    static void cutIs0To9AndFirst2() {
        range(CUT, 0, 9, 2);
    }

    @Sentence(at = SETTINGS, says = "(Range; first value.)")
    static void theFirstValuesAreInForce() {
        Called x = guests(16, 1);
        due("SIDE 0", x.guest(0, 2), 0);
        x.leave(0);
        x.pass(1);
        due("BROOM 8", x.total(13), 8);
        x.lose(1);
        x.leave(1);
        due("CUT 2", x.hook(1), -12);
    }
}
