/** The sentences of the terms on rooms, suites, guests and keys. */
public final class SentencesOfRoomsTest extends Sentences {
    private static final String ROOMS = "ROOMS, SUITES";
    private static final String GUESTS = "GUESTS, KEYS";

    public static void main(String[] args) throws Exception {
        run(SentencesOfRoomsTest.class, args);
    }

    // ---- ROOMS, SUITES

    @Sentence(at = ROOMS, says = "The palace has 64 rooms, 0 to 63.")
    static void theRoomsAre0To63() {
        Called x = palace();
        due(x.total(5), 64);
        for (int room = 0; room < 64; room++) {
            due(x.room(room, 1), 64);
        }
        due(x.room(-1, 1), UNKNOWN);
        due(x.room(64, 1), UNKNOWN);
    }

    @Sentence(at = ROOMS, says = "A suite has a size, 1, 2, 4, 8, 16, 32 or 64 rooms, side by side, and begins at a room whose number is a multiple of the size.")
    static void suitesBeginAtMultiplesOfTheirSize() {
        for (int side = 0; side < 2; side++) {
            Called x = palace();
            x.set(SIDE, side);
            for (int rooms : new int[] {3, 1, 2, 5, 9, 1, 17}) {
                x.come(rooms, 30);
            }
            x.leave(1);
            x.move(0);
            x.pass(1);
            suitesOf(x);
        }
    }

    @Sentence(at = ROOMS, says = "A suite has a size, 1, 2, 4, 8, 16, 32 or 64 rooms")
    static void aSuiteCanHaveEachOfTheSizes() {
        for (int size : SIZES) {
            Called x = guests(size);
            due(x.room(0, 1), size);
            due(x.room(size - 1, 0), 0);
            due(x.room(size - 1, 3), 0);
            due(x.room(Math.min(size, 63), 0), size == 64 ? 0 : size);
        }
    }

    @Sentence(at = ROOMS, says = "Each room is in one suite")
    static void eachRoomIsInOneSuite() {
        Called x = guests(1, 16, 3, 32);
        due("suites", suitesOf(x), 7);
        due(x.total(9), 7);
    }

    @Sentence(at = ROOMS, says = "a suite is free, or a guest's, or dirty")
    static void aSuiteIsFreeOrAGuestsOrDirty() {
        Called x = guests(8, 8);
        x.leave(0);
        due(x.room(0, 2), 2);
        due(x.room(7, 2), 2);
        due(x.room(8, 2), 1);
        due(x.room(15, 2), 1);
        due(x.room(16, 2), 0);
        due(x.room(63, 2), 0);
        due("all rooms", x.total(5) + x.total(6) + x.total(7), 64);
    }

    @Sentence(at = ROOMS, says = "At first there is one suite, of 64 rooms, and it is free.")
    static void atFirstOneFreeSuiteOf64() {
        Called x = palace();
        due(x.total(9), 1);
        due(x.free(64, 0), 1);
        due(x.free(64, 1), 0);
        due(x.room(0, 2), 0);
        due(x.room(63, 0), 0);
        due(x.room(63, 1), 64);
        due(x.room(63, 2), 0);
    }

    @Sentence(at = ROOMS, says = "The twin of a suite with fewer than 64 rooms is the other half of the suite, of twice the size, of which it is a half.")
    static void theTwinIsTheOtherHalf() {
        Called x = guests(1);
        int[][] twins = {{0, 1}, {1, 0}, {2, 0}, {4, 0}, {8, 0}, {16, 0}, {32, 0}};
        for (int[] twin : twins) {
            due(x.room(twin[0], 4), twin[1]);
        }
        x = palace();
        x.set(SIDE, 1);
        x.come(1, 30);
        int[][] upper = {{63, 62}, {62, 63}, {60, 62}, {56, 60}, {48, 56}, {32, 48}, {0, 32}};
        for (int[] twin : upper) {
            due(x.room(twin[0], 4), twin[1]);
        }
    }

    @Sentence(at = ROOMS, says = "The twin of a suite with fewer than 64 rooms")
    static void aSuiteOf64HasNoTwin() {
        due(palace().room(0, 4), NONE);
        due(guests(64).room(63, 4), NONE);
        due(guests(32).room(0, 4), 32);
    }

    @Sentence(at = ROOMS, says = "When a suite becomes free, and its twin is a free suite of the same size, both are joined to one free suite of twice the size")
    static void freeTwinsAreJoinedWhicheverIsFreeLast() {
        for (int last = 0; last < 2; last++) {
            Called x = guests(16, 16, 32);
            gone(x, 1 - last);
            due(x.total(11), 0);
            due(x.free(16, 1), 16 * (1 - last));
            gone(x, last);
            due(x.total(11), 1);
            due(x.free(16, 0), 0);
            due(x.free(32, 0), 1);
            due(x.free(32, 1), 0);
            due(x.room(31, 0), 0);
            due(x.room(31, 1), 32);
        }
    }

    @Sentence(at = ROOMS, says = "When a suite becomes free, and its twin is a free suite")
    static void aGuestsTwinIsNotJoined() {
        Called x = gone(guests(32, 32), 0);
        due(x.total(11), 0);
        due(x.total(9), 2);
        due(x.free(32, 1), 0);
        due(x.room(32, 3), 1);
    }

    @Sentence(at = ROOMS, says = "When a suite becomes free, and its twin is a free suite")
    static void aDirtyTwinIsNotJoined() {
        Called x = guests(32, 32);
        x.set(BROOM, 32);
        x.leave(0);
        x.leave(1);
        due(x.pass(1), 32);
        due(x.total(11), 0);
        due(x.room(0, 1), 32);
        due(x.room(32, 2), 2);
        due(x.pass(1), 64);
        due(x.total(11), 1);
        due(x.room(32, 1), 64);
    }

    @Sentence(at = ROOMS, says = "When a suite becomes free")
    static void dirtyTwinsAreNotJoined() {
        Called x = guests(32, 32);
        x.leave(0);
        x.leave(1);
        due(x.total(11), 0);
        due(x.total(9), 2);
        due(x.room(0, 1), 32);
    }

    @Sentence(at = ROOMS, says = "its twin is a free suite of the same size")
    static void aTwinThatIsHalvedIsNotJoined() {
        Called x = gone(guests(32, 16, 16), 1);
        gone(x, 0);
        due(x.total(11), 0);
        due(x.free(32, 1), 0);
        due(x.free(16, 1), 32);
        due(x.room(0, 5), 0);
        x = gone(guests(16, 16, 32), 0);
        gone(x, 2);
        due(x.total(11), 0);
        due(x.free(32, 1), 32);
        due(x.free(16, 1), 0);
        due(x.room(63, 1), 32);
    }

    @Sentence(at = ROOMS, says = "its twin is a free suite of the same size")
    static void aNeighbourThatIsNoTwinIsNotJoined() {
        Called x = gone(guests(8, 8, 8, 8, 32), 1, 2);
        due(x.total(11), 0);
        due(x.free(8, 0), 2);
        due(x.free(8, 1), 8);
        due(x.room(16, 0), 16);
        due(x.room(16, 1), 8);
    }

    @Sentence(at = ROOMS, says = "this goes on as long as it can")
    static void joinsGoOnToTheWholePalace() {
        Called x = gone(guests(1), 0);
        due(x.total(11), 6);
        due(x.total(9), 1);
        due(x.free(64, 0), 1);
        x = palace();
        x.set(SIDE, 1);
        x.come(1, 30);
        gone(x, 0);
        due(x.total(11), 6);
        due(x.free(64, 1), 0);
    }

    @Sentence(at = ROOMS, says = "this goes on as long as it can")
    static void joinsStopAtATwinThatIsNotFree() {
        Called x = gone(guests(1, 8), 0);
        due(x.total(11), 3);
        due(x.free(8, 0), 1);
        due(x.free(8, 1), 0);
        due(x.free(16, 1), 16);
        due(x.free(32, 1), 32);
        due(x.total(9), 4);
    }

    // ---- GUESTS, KEYS: hooks

    @Sentence(at = GUESTS, says = "There are 12 hooks, 0 to 11, each with its key at first.")
    static void theHooksAre0To11WithTheirKeys() {
        Called x = palace();
        for (int hook = 0; hook < 12; hook++) {
            due(x.hook(hook), 0);
        }
        due(x.hook(-1), UNKNOWN);
        due(x.hook(12), UNKNOWN);
        for (int guest = 0; guest < 12; guest++) {
            due(x.come(1, 30), guest);
        }
        due(x.come(1, 30), REFUSED - 1);
    }

    @Sentence(at = GUESTS, says = "A guest takes the key of the lowest hook that has one")
    static void aGuestTakesTheLowestKey() {
        Called x = guests(1, 1, 1, 1, 1, 1, 1);
        x.leave(5);
        x.leave(2);
        due(x.come(1, 30), 2);
        due(x.come(1, 30), 5);
        due(x.come(1, 30), 7);
    }

    @Sentence(at = GUESTS, says = "A guest takes the key of the lowest hook that has one")
    static void aHookWhoseKeyIsCutHasNone() {
        Called x = guests(1, 1, 1);
        x.lose(0);
        x.leave(0);
        x.leave(1);
        due(x.come(1, 30), 1);
        due(x.come(1, 30), 3);
        x.pass(2);
        due(x.come(1, 30), 0);
    }

    @Sentence(at = GUESTS, says = "is numbered like the hook as long as the guest stays")
    static void aGuestKeepsTheNumber() {
        Called x = guests(1, 2, 4);
        x.leave(0);
        x.move(2);
        x.pass(1);
        due(x.guest(0, 0), UNKNOWN);
        due(x.guest(1, 0), 2);
        due(x.guest(2, 0), 4);
        due(x.come(8, 30), 0);
        due(x.guest(0, 0), 8);
        due(x.guest(2, 0), 4);
    }

    @Sentence(at = GUESTS, says = "A guest wants 1 to 64 rooms for 1 to 30 days.")
    static void aGuestWants1To64RoomsFor1To30Days() {
        due(palace().come(1, 1), 0);
        due(palace().come(1, 30), 0);
        due(palace().come(64, 1), 0);
        due(palace().come(64, 30), 0);
        due(palace().come(0, 1), OUT_OF_RANGE);
        due(palace().come(65, 1), OUT_OF_RANGE);
        due(palace().come(1, 0), OUT_OF_RANGE);
        due(palace().come(1, 31), OUT_OF_RANGE);
    }

    // ---- GUESTS, KEYS: the suite that is taken

    @Sentence(at = GUESTS, says = "The size that the guest gets is the least power of two that is not less than the rooms wanted.")
    static void theSizeIsTheLeastPowerOfTwo() {
        int size = 1;
        for (int rooms = 1; rooms <= 64; rooms++) {
            if (rooms > size) {
                size = 2 * size;
            }
            Called x = guests(rooms);
            due(x.guest(0, 0), rooms);
            due(x.guest(0, 1), size);
        }
    }

    @Sentence(at = GUESTS, says = "Of the free suites that have at least this size one of the least size is taken")
    static void aSuiteOfTheLeastSizeIsTaken() {
        Called x = guests(1);
        for (int size = 1; size < 64; size = 2 * size) {
            due(x.ifCome(size), size);
        }
        due("the guest's", x.come(4, 30), 1);
        due(x.guest(1, 2), 4);
        due(x.ifCome(4), 8);
        due(x.ifCome(3), 8);
        due(x.ifCome(2), 2);
    }

    @Sentence(at = GUESTS, says = "Of the free suites that have at least this size one of the least size is taken")
    static void theLeastSizeGoesAheadOfTheLowestRoom() {
        Called x = gone(guests(16, 1), 0);
        due(x.free(16, 1), 0);
        due(x.ifCome(1), 17);
        due(x.ifCome(8), 24);
        due(x.ifCome(9), 0);
    }

    @Sentence(at = GUESTS, says = "Of the free suites that have at least this size one of the least size is taken")
    static void theLeastSizeGoesAheadOfTheHighestRoom() {
        Called x = guests(1, 16);
        x.set(SIDE, 1);
        due(x.ifCome(1), 1);
        due(x.ifCome(2), 2);
        due(x.ifCome(8), 8);
        due(x.ifCome(16), 48);
    }

    @Sentence(at = GUESTS, says = "of several the one with the lowest room")
    static void ofSeveralTheLowest() {
        Called x = quarters();
        due(x.ifCome(16), 0);
        due(x.come(16, 1), 0);
        due(x.guest(0, 2), 0);
        due(x.ifCome(16), 32);
    }

    @Sentence(at = GUESTS, says = "of several the one with the lowest room (with the setting SIDE 1: the highest)")
    static void ofSeveralTheHighestWithSide1() {
        Called x = quarters();
        x.set(SIDE, 1);
        due(x.ifCome(16), 32);
        due(x.come(16, 1), 0);
        due(x.guest(0, 2), 32);
        due(x.ifCome(16), 0);
    }

    @Sentence(at = GUESTS, says = "As long as it is greater than the size, it is halved")
    static void aSuiteIsHalvedDownToTheSize() {
        int[] halvings = {6, 5, 4, 3, 2, 1, 0};
        for (int power = 0; power < 7; power++) {
            due(guests(SIZES[power]).total(10), halvings[power]);
            due(guests(SIZES[power]).total(9), halvings[power] + 1);
        }
    }

    @Sentence(at = GUESTS, says = "As long as it is greater than the size, it is halved")
    static void aSuiteOfTheSizeIsNotHalved() {
        Called x = guests(1);
        int[] firsts = {1, 2, 4, 8, 16, 32};
        for (int power = 0; power < 6; power++) {
            due(x.come(SIZES[power], 30), power + 1);
            due(x.guest(power + 1, 2), firsts[power]);
            due(x.total(10), 6);
        }
    }

    @Sentence(at = GUESTS, says = "the lower half (with SIDE 1: the upper one) is gone on with, the other half is a free suite")
    static void theLowerHalfIsGoneOnWith() {
        Called x = guests(1);
        due(x.guest(0, 2), 0);
        int[] free = {1, 2, 4, 8, 16, 32};
        for (int power = 0; power < 6; power++) {
            due(x.free(SIZES[power], 0), 1);
            due(x.free(SIZES[power], 1), free[power]);
        }
        due(x.free(64, 0), 0);
    }

    @Sentence(at = GUESTS, says = "the lower half (with SIDE 1: the upper one) is gone on with, the other half is a free suite")
    static void theUpperHalfIsGoneOnWithAtSide1() {
        Called x = palace();
        x.set(SIDE, 1);
        x.come(1, 30);
        due(x.guest(0, 2), 63);
        int[] free = {62, 60, 56, 48, 32, 0};
        for (int power = 0; power < 6; power++) {
            due(x.free(SIZES[power], 0), 1);
            due(x.free(SIZES[power], 1), free[power]);
        }
        due(x.free(64, 0), 0);
    }

    // ---- GUESTS, KEYS: refused

    @Sentence(at = GUESTS, says = "1 no hook has a key")
    static void theThirteenthGuestIsRefused() {
        Called x = guests(1, 1, 1, 1, 1, 1, 1, 1, 1, 1, 1);
        due(x.why(1), 0);
        due(x.come(1, 30), 11);
        due(x.why(1), 1);
        due(x.come(1, 30), REFUSED - 1);
        x.leave(7);
        due(x.why(1), 0);
        due(x.come(1, 30), 7);
    }

    @Sentence(at = GUESTS, says = "1 no hook has a key")
    static void aKeyThatIsCutIsNotOnItsHook() {
        Called x = twelveGuests();
        x.lose(4);
        x.leave(4);
        due(x.come(1, 30), REFUSED - 1);
        x.pass(1);
        due(x.come(1, 30), REFUSED - 1);
        x.pass(1);
        due(x.come(1, 30), 4);
    }

    @Sentence(at = GUESTS, says = "2 all free rooms together are fewer than the size")
    static void justAsManyFreeRoomsAsTheSizeAreNotTooFew() {
        Called x = guests(32, 16);
        due(x.total(5), 16);
        due(x.why(16), 0);
        due(x.why(17), 2);
        x = quarters();
        due(x.total(5), 32);
        due(x.why(32), 3);
        due(x.why(33), 2);
    }

    @Sentence(at = GUESTS, says = "2 all free rooms together are fewer than the size")
    static void itIsTheSizeThatCountsAndNotTheRoomsWanted() {
        Called x = guests(32, 8);
        due(x.total(5), 24);
        due(x.come(17, 30), REFUSED - 2);
        due(x.come(24, 30), REFUSED - 2);
        due(x.come(16, 30), 2);
        due(x.come(5, 30), 3);
        due(x.come(1, 30), REFUSED - 2);
    }

    @Sentence(at = GUESTS, says = "2 all free rooms together are fewer than the size")
    static void dirtyRoomsAreNotFree() {
        Called x = guests(32, 32);
        x.leave(0);
        due(x.come(1, 30), REFUSED - 2);
        due(x.come(32, 30), REFUSED - 2);
        gone(x);
        due(x.come(32, 30), 0);
    }

    @Sentence(at = GUESTS, says = "3 no free suite is large enough")
    static void noFreeSuiteIsLargeEnough() {
        Called x = quarters();
        due(x.come(17, 30), REFUSED - 3);
        due(x.come(32, 30), REFUSED - 3);
        due(x.come(16, 30), 0);
    }

    @Sentence(at = GUESTS, says = "A guest is refused for the first of these reasons")
    static void theReason1GoesAheadOf2() {
        Called x = twelveGuests();
        due(x.why(64), 1);
        due(x.come(64, 30), REFUSED - 1);
        x.leave(3);
        due(x.come(64, 30), REFUSED - 2);
    }

    @Sentence(at = GUESTS, says = "A guest is refused for the first of these reasons")
    static void theReason1GoesAheadOf3() {
        Called x = gone(guests(4, 4, 4, 4, 4, 4, 4, 4, 4, 4, 4, 4), 1, 3, 5);
        due(x.come(16, 30), 1);
        due(x.come(1, 30), 3);
        due(x.come(1, 30), 5);
        due(x.total(5), 10);
        due(x.greatest(0), 4);
        due(x.come(8, 30), REFUSED - 1);
        x.leave(5);
        due(x.come(8, 30), REFUSED - 3);
    }

    @Sentence(at = GUESTS, says = "A guest is refused for the first of these reasons")
    static void theReason2GoesAheadOf3() {
        Called x = quarters();
        due(x.greatest(0), 16);
        due(x.come(33, 30), REFUSED - 2);
        due(x.come(64, 30), REFUSED - 2);
        due(x.come(32, 30), REFUSED - 3);
        due(guests(64).come(1, 30), REFUSED - 2);
    }

    // ---- GUESTS, KEYS: leaving and moving

    @Sentence(at = GUESTS, says = "When a guest leaves, the suite is dirty")
    static void theSuiteOfWhoLeavesIsDirty() {
        Called x = guests(3, 1);
        x.leave(0);
        for (int room = 0; room < 4; room++) {
            due(x.room(room, 2), 2);
            due(x.room(room, 3), NONE);
        }
        due(x.room(4, 2), 1);
        due(x.total(5), 59);
        due(x.total(7), 4);
    }

    @Sentence(at = GUESTS, says = "behind all that are dirty already")
    static void whoLeavesLaterIsCleanedLater() {
        Called x = guests(1, 1, 1);
        x.set(BROOM, 1);
        x.leave(1);
        x.leave(2);
        x.leave(0);
        int[] cleaned = {1, 2, 0};
        for (int day = 0; day < 3; day++) {
            for (int room : cleaned) {
                due(x.room(room, 2), 2);
            }
            x.pass(1);
            due(x.room(cleaned[day], 2), 0);
            cleaned[day] = cleaned[2];
        }
    }

    @Sentence(at = GUESTS, says = "and the key is on its hook again")
    static void theKeyIsOnItsHookAgain() {
        Called x = guests(1, 1);
        due(x.hook(0), 1);
        x.leave(0);
        due(x.hook(0), 0);
        due(x.come(1, 30), 0);
    }

    @Sentence(at = GUESTS, says = "if the guest has lost it, a new one is cut: it is on the hook again behind CUT days")
    static void aLostKeyIsOnTheHookBehindCutDays() {
        for (int cut = 1; cut <= 9; cut++) {
            Called x = guests(1);
            x.set(CUT, cut);
            x.lose(0);
            due(x.hook(0), 1);
            x.leave(0);
            for (int left = cut; left > 0; left--) {
                due(x.hook(0), -10 - left);
                due(x.total(15), 1);
                x.pass(1);
            }
            due(x.hook(0), 0);
            due(x.total(15), 0);
            due(x.come(1, 1), 0);
        }
    }

    @Sentence(at = GUESTS, says = "(at once if CUT is 0)")
    static void aLostKeyIsOnTheHookAtOnceWithCut0() {
        Called x = guests(1);
        x.set(CUT, 0);
        x.lose(0);
        x.leave(0);
        due(x.hook(0), 0);
        due(x.total(15), 0);
        due(x.come(1, 30), 0);
    }

    @Sentence(at = GUESTS, says = "if the guest has lost it, a new one is cut")
    static void onlyTheLostKeyIsCut() {
        Called x = guests(1, 1);
        x.lose(1);
        x.leave(0);
        due(x.hook(0), 0);
        x.leave(1);
        due(x.hook(1), -12);
        due(x.come(1, 30), 0);
        x.leave(0);
        due("the next guest has not lost it", x.hook(0), 0);
    }

    @Sentence(at = GUESTS, says = "the suite that a new guest for as many rooms would get now is that guest's then")
    static void whoIsMovedGetsWhatANewGuestWouldGet() {
        for (int side = 0; side < 2; side++) {
            Called x = guests(3, 9, 1);
            x.set(SIDE, side);
            int first = x.ifCome(9);
            due(first, side == 0 ? 32 : 48);
            due(x.move(1), first);
            due(x.guest(1, 2), first);
            due(x.guest(1, 1), 16);
            due(x.room(first + 15, 3), 1);
        }
    }

    @Sentence(at = GUESTS, says = "the suite that a new guest for as many rooms would get now")
    static void theOldSuiteIsNotFreeForWhoIsMoved() {
        Called x = guests(1);
        due(x.move(0), 1);
        x.pass(1);
        due(x.move(0), 0);
    }

    @Sentence(at = GUESTS, says = "and the old one is dirty")
    static void theOldSuiteIsDirtyBehindTheOthers() {
        Called x = guests(2, 2, 2);
        x.set(BROOM, 2);
        x.leave(2);
        due(x.move(0), 6);
        due(x.room(0, 2), 2);
        due(x.room(1, 3), NONE);
        x.pass(1);
        due(x.room(4, 2), 0);
        due(x.room(0, 2), 2);
        x.pass(1);
        due(x.room(0, 2), 0);
    }

    @Sentence(at = GUESTS, says = "A guest can be moved")
    static void whoIsMovedStaysTheSameGuest() {
        Called x = guests(1, 3);
        x.pass(4);
        x.lose(1);
        x.move(1);
        due(x.guest(1, 0), 3);
        due(x.guest(1, 3), 26);
        due(x.guest(1, 4), 1);
        due(x.total(12), 2);
        due(x.total(4), 2);
        due(x.hook(2), 0);
    }

    @Sentence(at = GUESTS, says = "This cannot be done for the reasons 2 and 3.")
    static void notMovedForTheReason2() {
        Called x = guests(32, 16);
        due(x.why(32), 2);
        due(x.move(0), NOT_POSSIBLE);
        due("just enough rooms", x.move(1), 48);
        due(guests(64).move(0), NOT_POSSIBLE);
    }

    @Sentence(at = GUESTS, says = "This cannot be done for the reasons 2 and 3.")
    static void notMovedForTheReason3() {
        Called x = gone(guests(8, 8, 16, 8, 8, 16), 0, 3);
        due(x.total(5), 16);
        due(x.why(16), 3);
        due(x.move(2), NOT_POSSIBLE);
        due(x.move(1), 0);
    }

    @Sentence(at = GUESTS, says = "This cannot be done for the reasons 2 and 3.")
    static void refusedAndNotMovedWithSide1Too() {
        Called x = quarters();
        x.set(SIDE, 1);
        due(x.come(17, 9), REFUSED - 3);
        due(x.come(33, 9), REFUSED - 2);
        x = guests(32, 16);
        x.set(SIDE, 1);
        due(x.move(0), NOT_POSSIBLE);
        due(x.move(1), 48);
        due(x.move(1), NOT_POSSIBLE);
    }

    @Sentence(at = GUESTS, says = "This cannot be done for the reasons 2 and 3.")
    static void movedInSpiteOfTheReason1() {
        Called x = twelveGuests();
        due(x.why(1), 1);
        due(x.move(11), 12);
        due(x.hook(11), 13);
    }
}
