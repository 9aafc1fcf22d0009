/** The sentences on texts: those of the terms, and the promises 9 to 11. */
public final class SentencesOfTextsTest extends Sentences {
    private static final String TEXTS = "TEXTS";
    private static final String PERFORM = "Promise 9";
    private static final String TYPE = "Promise 10";
    private static final String CLEAR = "Promise 11";

    private static final String DIGITS = "0123456789";
    private static final String SIXTY = "1x10,1x1,1x1,1x1,1x1,1x1,1x1,1x1,1x1,1x1,1x1,-10,-9,-0,-1,.9";

    public static void main(String[] args) throws Exception {
        run(SentencesOfTextsTest.class, args);
    }

    /** Behind the beginning just these signs may stand: any other one is the fault, at its own place. */
    private static void allowedBehind(String beginning, String signs) {
        for (int character = 0; character < 384; character++) {
            behind(beginning, (char) character, signs.indexOf(character) >= 0);
        }
        for (char sign : (DIGITS + "x-.,").toCharArray()) {
            for (int high = 0x200; high <= 0xff00; high = 2 * high + 0x100) {
                behind(beginning, (char) (sign + high), false);
            }
        }
        behind(beginning, '\uffff', false);
        behind(beginning, '\u0661', false);
    }

    private static void behind(String beginning, char character, boolean allowed) {
        Called x = palace();
        int answer = x.performed(beginning + character);
        if ((answer != -100 - beginning.length()) != allowed) {
            due(answer, allowed ? 1 : -100 - beginning.length());
        }
    }

    private static void endsTooEarly(String text) {
        due(palace().performed(text), -100 - text.length());
    }

    private static void noFault(String text) {
        int answer = palace().performed(text);
        if (answer <= -100) {
            due(answer, 1);
        }
    }

    // ---- TEXTS

    @Sentence(at = TEXTS, says = "There is a text of at most 60 characters")
    static void theTextHasAtMost60Characters() {
        Called x = palace();
        x.write(SIXTY.substring(0, 59));
        due(x.total(17), 59);
        due(x.type('9'), 60);
        due(x.type('9'), FULL);
        due(x.total(17), 60);
    }

    @Sentence(at = TEXTS, says = "There is a text of at most 60 characters")
    static void allOf60CharactersAreCarriedOut() {
        due("the length", SIXTY.length(), 60);
        Called x = palace();
        due(x.performed(SIXTY), 16);
        due(x.total(3), 9);
    }

    @Sentence(at = TEXTS, says = "empty at first")
    static void theTextIsEmptyAtFirst() {
        Called x = palace();
        due(x.total(17), 0);
        due(x.perform(), -100);
        due(x.clearText(), 0);
        due(x.type('.'), 1);
    }

    @Sentence(at = TEXTS, says = "It is a list of one or more orders")
    static void oneOrderIsAList() {
        due(palace().performed("1x1"), 1);
        due(palace().performed("."), 1);
        due(guests(1).performed("-0"), 1);
        endsTooEarly("");
    }

    @Sentence(at = TEXTS, says = "It is a list of one or more orders with \",\" between two")
    static void aCommaStandsBetweenTwoOrders() {
        due(palace().performed(".,."), 2);
        due(palace().performed("1x1,-0,.9"), 3);
        due(palace().performed(".,.,.,.,.,.,.,.,.,.,.,.,.,.,.,.,.,.,.,.,.,.,.,.,.,.,.,.,.,."), 30);
        allowedBehind(".,", "123456789-.");
        allowedBehind("1x1,-0,", "123456789-.");
        allowedBehind(".9", ",");
        allowedBehind("1x30", ",");
        allowedBehind("-11", ",");
    }

    @Sentence(at = TEXTS, says = "rooms (1 to 64, without a leading zero)")
    static void ofRoomsOneTo64AreAllowed() {
        for (int rooms = 1; rooms <= 64; rooms++) {
            Called x = palace();
            due(x.performed(rooms + "x1"), 1);
            due(x.guest(0, 0), rooms);
        }
        allowedBehind("", "123456789-.");
        allowedBehind("1", DIGITS + "x");
        allowedBehind("5", DIGITS + "x");
        allowedBehind("6", "01234x");
        allowedBehind("7", "x");
        allowedBehind("9", "x");
        allowedBehind("10", "x");
        allowedBehind("64", "x");
    }

    @Sentence(at = TEXTS, says = "without a leading zero")
    static void roomsHaveNoLeadingZero() {
        due(palace().performed("0x1"), -100);
        due(palace().performed("01x1"), -100);
        due(palace().performed(".,05x1"), -102);
    }

    @Sentence(at = TEXTS, says = "\"x\", and days (1 to 30, likewise): a guest comes")
    static void ofDaysOneTo30AreAllowed() {
        for (int days = 1; days <= 30; days++) {
            Called x = palace();
            due(x.performed("1x" + days), 1);
            due(x.guest(0, 3), days);
        }
        allowedBehind("1x", "123456789");
        allowedBehind("1x1", DIGITS + ",");
        allowedBehind("1x2", DIGITS + ",");
        allowedBehind("1x3", "0,");
        allowedBehind("1x4", ",");
        allowedBehind("1x9", ",");
        allowedBehind("1x29", ",");
    }

    @Sentence(at = TEXTS, says = "days (1 to 30, likewise)")
    static void daysHaveNoLeadingZero() {
        due(palace().performed("1x0"), -102);
        due(palace().performed("1x05"), -102);
        due(palace().performed("64x00"), -103);
    }

    @Sentence(at = TEXTS, says = "\"-\" and a hook (0 to 11, likewise): its guest leaves")
    static void ofHooks0To11AreAllowed() {
        for (int hook = 0; hook < 12; hook++) {
            Called x = twelveGuests();
            due(x.performed("-" + hook), 1);
            due(x.guest(hook, 0), UNKNOWN);
            due(x.total(4), 11);
        }
        allowedBehind("-", DIGITS);
        allowedBehind("-1", "01,");
        allowedBehind("-2", ",");
        allowedBehind("-9", ",");
        allowedBehind("-10", ",");
    }

    @Sentence(at = TEXTS, says = "a hook (0 to 11, likewise)")
    static void aHookHasNoLeadingZero() {
        allowedBehind("-0", ",");
        due(palace().performed("-01"), -102);
        due(palace().performed("-00"), -102);
    }

    @Sentence(at = TEXTS, says = "\".\" and perhaps a digit 2 to 9: one day, or so many")
    static void aPointIsOneDayOr2To9() {
        Called x = palace();
        due(x.performed("."), 1);
        due(x.total(3), 1);
        int days = 1;
        for (int digit = 2; digit <= 9; digit++) {
            due(x.performed("." + digit), 1);
            days += digit;
            due(x.total(3), days);
        }
        allowedBehind(".", "23456789,");
        allowedBehind(".2", ",");
    }

    @Sentence(at = TEXTS, says = "The fault of the text is the index, from 0, of the first character that is not allowed at its place")
    static void theFaultIsTheFirstCharacterThatIsNotAllowed() {
        due(palace().performed("?"), -100);
        due(palace().performed(".?"), -101);
        due(palace().performed("12?x1?"), -102);
        due(palace().performed("1x1,.,-3,??"), -109);
        due(palace().performed(".,.,.,.,.,.,.,.,.,.,.,.,.,.,.,.,.,.,.,.,.,.,.,.,.,.,.,.,.,.."), -159);
        due("at its place", palace().performed("x1"), -100);
        due(palace().performed(",."), -100);
        due(palace().performed(".,,."), -102);
        due(palace().performed("--1"), -101);
        due(palace().performed("1-"), -101);
        due(palace().performed("1xx1"), -102);
    }

    @Sentence(at = TEXTS, says = "(also of a digit by which a number would be too great)")
    static void theFaultIsTheDigitByWhichANumberIsTooGreat() {
        due(palace().performed("65x1"), -101);
        due(palace().performed("70x1"), -101);
        due(palace().performed("640x1"), -102);
        due(palace().performed("100x1"), -102);
        due(palace().performed("1x31"), -103);
        due(palace().performed("1x40"), -103);
        due(palace().performed("1x300"), -104);
        due(palace().performed("-12"), -102);
        due(palace().performed("-20"), -102);
        due(palace().performed("-110"), -103);
        due(palace().performed(".,64x30,64x31"), -112);
    }

    @Sentence(at = TEXTS, says = "or the length of the text if it ends too early")
    static void theFaultOfATextThatEndsTooEarlyIsItsLength() {
        for (String text : new String[] {"1", "64", "1x", "64x", "-", ".,", "1x30,", "-0,", ".,5", ".,5x", ".,-"}) {
            endsTooEarly(text);
        }
        for (String text : new String[] {"1x1", "1x3", "-1", "-0", ".", ".,.5"}) {
            noFault(text);
        }
        due("of 60 characters", palace().performed(SIXTY.substring(0, 57) + ",1x"), -160);
    }

    @Sentence(at = TEXTS, says = "(the empty text does)")
    static void theEmptyTextEndsTooEarly() {
        Called x = palace();
        due(x.perform(), -100);
        x.write("1x1");
        x.clearText();
        due(x.perform(), -100);
    }

    // ---- Promise 9

    @Sentence(at = PERFORM, says = "Carries out the orders of the text, which stays")
    static void theTextStays() {
        Called x = palace();
        due(x.performed("1x9"), 1);
        due(x.total(17), 3);
        due(x.perform(), 1);
        due(x.total(4), 2);
        due(x.clearText(), 3);
    }

    @Sentence(at = PERFORM, says = "one after the other")
    static void theOrdersAreCarriedOutOneAfterTheOther() {
        Called x = palace();
        due(x.performed("64x1,.,.7,1x9,-0,2x8"), 6);
        due(x.guest(0, 0), 2);
        due(x.guest(0, 2), 2);
        due(x.total(3), 8);
        due(x.total(12), 3);
        due(palace().performed("-0,64x1"), UNKNOWN);
        due(palace().performed("64x1,-0"), 2);
    }

    @Sentence(at = PERFORM, says = "all of them, or none if one of them is not possible")
    static void noneIfOneIsNotPossible() {
        for (String text : new String[] {"-0", "1x1,.,-2,-0,-0", "1x1,.9,64x1", ".,.,.,.,-11"}) {
            int answer = text.endsWith("64x1") ? REFUSED - 2 : UNKNOWN;
            changesNothing(x -> {
                busy(x);
                x.write(text);
            }, Called::perform, answer);
        }
    }

    @Sentence(at = PERFORM, says = "This is one change.")
    static void manyOrdersAreOneChange() {
        isAChange(x -> {
            x.come(4, 9);
            x.write("8x4,1x1,.,-0,.2,16x30");
        }, Called::perform, 6);
    }

    @Sentence(at = PERFORM, says = "Returns how many orders the text has")
    static void howManyOrdersTheTextHas() {
        due(palace().performed("64x30"), 1);
        due(palace().performed(".9,.9"), 2);
        due(palace().performed("1x1,1x1,1x1,1x1,1x1,1x1,1x1,1x1,1x1,1x1,1x1,1x1,-0,-1,-11"), 15);
    }

    @Sentence(at = PERFORM, says = "-100 minus the fault of the text if it has one (this is an error)")
    static void aFaultIsAnError() {
        changesNothing(x -> {
            busy(x);
            x.write("1x1,.,-2,");
        }, Called::perform, -109);
        changesNothing(x -> {
            busy(x);
            x.clearText();
        }, Called::perform, -100);
    }

    @Sentence(at = PERFORM, says = "-100 minus the fault of the text if it has one (this is an error); otherwise the error of the first order that has one")
    static void theFaultGoesAheadOfTheErrors() {
        due(palace().performed("-0,?"), -103);
        due(palace().performed("64x1,64x1,"), -110);
        due(lastDay().performed(".,.."), -103);
    }

    @Sentence(at = PERFORM, says = "the error of the first order that has one")
    static void theErrorIsThatOfTheFirstOrderThatHasOne() {
        due(palace().performed("64x1,-1,1x1"), UNKNOWN);
        due(palace().performed("64x1,1x1,-1"), REFUSED - 2);
        Called x = lastDay();
        due(x.performed(".,-0"), NOT_POSSIBLE);
        due(x.performed("-0,."), UNKNOWN);
    }

    @Sentence(at = PERFORM, says = "as come(), leave() or pass() return it")
    static void theErrorsAreThoseOfComeLeaveAndPass() {
        due("reason 1", twelveGuests().performed("1x1"), REFUSED - 1);
        due("reason 2", guests(64).performed("1x1"), REFUSED - 2);
        due("reason 3", quarters().performed("17x1"), REFUSED - 3);
        due("no guest", guests(1).performed("-1"), UNKNOWN);
        Called x = lastDay();
        due("the last day", x.performed(".9"), NOT_POSSIBLE);
        x.undo();
        x.pass(40);
        due("nine days are left", x.performed(".9,."), NOT_POSSIBLE);
        due(x.total(3), 9990);
        due(x.performed(".9"), 1);
        due(x.total(3), 9999);
    }

    // ---- Promise 10

    @Sentence(at = TYPE, says = "Appends a character to the text.")
    static void aCharacterIsAppended() {
        Called x = palace();
        x.type('2');
        x.type('x');
        x.type('3');
        due(x.perform(), 1);
        due(x.guest(0, 0), 2);
        due(x.guest(0, 3), 3);
        x.type('0');
        due(x.perform(), 1);
        due(x.guest(1, 3), 30);
    }

    @Sentence(at = TYPE, says = "any character")
    static void anyCharacterCanBeTyped() {
        Called x = palace();
        int length = 0;
        for (char character : new char[] {0, 1, ' ', '\n', 127, 128, 255, 256, '\ud800', '\udfff', '\uffff'}) {
            length++;
            due(x.type(character), length);
        }
        due(x.perform(), -100);
    }

    @Sentence(at = TYPE, says = "Returns the length of the text then; FULL if it has 60 characters.")
    static void fullWith60Characters() {
        Called x = palace();
        for (int length = 1; length <= 60; length++) {
            due(x.type('.'), length);
        }
        due(x.type(','), FULL);
        due(x.type('\uffff'), FULL);
        due(x.total(17), 60);
        due(x.clearText(), 60);
        due(x.type('.'), 1);
    }

    @Sentence(at = TYPE, says = "FULL if it has 60 characters.")
    static void aCharacterTooMuchChangesNothing() {
        changesNothing(x -> {
            busy(x);
            x.write(".,.,.,.,.,.,.,.,.,.,.,.,.,.,.,.,.,.,.,.,.,.,.,.,.,.,.,.,.,.9");
        }, x -> x.type('9'), FULL);
    }

    // ---- Promise 11

    @Sentence(at = CLEAR, says = "Empties the text.")
    static void theTextIsEmptied() {
        Called x = palace();
        x.write("1x30");
        x.clearText();
        due(x.total(17), 0);
        due(x.perform(), -100);
        due(x.type('.'), 1);
        due(x.perform(), 1);
        due(x.total(4), 0);
    }

    @Sentence(at = CLEAR, says = "Returns the length that it had.")
    static void theLengthThatTheTextHad() {
        Called x = palace();
        due(x.clearText(), 0);
        x.type('?');
        due(x.clearText(), 1);
        due(x.clearText(), 0);
        x.write(SIXTY);
        due(x.clearText(), 60);
    }
}
