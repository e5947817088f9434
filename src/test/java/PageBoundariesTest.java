import java.util.function.ToLongFunction;

/** The boundaries of promises 1 to 5: a new object, THE PAGE, and the text of a SEA. */
public final class PageBoundariesTest extends Checks {
    private static final String FOUR_NEEDLES = "n00,s11,l22,t33";
    private static final String LONGEST = "n05,s50,l55,o00;5505500025";

    public static void main(String[] args) {
        runAll(PageBoundariesTest.class);
    }

    // ---- 1 a new object

    private static void promise01NothingIsCountedAtFirst() {
        HomeNeedles x = new HomeNeedles();
        for (int what = 0; what <= 8; what++) {
            due("count(" + what + ")", x.count(what), 0);
        }
    }

    private static void promise01NoNeedleIsKnownWithoutASea() {
        withoutASea("needle(0, 0)", x -> x.needle(0, 0), UNKNOWN);
        withoutASea("as(0, 0)", x -> x.as(0, 0), UNKNOWN);
        withoutASea("points(0, 0)", x -> x.points(0, 0), UNKNOWN);
        withoutASea("swing(0, 0)", x -> x.swing(0, 0), UNKNOWN);
        withoutASea("follow(0)", x -> x.follow(0), UNKNOWN);
        withoutASea("see(0, 0, 0)", x -> x.see(0, 0, 0), UNKNOWN);
    }

    private static void promise01NoPlaceIsKnownWithoutASea() {
        for (int place : new int[] {0, 35}) {
            withoutASea("island(" + place + ")", x -> x.island(place), UNKNOWN);
            withoutASea("raise(" + place + ", true)", x -> x.raise(place, true), UNKNOWN);
            withoutASea("raise(" + place + ", false)", x -> x.raise(place, false), UNKNOWN);
        }
    }

    private static void promise01StateWithoutASea() {
        withoutASea("sea()", x -> x.sea(), STATE);
        withoutASea("step(0)", x -> x.step(0), STATE);
        withoutASea("homing()", x -> x.homing(), STATE);
        withoutASea("storms(1, 0, 0)", x -> x.storms(1, 0, 0), STATE);
        withoutASea("image()", x -> x.image(), STATE);
        withoutASea("restore()", x -> x.restore(), STATE);
    }

    private static void promise01ObjectsAreApart() {
        HomeNeedles first = busy();
        due("digest of a new one beside it", new HomeNeedles().digest(), with(1091, 0, 0, 0, 0, 0, 0, 0, 0, 0));
        full();
        withSea("t30;0312").image();
        goesOnAs("one beside others", first, busy());
    }

    /** For a new object, and for one with letters of which no SEA comes. */
    private static void withoutASea(String what, ToLongFunction<HomeNeedles> call, int want) {
        refused(what + " of a new object", HomeNeedles::new, call, want);
        refused(what + " with a page alone", () -> withPage("n00;00~"), call, want);
    }

    // ---- 2 letter

    private static void promise02EachCodeFrom1To126IsTaken() {
        for (int code = 1; code <= 126; code++) {
            HomeNeedles x = new HomeNeedles();
            due("letter(" + code + ")", x.letter(code), 1);
            due("it is on the page: " + code, x.digest(), with(1091, code, 0, 0, 0, 0, 0, 0, 0, 1, 0));
        }
    }

    private static void promise02Code0IsOutside() {
        refused("letter(0)", Checks::busy, x -> x.letter(0), OUTSIDE);
    }

    private static void promise02Code127IsOutside() {
        refused("letter(127)", Checks::busy, x -> x.letter(127), OUTSIDE);
    }

    private static void promise02CodesFarOutAreOutside() {
        // Some of them are 'n' in their last bits.
        for (int code : new int[] {-1, 128, 255, 256, 366, 65646, -65426, MIN, MIN + 110, MAX}) {
            refused("letter(" + code + ")", Checks::busy, x -> x.letter(code), OUTSIDE);
        }
    }

    private static void promise02The28thIsTheLast() {
        HomeNeedles x = new HomeNeedles();
        for (int i = 1; i <= LETTERS; i++) {
            due("letter " + i, x.letter(60 + i), i);
        }
        due("letters", x.count(7), 28);
    }

    private static void promise02The29thIsFull() {
        refused("letter 29", () -> withPage("1234567890123456789012345678"), x -> x.letter('1'), FULL);
        refused("letter 29 with a sea", Checks::full, x -> x.letter('1'), FULL);
    }

    private static void promise02FullStaysFull() {
        HomeNeedles x = full();
        for (int i = 0; i < 3; i++) {
            due("letter of a full page", x.letter('n'), FULL);
        }
        due("letters", x.count(7), LETTERS);
    }

    private static void promise02OutsideIsAheadOfFull() {
        for (int code : new int[] {0, 127, -1, MIN, MAX}) {
            refused("letter(" + code + ") of a full page", Checks::full, x -> x.letter(code), OUTSIDE);
        }
    }

    private static void promise02AFullPageTakesLettersBehindBlank() {
        HomeNeedles x = full();
        x.blank();
        for (int i = 1; i <= LETTERS; i++) {
            due("letter " + i + " again", x.letter('~'), i);
        }
        due("letter 29 again", x.letter('~'), FULL);
    }

    private static void promise02APageThatWasReadTakes28Again() {
        HomeNeedles x = withSea(LONGEST);
        for (int i = 1; i <= LETTERS; i++) {
            due("letter " + i + " behind sea()", x.letter('~'), i);
        }
        due("letter 29 behind sea()", x.letter('~'), FULL);
    }

    // ---- 3 blank

    private static void promise03AnEmptyPageHadNone() {
        due("blank of a new object", new HomeNeedles().blank(), 0);
        due("blank behind sea()", withSea(LONGEST).blank(), 0);
    }

    private static void promise03OneLetter() {
        due("blank of one letter", withPage("\u0001").blank(), 1);
    }

    private static void promise03AFullPageHad28() {
        due("blank of a full page", full().blank(), 28);
    }

    private static void promise03AFullPageThatRefusedHad28() {
        HomeNeedles x = full();
        x.letter('n');
        due("blank behind FULL", x.blank(), 28);
    }

    private static void promise03ThePageIsEmptyThen() {
        HomeNeedles x = full();
        x.blank();
        due("letters", x.count(7), 0);
        due("fault", x.fault(), 0);
        due("sea", x.sea(), STATE);
        due("blank again", x.blank(), 0);
    }

    private static void promise03NothingElseIsGone() {
        HomeNeedles x = busy();
        x.blank();
        write(x, "n0");
        goesOnAs("the page written again", x, busy());
    }

    // ---- 4 fault

    private static void promise04AnEmptyPageHasNone() {
        due("fault of a new object", new HomeNeedles().fault(), 0);
        due("fault behind sea()", withSea(LONGEST).fault(), 0);
    }

    private static void promise04EachLetterOfEachPlace() {
        for (int needles = 1; needles <= 4; needles++) {
            String text = textOf(needles);
            for (int at = 0; at <= text.length() && at < LETTERS; at++) {
                for (int code = 1; code <= 126; code++) {
                    boolean fits = lettersAt(needles, at).indexOf(code) >= 0;
                    String page = text.substring(0, at) + (char) code;
                    due("fault of " + page, withPage(page).fault(), fits ? at + 1 : at);
                }
            }
        }
    }

    private static void promise04DigitsEndWith5() {
        for (int at = 0; at < LONGEST.length(); at++) {
            if (Character.isDigit(LONGEST.charAt(at))) {
                due("0 at " + at, withPage(put(LONGEST, at, '0')).fault(), 26);
                due("5 at " + at, withPage(put(LONGEST, at, '5')).fault(), 26);
                due("6 at " + at, withPage(put(LONGEST, at, '6')).fault(), at);
                due("/ at " + at, withPage(put(LONGEST, at, '/')).fault(), at);
            }
        }
    }

    private static void promise04AFifthNeedleIsAFaultAtItsComma() {
        due("four needles", withPage(FOUR_NEEDLES).fault(), 15);
        due("a comma behind three", withPage("n00,s11,l22,").fault(), 12);
        due("a comma behind four", withPage(FOUR_NEEDLES + ",").fault(), 15);
        due("five needles", withPage(FOUR_NEEDLES + ",o44;00").fault(), 15);
    }

    private static void promise04AFifthIslandIsAFaultAtItsFirstDigit() {
        due("four islands", withPage("n00;0011223344").fault(), 14);
        due("half a fifth", withPage("n00;00112233445").fault(), 14);
        due("a fifth", withPage("n00;001122334455").fault(), 14);
        due("a fifth with four needles", withPage(LONGEST + "1").fault(), 26);
    }

    private static void promise04NoNeedleIsAFaultAtOnce() {
        due("no needle", withPage(";00").fault(), 0);
        due("a comma first", withPage(",n00;00").fault(), 0);
        due("digits first", withPage("00;00").fault(), 0);
    }

    private static void promise04NeighboursOfTheKindsAreFaults() {
        for (char letter : "mprukNSLTO".toCharArray()) {
            due("kind " + letter, withPage(letter + "00;00").fault(), 0);
            due("second kind " + letter, withPage("n00," + letter + "00;00").fault(), 4);
        }
    }

    private static void promise04TheFirstOfSeveralIsTold() {
        due("two faults", withPage("n0600;6").fault(), 2);
        due("a fault ahead of a sea", withPage("xn00;00").fault(), 0);
        due("a second ;", withPage("n00;00;x").fault(), 6);
    }

    private static void promise04AFullPageHasOne() {
        due("a sea and two letters", withPage(LONGEST + "00").fault(), 26);
        due("a short sea and more", withPage("n00;00112233440123450123450x").fault(), 14);
        due("28 kinds", withPage("nnnnnnnnnnnnnnnnnnnnnnnnnnnn").fault(), 1);
    }

    private static void promise04EachBeginningOfASeaHasNone() {
        for (int size = 0; size <= LONGEST.length(); size++) {
            due("the first " + size, withPage(LONGEST.substring(0, size)).fault(), size);
        }
    }

    private static void promise04ItOnlyTells() {
        onlyTells("fault()", Checks::busy, x -> x.fault());
        onlyTells("fault() of a full page", Checks::full, x -> x.fault());
    }

    // ---- 5 sea

    private static void promise05TheShortestText() {
        HomeNeedles x = withSea("n00;00");
        int[] counts = {1, 0, 0, 0, 0, 1, 0, 0, 1};
        for (int what = 0; what <= 8; what++) {
            due("count(" + what + ")", x.count(what), counts[what]);
        }
    }

    private static void promise05TheLongestText() {
        HomeNeedles x = withSea(LONGEST);
        int[] counts = {4, 35, 4, 0, 0, 1, 0, 0, 1};
        for (int what = 0; what <= 8; what++) {
            due("count(" + what + ")", x.count(what), counts[what]);
        }
    }

    private static void promise05OneToFourNeedles() {
        for (int needles = 1; needles <= 4; needles++) {
            due(needles + " needles", withPage(FOUR_NEEDLES.substring(0, 4 * needles - 1) + ";00").sea(), needles);
        }
    }

    private static void promise05NoNeedleAndFiveAreNone() {
        isNoSea("");
        isNoSea(";00");
        isNoSea(FOUR_NEEDLES + ",o44;00");
    }

    private static void promise05NoneToFourIslands() {
        String islands = "00055055";
        for (int many = 0; many <= 4; many++) {
            due(many + " islands", withSea("n22;33" + islands.substring(0, 2 * many)).count(2), many);
        }
    }

    private static void promise05FiveIslandsAreNone() {
        isNoSea("n22;330005505511");
        isNoSea("n22;33000550551");
    }

    private static void promise05EachBeginningOfATextButTheWholeOnes() {
        for (int needles = 1; needles <= 4; needles++) {
            String text = textOf(needles);
            for (int size = 0; size <= text.length(); size++) {
                int tail = size - 4 * needles;
                String start = text.substring(0, size);
                if (tail < 2 || tail % 2 == 1) {
                    isNoSea(start);
                } else {
                    due("sea " + start, withPage(start).sea(), needles);
                }
            }
        }
    }

    private static void promise05OneWrongLetterAnywhereIsNone() {
        for (int at = 0; at < LONGEST.length(); at++) {
            isNoSea(put(LONGEST, at, '6'));
            isNoSea(put(LONGEST, at, '~'));
        }
    }

    private static void promise05AFullPageIsNone() {
        isNoSea(LONGEST + "00");
        refused("sea() of a full page", Checks::full, x -> x.sea(), STATE);
    }

    private static void promise05ARefusedTextLeavesTheSeaThatIsThere() {
        refused("sea() of a beginning", Checks::busy, x -> x.sea(), STATE);
        refused("sea() of no letters", () -> withSea(LONGEST), x -> x.sea(), STATE);
    }

    private static void promise05ARefusedTextCanBeGoneOnWith() {
        HomeNeedles x = withPage("n00;0");
        due("a beginning", x.sea(), STATE);
        due("its last letter", x.letter('5'), 6);
        due("the whole", x.sea(), 1);
        due("where he is", x.count(1), 5);
        due("how often read", x.count(8), 1);
    }

    private static void promise05PlacesInTheCorners() {
        for (int place : new int[] {0, 5, 30, 35}) {
            HomeNeedles x = withSea("n" + digits(place) + ";" + digits(35 - place) + digits(place));
            due("home", x.needle(0, 1), place);
            due("bearer", x.count(1), 35 - place);
            for (int each = 0; each < PLACES; each++) {
                due("island(" + each + ")", x.island(each), each == place ? 1 : 0);
            }
        }
    }

    private static void promise05ThePageIsEmptyThen() {
        HomeNeedles x = withSea(LONGEST);
        due("letters", x.count(7), 0);
        due("blank", x.blank(), 0);
        due("sea again", x.sea(), STATE);
        due("it is still there", x.count(0), 4);
    }

    private static void promise05AnotherSeaLeavesNothingOfTheOneBefore() {
        HomeNeedles x = full();
        x.blank();
        readSea(x, "s20;1204");
        HomeNeedles fresh = withSea("s20;1204");
        for (int what = 0; what <= 7; what++) {
            due("count(" + what + ")", x.count(what), fresh.count(what));
        }
        for (int place = 0; place < PLACES; place++) {
            due("island(" + place + ")", x.island(place), fresh.island(place));
        }
        for (int what = 0; what <= 8; what++) {
            due("needle(0, " + what + ")", x.needle(0, what), fresh.needle(0, what));
        }
        due("restore", x.restore(), STATE);
        due("how often read", x.count(8), 2);
    }

    private static void promise05AnotherSeaWithFewerNeedles() {
        HomeNeedles x = withSea(LONGEST);
        readSea(x, "n00,n00;00");
        due("needle(1, 0)", x.needle(1, 0), 0);
        due("needle(2, 0)", x.needle(2, 0), UNKNOWN);
        due("needle(3, 0)", x.needle(3, 0), UNKNOWN);
    }

    private static void promise05AnotherSeaWithMoreNeedles() {
        HomeNeedles x = withSea("n11;22");
        readSea(x, LONGEST);
        int[] kinds = {0, 1, 2, 4};
        int[] homes = {5, 30, 35, 0};
        for (int i = 0; i < 4; i++) {
            due("kind " + i, x.needle(i, 0), kinds[i]);
            due("home " + i, x.needle(i, 1), homes[i]);
        }
    }

    private static void promise05HeMaySetOutAtAnIsland() {
        HomeNeedles x = withSea("n00;5555");
        due("where he is", x.count(1), 35);
        due("the island", x.island(35), 1);
    }

    private static void promise05AHomeMayBeAnIsland() {
        HomeNeedles x = withSea("n11;5511");
        due("home", x.needle(0, 1), 7);
        due("the island", x.island(7), 1);
    }

    // ---- texts

    private static void isNoSea(String text) {
        refused("sea() of " + text, () -> withPage(text), x -> x.sea(), STATE);
    }

    private static String put(String text, int at, char letter) {
        return text.substring(0, at) + letter + text.substring(at + 1);
    }

    /** A whole SEA with as many ISLANDS as go in. */
    private static String textOf(int needles) {
        return FOUR_NEEDLES.substring(0, 4 * needles - 1) + ";0123450123";
    }

    /** What may stand at a place of a text, behind so many NEEDLES. */
    private static String lettersAt(int needles, int at) {
        int semicolon = 4 * needles - 1;
        if (at == semicolon) {
            return needles == 4 ? ";" : ",;";
        }
        if (at > semicolon) {
            return at <= semicolon + 10 ? "012345" : "";
        }
        return at % 4 == 0 ? "nslto" : at % 4 == 3 ? ",;" : "012345";
    }
}
