import java.math.BigInteger;
import java.util.ArrayList;
import java.util.List;
import java.util.function.Consumer;

/** The boundaries of promises 18 to 21, the IMAGE, what is counted, the digest, and of 512 calls in all. */
public final class WholeBoundariesTest extends Checks {
    private static final String LONGEST = "n05,s50,l55,o00;5505500025";

    public static void main(String[] args) {
        runAll(WholeBoundariesTest.class);
    }

    // ---- 18 image

    private static void promise18StateWithoutASea() {
        refused("image() of a new object", HomeNeedles::new, x -> x.image(), STATE);
        refused("image() with a page alone", () -> withPage("n00;00"), x -> x.image(), STATE);
    }

    private static void promise18ARefusedOneIsNotKept() {
        HomeNeedles x = new HomeNeedles();
        x.image();
        readSea(x, "n00;33");
        due("restore", x.restore(), STATE);
    }

    private static void promise18NoStepsAtFirst() {
        due("image", withSea("n00;33").image(), 0);
    }

    private static void promise18StepsByWhichHeStaysAreToldToo() {
        HomeNeedles x = withSea("n00;00");
        x.step(0);
        x.step(4);
        x.step(8);
        due("image", x.image(), 3);
    }

    private static void promise18OnlyTheLatestIsKept() {
        HomeNeedles x = withSea("n00;33");
        due("first", x.image(), 0);
        x.step(8);
        due("second", x.image(), 1);
        x.step(8);
        due("restore", x.restore(), 1);
        due("place", x.count(1), 28);
        due("restore again", x.restore(), 1);
    }

    private static void promise18NothingElseChanges() {
        HomeNeedles x = withSea("n00,s11;33");
        x.step(5);
        x.see(0, 0, 8);
        write(x, "n");
        long before = x.digest();
        x.image();
        due("digest", x.digest(), before);
    }

    // ---- 19 restore

    private static void promise19StateIfNoneWasKept() {
        refused("restore() of a new object", HomeNeedles::new, x -> x.restore(), STATE);
        refused("restore() of a new sea", () -> withSea(LONGEST), x -> x.restore(), STATE);
    }

    private static void promise19StateIfThereIsAnotherSeaSince() {
        refused("restore() in another sea", WholeBoundariesTest::inAnotherSea, x -> x.restore(), STATE);
    }

    private static HomeNeedles inAnotherSea() {
        HomeNeedles x = busy();
        x.blank();
        readSea(x, "n41,s03,l25,o52;115530");
        return x;
    }

    private static void promise19AnotherSeaWithItsOwnImage() {
        HomeNeedles x = inAnotherSea();
        due("image", x.image(), 0);
        x.step(8);
        due("restore", x.restore(), 0);
        due("place", x.count(1), 7);
    }

    private static void promise19ATextThatIsRefusedIsNoOtherSea() {
        HomeNeedles x = busy();
        due("a text that is none", x.sea(), STATE);
        due("restore", x.restore(), 1);
        due("place", x.count(1), 14);
    }

    private static void promise19NoStepsYet() {
        HomeNeedles x = withSea("n00;33");
        x.image();
        x.step(8);
        due("restore", x.restore(), 0);
        due("steps", x.count(3), 0);
    }

    /** A change behind the IMAGE is gone with restore(), however often, and all is as it was. */
    private static void isGone(String what, Consumer<HomeNeedles> before, Consumer<HomeNeedles> change) {
        HomeNeedles x = withSea("n41,s03;115530");
        before.accept(x);
        HomeNeedles twin = withSea("n41,s03;115530");
        before.accept(twin);
        x.image();
        twin.image();
        for (int turn = 0; turn < 3; turn++) {
            change.accept(x);
            due(what + ": restore", x.restore(), twin.count(3));
            due(what + ": digest", x.digest(), twin.digest());
        }
        goesOnAs(what, x, twin);
    }

    private static void promise19WhereHeIsAndStepsAreKept() {
        isGone("a step", x -> { }, x -> x.step(8));
        isGone("a step behind steps", x -> { x.step(5); x.step(0); x.step(4); }, x -> x.step(7));
        isGone("a step by which he stays", x -> { }, x -> x.step(4));
        isGone("a follow", x -> x.step(5), x -> x.follow(0));
    }

    private static void promise19HomesAreKept() {
        isGone("swing(0)", x -> { }, x -> x.swing(0, 35));
        isGone("swing(1)", x -> x.swing(1, 22), x -> x.swing(1, 0));
    }

    private static void promise19IslandsAreKept() {
        isGone("an island up", x -> { }, x -> x.raise(0, true));
        isGone("an island sunk", x -> { }, x -> x.raise(35, false));
        isGone("all sunk", WholeBoundariesTest::raiseAll, x -> {
            for (int place = 0; place < PLACES; place++) {
                x.raise(place, false);
            }
        });
        isGone("all up", x -> x.raise(35, false), WholeBoundariesTest::raiseAll);
    }

    private static void raiseAll(HomeNeedles x) {
        for (int place = 0; place < PLACES; place++) {
            x.raise(place, true);
        }
    }

    private static void promise19WhatIsSeenIsKept() {
        isGone("one seen more", x -> x.see(0, 0, 8), x -> x.see(0, 14, 6));
        isGone("six seen behind none", x -> { }, WholeBoundariesTest::seeSix);
        isGone("six forgotten", WholeBoundariesTest::seeSix, x -> x.forget());
        isGone("six others seen", WholeBoundariesTest::seeSix, x -> {
            x.forget();
            for (int i = 0; i < SEEN; i++) {
                x.see(1 - i % 2, 35 - i, i);
            }
        });
    }

    private static void seeSix(HomeNeedles x) {
        for (int i = 0; i < SEEN; i++) {
            x.see(i % 2, i % 2 == 0 ? i : 35 - i, 8);
        }
    }

    private static void promise19SixThatAreKeptAreFull() {
        HomeNeedles x = withSea("n41,s03;115530");
        seeSix(x);
        x.image();
        x.forget();
        x.restore();
        due("see 7", x.see(0, 0, 8), FULL);
        due("forget", x.forget(), 6);
    }

    private static void promise19NoneThatAreKeptLeaveRoomForSix() {
        HomeNeedles x = withSea("n41,s03;115530");
        x.image();
        seeSix(x);
        x.restore();
        due("forget", x.forget(), 0);
        for (int i = 1; i <= SEEN; i++) {
            due("see " + i, x.see(0, 0, 8), i);
        }
    }

    private static void promise19ThePageIsNotKept() {
        HomeNeedles x = withSea("n41,s03;115530");
        write(x, "n1");
        x.image();
        write(x, "2;3");
        x.restore();
        due("letters", x.count(7), 5);
        due("the sea of it", x.letter('4'), 6);
        due("sea", x.sea(), 1);
        due("where he is", x.count(1), 22);
    }

    private static void promise19HowOftenASeaWasReadIsNotKept() {
        HomeNeedles x = withSea("n41;11");
        readSea(x, "n41;11");
        x.image();
        x.restore();
        due("how often", x.count(8), 2);
    }

    private static void promise19KindsStay() {
        HomeNeedles x = withSea("n41,s03,t22,o33;11");
        x.image();
        x.restore();
        int[] kinds = {0, 1, 3, 4};
        for (int i = 0; i < 4; i++) {
            due("kind " + i, x.needle(i, 0), kinds[i]);
        }
    }

    private static void promise19ItGoesOnFromThere() {
        HomeNeedles x = withSea("n55;00");
        x.follow(0);
        x.image();
        x.follow(0);
        x.restore();
        due("follow", x.follow(0), 14);
        due("steps", x.count(3), 2);
        due("led on", x.count(4), 2);
    }

    // ---- 20 count

    private static void promise20WhatsBelow0AndAbove8AreOutside() {
        for (int what : new int[] {-1, 9, 10, MIN, MAX}) {
            refused("count(" + what + ")", Checks::busy, x -> x.count(what), OUTSIDE);
            refused("count(" + what + ") of a new object", HomeNeedles::new, x -> x.count(what), OUTSIDE);
        }
    }

    private static void counts(String what, HomeNeedles x, int... want) {
        for (int i = 0; i <= 8; i++) {
            due("count(" + i + ") of " + what, x.count(i), want[i]);
        }
    }

    private static void promise20EachOfABusyOne() {
        // He went from (1, 1) to (2, 2), by the SLOW one to (3, 2), and stayed there.
        counts("a busy one", busy(), 4, 20, 3, 3, 2, 1, 3, 2, 1);
    }

    private static void promise20EachOfAFullOne() {
        counts("a full one", full(), 4, 20, 3, 3, 2, 1, 6, 28, 1);
    }

    private static void promise20ItOnlyTells() {
        for (int what = 0; what <= 8; what++) {
            int each = what;
            onlyTells("count(" + what + ")", Checks::full, x -> x.count(each));
        }
    }

    private static void promise20ThePlaceInTheCorners() {
        for (int place : new int[] {0, 5, 30, 35}) {
            due("place", withSea("n22;" + digits(place)).count(1), place);
        }
    }

    private static void promise20ThePlaceIs0WithoutASea() {
        due("place", new HomeNeedles().count(1), 0);
        due("place with a page alone", withPage("n00;35").count(1), 0);
    }

    private static void promise20NoneToAllIslands() {
        HomeNeedles x = withSea("n22;33");
        due("none", x.count(2), 0);
        raiseAll(x);
        due("all", x.count(2), 36);
        raiseAll(x);
        due("all again", x.count(2), 36);
    }

    private static void promise20OnlyStepsAreSteps() {
        HomeNeedles x = withSea("n55;00");
        x.storms(60, 1, 0);
        x.needle(0, 3);
        x.needle(0, 4);
        x.homing();
        x.swing(0, 34);
        x.digest();
        due("none", x.count(3), 0);
        x.step(9);
        x.follow(1);
        due("none by those refused", x.count(3), 0);
        x.step(8);
        x.follow(0);
        due("two", x.count(3), 2);
        due("two led on", x.count(4), 2);
    }

    private static void promise20StepsByWhichHeStaysLedNotOn() {
        HomeNeedles x = withSea("s55;0001");
        x.step(0);
        x.step(5);
        x.step(4);
        x.follow(0);
        due("steps", x.count(3), 4);
        due("led on", x.count(4), 0);
        x.step(7);
        due("steps then", x.count(3), 5);
        due("led on then", x.count(4), 1);
    }

    private static void promise20NoneToFourPointDown() {
        due("none", withSea("n00,s00,l00,t00;33").count(5), 0);
        due("one, the last", withSea("n00,s00,l00,t33;33").count(5), 1);
        due("all", withSea("o33,s33,l33,t33;33").count(5), 4);
        due("without a sea", new HomeNeedles().count(5), 0);
    }

    private static void promise20HowOftenASeaWasRead() {
        HomeNeedles x = new HomeNeedles();
        x.sea();
        due("none by one refused", x.count(8), 0);
        for (int i = 1; i <= 50; i++) {
            readSea(x, "n22;33");
            due("read", x.count(8), i);
        }
        x.sea();
        due("no more by one refused", x.count(8), 50);
    }

    private static void promise20StepsThroughAll512Calls() {
        HomeNeedles x = withSea("n22;00");
        int made = 0;
        // Eight calls are made by now, and one more tells the sum.
        for (int call = 9; call <= 511; call++) {
            made++;
            due("step " + made, x.step(made % 2 == 1 ? 8 : 0), made % 2 == 1 ? 7 : 0);
        }
        due("steps", x.count(3), made);
    }

    // ---- 21 digest

    private static void digest(String what, HomeNeedles x, String page) {
        due("digest of " + what, x.digest(), sum(x, page));
    }

    private static void promise21WithoutASea() {
        digest("a new object", new HomeNeedles(), "");
        digest("one letter", withPage("\u0001"), "\u0001");
        digest("a full page", withPage("~1234567890123456789012345~\u0001"), "~1234567890123456789012345~\u0001");
    }

    private static void promise21OneToFourNeedles() {
        digest("one", withSea("n22;33"), "");
        digest("two", withSea("s22,t05;33"), "");
        digest("three", withSea("s22,t05,o40;33"), "");
        digest("four", withSea(LONGEST), "");
    }

    private static void promise21ABusyAndAFullOne() {
        digest("a busy one", busy(), "n0");
        digest("a full one", full(), "n00;00~1111111111111111;1234");
    }

    private static void promise21WithNoneInIt() {
        HomeNeedles x = withSea("n55;0055");
        x.see(0, 0, 0);
        due("few", x.needle(0, 5), NONE);
        due("the least home", x.needle(0, 7), NONE);
        due("look", x.needle(0, 8), NONE);
        digest("one with NONE", x, "");
    }

    private static void promise21IslandsNoneAndAll() {
        HomeNeedles x = withSea("n22;33");
        raiseAll(x);
        digest("all islands", x, "");
    }

    private static void promise21LookOfNeedle0Alone() {
        HomeNeedles x = withSea("l22,n22;33");
        x.see(1, 0, 4);
        due("look of 0", x.needle(0, 8), 2);
        due("look of 1", x.needle(1, 8), 0);
        digest("looks that differ", x, "");
    }

    private static void promise21ItOnlyTells() {
        onlyTells("digest()", Checks::busy, x -> x.digest());
        onlyTells("digest() of a full one", Checks::full, x -> x.digest());
        onlyTells("digest() of a new object", HomeNeedles::new, x -> x.digest());
    }

    /** As the document tells it, with numbers that do not wrap around until the end. */
    private static long sum(HomeNeedles x, String page) {
        List<Integer> numbers = new ArrayList<>();
        for (int i = 0; i < x.count(0); i++) {
            for (int what = 0; what <= 7; what++) {
                numbers.add(x.needle(i, what));
            }
            numbers.add(x.points(i, 0));
            numbers.add(x.points(i, 14));
            numbers.add(x.points(i, 35));
        }
        if (x.count(0) > 0) {
            numbers.add(x.needle(0, 8));
            for (int place = 0; place < PLACES; place++) {
                numbers.add(x.island(place));
            }
            numbers.add(x.homing());
        }
        for (char letter : page.toCharArray()) {
            numbers.add((int) letter);
        }
        for (int what = 0; what <= 8; what++) {
            numbers.add(x.count(what));
        }
        BigInteger h = BigInteger.valueOf(1091);
        for (int number : numbers) {
            h = h.multiply(BigInteger.valueOf(31)).add(BigInteger.valueOf(number));
        }
        return h.longValue();
    }
}
