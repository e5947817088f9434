/** The boundaries of promises 10 to 14: ISLANDS, STEPS, and which NEEDLES bring him HOME. */
public final class StepBoundariesTest extends Checks {
    /** Numbers of no PLACE; some of them are one in their last five or six bits. */
    private static final int[] NO_PLACES = {-1, 36, 37, 63, 64, 72, 100, -28, -32, -64, MIN, MAX};
    private static final int[] NO_NEEDLES = {-1, 4, 5, MIN, MAX};
    private static final int[] NO_DIRECTIONS = {-1, 9, 10, 13, MIN, MAX};

    /** The SEA with a border of places that are none. */
    private static final int[][] CHART = {
        {-9, -9, -9, -9, -9, -9, -9, -9},
        {-9, 0, 1, 2, 3, 4, 5, -9},
        {-9, 6, 7, 8, 9, 10, 11, -9},
        {-9, 12, 13, 14, 15, 16, 17, -9},
        {-9, 18, 19, 20, 21, 22, 23, -9},
        {-9, 24, 25, 26, 27, 28, 29, -9},
        {-9, 30, 31, 32, 33, 34, 35, -9},
        {-9, -9, -9, -9, -9, -9, -9, -9},
    };

    public static void main(String[] args) {
        runAll(StepBoundariesTest.class);
    }

    // ---- 10 island

    private static void promise10PlacesEndWith35() {
        HomeNeedles x = withSea("n22;330055");
        due("island(0)", x.island(0), 1);
        due("island(1)", x.island(1), 0);
        due("island(34)", x.island(34), 0);
        due("island(35)", x.island(35), 1);
    }

    private static void promise10OtherNumbersAreUnknown() {
        for (int place : NO_PLACES) {
            refused("island(" + place + ")", Checks::busy, x -> x.island(place), UNKNOWN);
        }
    }

    private static void promise10WithoutASeaEachNumberIsUnknown() {
        for (int place : new int[] {-1, 0, 35, 36}) {
            refused("island(" + place + ") of a new object", HomeNeedles::new, x -> x.island(place), UNKNOWN);
        }
    }

    private static void promise10NoneAndAll() {
        HomeNeedles x = withSea("n22;33");
        for (int place = 0; place < PLACES; place++) {
            due("island(" + place + ") of none", x.island(place), 0);
        }
        for (int place = 0; place < PLACES; place++) {
            x.raise(place, true);
        }
        for (int place = 0; place < PLACES; place++) {
            due("island(" + place + ") of all", x.island(place), 1);
        }
    }

    private static void promise10ItOnlyTells() {
        onlyTells("island(8)", Checks::busy, x -> x.island(8));
        onlyTells("island(9)", Checks::busy, x -> x.island(9));
    }

    // ---- 11 raise

    private static void promise11EachPlaceAlone() {
        for (int place = 0; place < PLACES; place++) {
            HomeNeedles x = withSea("n22;33");
            due("raise(" + place + ", true)", x.raise(place, true), 0);
            for (int each = 0; each < PLACES; each++) {
                due("island(" + each + ") with " + place + " up", x.island(each), each == place ? 1 : 0);
            }
            due("islands", x.count(2), 1);
            due("raise(" + place + ", false)", x.raise(place, false), 1);
            due("islands then", x.count(2), 0);
        }
    }

    private static void promise11OtherNumbersAreUnknown() {
        for (int place : NO_PLACES) {
            refused("raise(" + place + ", true)", Checks::busy, x -> x.raise(place, true), UNKNOWN);
            refused("raise(" + place + ", false)", Checks::busy, x -> x.raise(place, false), UNKNOWN);
        }
    }

    private static void promise11WithoutASeaEachNumberIsUnknown() {
        for (int place : new int[] {-1, 0, 35, 36}) {
            refused("raise(" + place + ", true) of a new object", HomeNeedles::new, x -> x.raise(place, true), UNKNOWN);
            refused("raise(" + place + ", false) of a new one", HomeNeedles::new, x -> x.raise(place, false), UNKNOWN);
        }
    }

    private static void promise11UpWhereThereIsOne() {
        HomeNeedles x = busy();
        due("up again", x.raise(8, true), 1);
        goesOnAs("an island up again", x, busy());
    }

    private static void promise11SunkWhereThereIsNone() {
        HomeNeedles x = busy();
        due("sunk again", x.raise(9, false), 0);
        goesOnAs("none sunk again", x, busy());
    }

    private static void promise11UpAndSunkIsAsBefore() {
        HomeNeedles x = busy();
        due("up", x.raise(29, true), 0);
        due("sunk", x.raise(29, false), 1);
        goesOnAs("up and sunk", x, busy());
    }

    private static void promise11MoreThanFour() {
        HomeNeedles x = withSea("n22;3300010203");
        due("a fifth", x.raise(4, true), 0);
        due("islands", x.count(2), 5);
        due("the fifth is there", x.island(4), 1);
    }

    private static void promise11All36AndNone() {
        HomeNeedles x = withSea("n22;33");
        for (int place = 0; place < PLACES; place++) {
            due("up at " + place, x.raise(place, true), 0);
        }
        due("all", x.count(2), 36);
        for (int place = 0; place < PLACES; place++) {
            due("sinks at " + place, x.raise(place, false), 1);
            due("left", x.count(2), 35 - place);
        }
    }

    private static void promise11WhereHeIs() {
        HomeNeedles x = withSea("n22;33");
        due("up where he is", x.raise(21, true), 0);
        due("he is there", x.count(1), 21);
        due("he goes on", x.step(0), 14);
        due("and not back", x.step(8), 14);
        x.raise(21, false);
        due("but when it is sunk", x.step(8), 21);
    }

    // ---- 12 step

    private static void promise12EachDirectionFromEachPlace() {
        for (int place = 0; place < PLACES; place++) {
            for (int direction = 0; direction <= 8; direction++) {
                HomeNeedles x = withSea("n00;" + digits(place));
                int next = CHART[place / 6 + direction / 3][place % 6 + direction % 3];
                int want = next == -9 ? place : next;
                due("step(" + direction + ") from " + place, x.step(direction), want);
                due("where he is", x.count(1), want);
                due("steps", x.count(3), 1);
                due("of these led on", x.count(4), want == place ? 0 : 1);
            }
        }
    }

    private static void promise12NoWayAroundTheEdge() {
        due("east of 5 isn't 6", withSea("n00;05").step(5), 5);
        due("west of 6 isn't 5", withSea("n00;10").step(3), 6);
        due("north of 0 isn't 30", withSea("n00;00").step(1), 0);
        due("south of 30 isn't 0", withSea("n00;50").step(7), 30);
        due("southeast of 35 isn't 0", withSea("n00;55").step(8), 35);
        due("northwest of 0 isn't 35", withSea("n00;00").step(0), 0);
        due("southeast of 29 isn't 36", withSea("n00;45").step(8), 29);
        due("northwest of 6 isn't off by one", withSea("n00;10").step(0), 6);
    }

    private static void promise12AnIslandInEachDirection() {
        for (int direction = 0; direction <= 8; direction++) {
            HomeNeedles x = withSea("n00;22" + digits(CHART[2 + direction / 3][2 + direction % 3]));
            for (int each = 0; each <= 8; each++) {
                HomeNeedles y = withSea("n00;22" + digits(CHART[2 + direction / 3][2 + direction % 3]));
                int want = each == direction ? 14 : CHART[2 + each / 3][2 + each % 3];
                due("step(" + each + ") with an island by " + direction, y.step(each), want);
            }
            due("he stays", x.step(direction), 14);
            due("it is a step", x.count(3), 1);
            due("that led not on", x.count(4), 0);
        }
    }

    private static void promise12ClosedInByIslands() {
        HomeNeedles x = withSea("n00;22");
        for (int place : new int[] {7, 8, 9, 13, 15, 19, 20, 21}) {
            x.raise(place, true);
        }
        for (int direction = 0; direction <= 8; direction++) {
            due("step(" + direction + ")", x.step(direction), 14);
        }
        due("steps", x.count(3), 9);
        due("led on", x.count(4), 0);
    }

    private static void promise12BetweenTwoIslandsHeGoes() {
        due("past corners of islands", withSea("n00;002301").step(8), 7);
        due("past two of them", withSea("n00;000110").step(8), 7);
    }

    private static void promise12FromAnIsland() {
        HomeNeedles x = withSea("n00;0000");
        due("down", x.step(4), 0);
        due("off the sea", x.step(0), 0);
        due("led on", x.count(4), 0);
        due("on", x.step(8), 7);
        due("not back", x.step(0), 7);
    }

    private static void promise12DownIsAStepThatLeadsNotOn() {
        HomeNeedles x = withSea("n00;22");
        due("down", x.step(4), 14);
        due("steps", x.count(3), 1);
        due("led on", x.count(4), 0);
    }

    private static void promise12DirectionsBelow0AndAbove8AreOutside() {
        for (int direction : NO_DIRECTIONS) {
            refused("step(" + direction + ")", Checks::busy, x -> x.step(direction), OUTSIDE);
        }
    }

    private static void promise12OutsideIsAheadOfState() {
        for (int direction : NO_DIRECTIONS) {
            refused("step(" + direction + ") of a new object", HomeNeedles::new, x -> x.step(direction), OUTSIDE);
        }
    }

    private static void promise12StateWithoutASea() {
        for (int direction = 0; direction <= 8; direction++) {
            int each = direction;
            refused("step(" + direction + ") of a new object", HomeNeedles::new, x -> x.step(each), STATE);
        }
    }

    // ---- 13 follow

    private static void promise13NumbersOfNoNeedleAreUnknown() {
        for (int number : NO_NEEDLES) {
            refused("follow(" + number + ")", Checks::busy, x -> x.follow(number), UNKNOWN);
        }
        refused("follow(1) of one needle", () -> withSea("n00;33"), x -> x.follow(1), UNKNOWN);
    }

    private static void promise13WithoutASeaEachNumberIsUnknown() {
        for (int number : new int[] {-1, 0, 3, 4}) {
            refused("follow(" + number + ") of a new object", HomeNeedles::new, x -> x.follow(number), UNKNOWN);
        }
    }

    private static void promise13TheFirstAndTheLastNeedle() {
        due("follow(0)", withSea("n00,n05,n50,n55;33").follow(0), 14);
        due("follow(3)", withSea("n00,n05,n50,n55;33").follow(3), 28);
    }

    private static void followedStays(String text, int place) {
        HomeNeedles x = withSea(text);
        due("follow(0) of " + text, x.follow(0), place);
        due("steps of " + text, x.count(3), 1);
        due("led on of " + text, x.count(4), 0);
    }

    private static void promise13DownAtHomeIsAStepThatLeadsNotOn() {
        for (String kind : new String[] {"n", "s", "l", "t", "o"}) {
            followedStays(kind + "22;22", 14);
            followedStays(kind + "22;2222", 14);
        }
    }

    private static void promise13OffTheSeaHeStays() {
        followedStays("s55;00", 0);
        followedStays("s00;55", 35);
        followedStays("s22;02", 2);
        followedStays("t22;05", 5);
        followedStays("t22;50", 30);
        followedStays("t00;05", 5);
    }

    private static void promise13AtAnIslandHeStays() {
        followedStays("n22;1122", 7);
        followedStays("l22;1112", 7);
        followedStays("o22;1121", 7);
    }

    private static void promise13OneStepAlone() {
        HomeNeedles x = withSea("n55;00");
        due("one", x.follow(0), 7);
        due("steps", x.count(3), 1);
        due("led on", x.count(4), 1);
    }

    // ---- 14 homing

    private static void homing(String text, int want) {
        due("homing of " + text, withSea(text).homing(), want);
    }

    private static void promise14StateWithoutASea() {
        refused("homing() of a new object", HomeNeedles::new, x -> x.homing(), STATE);
        refused("homing() with a page alone", () -> withPage("n00;00"), x -> x.homing(), STATE);
    }

    private static void promise14NoneAndAll() {
        homing("s22,s22,t22,t22;00", 0);
        homing("n22,l22,o22,n55;00", 15);
        homing("n22;00", 1);
        homing("s22;00", 0);
    }

    private static void promise14EachBitAlone() {
        homing("n22,s22,s22,s22;00", 1);
        homing("s22,n22,s22,s22;00", 2);
        homing("s22,s22,n22,s22;00", 4);
        homing("s22,s22,s22,n22;00", 8);
    }

    private static void promise14AtHomeEachKindDoes() {
        homing("n00,s00,l00,t00;00", 15);
        homing("o35,s35;35", 3);
        homing("n22,s22,l22,t22;2222", 15);
    }

    private static void promise14AnIslandAtHomeKeepsHimAway() {
        homing("n22,l22,o22;0022", 0);
        homing("n22;1122", 0);
    }

    private static void promise14AnIslandOnTheWayOfOne() {
        homing("n33,l33,o33;0011", 6);
        homing("n33,l33,o33;0001", 5);
        homing("n33,l33,o33;0010", 3);
    }

    private static void promise14FewIsNotHoming() {
        HomeNeedles x = withSea("n33;0011");
        due("few", x.needle(0, 5), 4);
        due("homing", x.homing(), 0);
    }

    private static void promise14TheLongestWayHome() {
        homing("l55,o55;00", 3);
        homing("l00,o00;55", 3);
    }

    private static void promise14ItOnlyTells() {
        onlyTells("homing()", Checks::busy, x -> x.homing());
    }
}
