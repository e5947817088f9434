import java.math.BigInteger;

/** The boundaries of promises 15 to 17: what is SEEN, and STORMS. */
public final class SeenBoundariesTest extends Checks {
    private static final int[] NO_NEEDLES = {-1, 4, 5, MIN, MAX};
    private static final int[] NO_PLACES = {-1, 36, 64, -64, MIN, MAX};
    private static final int[] NO_DIRECTIONS = {-1, 9, 13, MIN, MAX};

    public static void main(String[] args) {
        runAll(SeenBoundariesTest.class);
    }

    // ---- 15 see

    private static void promise15The6thIsTheLast() {
        HomeNeedles x = withSea("n22;33");
        for (int i = 1; i <= SEEN; i++) {
            due("see " + i, x.see(0, 0, 8), i);
            due("seen", x.count(6), i);
        }
    }

    private static void promise15The7thIsFull() {
        refused("see 7", Checks::full, x -> x.see(0, 0, 8), FULL);
        refused("see 7 of another", Checks::full, x -> x.see(3, 35, 4), FULL);
    }

    private static void promise15SixOfAllNeedlesTogether() {
        HomeNeedles x = withSea("n22,n22,n22,n22;33");
        for (int i = 0; i < SEEN; i++) {
            due("see " + i, x.see(i % 4, 0, 8), i + 1);
        }
        for (int number = 0; number < 4; number++) {
            due("see of " + number + " then", x.see(number, 0, 8), FULL);
        }
        due("seen", x.count(6), 6);
    }

    private static void promise15FullStaysFull() {
        HomeNeedles x = full();
        for (int i = 0; i < 3; i++) {
            due("see of a full one", x.see(0, 0, 8), FULL);
        }
        due("seen", x.count(6), 6);
    }

    private static void promise15PlacesEndWith35() {
        HomeNeedles x = withSea("n22,n22;33");
        due("see(0, 0, 8)", x.see(0, 0, 8), 1);
        due("homes", x.needle(0, 6), 25);
        due("see(1, 35, 0)", x.see(1, 35, 0), 2);
        due("homes of 1", x.needle(1, 6), 25);
        due("the least of 1", x.needle(1, 7), 0);
        for (int place : NO_PLACES) {
            refused("see(0, " + place + ", 0)", Checks::busy, y -> y.see(0, place, 0), UNKNOWN);
        }
    }

    private static void promise15EachDirectionFrom0To8IsTaken() {
        // From (2, 2) there are two rows and columns before it, and three behind it.
        int[] homes = {4, 2, 6, 2, 1, 3, 6, 3, 9};
        for (int direction = 0; direction <= 8; direction++) {
            HomeNeedles x = withSea("n22;33");
            due("see(0, 14, " + direction + ")", x.see(0, 14, direction), 1);
            due("homes by " + direction, x.needle(0, 6), homes[direction]);
        }
    }

    private static void promise15DirectionsBelow0AndAbove8AreOutside() {
        for (int direction : NO_DIRECTIONS) {
            refused("see(0, 0, " + direction + ")", Checks::busy, x -> x.see(0, 0, direction), OUTSIDE);
        }
    }

    private static void promise15NumbersOfNoNeedleAreUnknown() {
        for (int number : NO_NEEDLES) {
            refused("see(" + number + ", 0, 0)", Checks::busy, x -> x.see(number, 0, 0), UNKNOWN);
        }
        refused("see(1, 0, 0) of one needle", () -> withSea("n22;33"), x -> x.see(1, 0, 0), UNKNOWN);
    }

    private static void promise15UnknownIsAheadOfOutside() {
        refused("see(4, 0, 9)", Checks::busy, x -> x.see(4, 0, 9), UNKNOWN);
        refused("see(0, 36, 9)", Checks::busy, x -> x.see(0, 36, 9), UNKNOWN);
        refused("see(-1, -1, -1)", Checks::busy, x -> x.see(-1, -1, -1), UNKNOWN);
        refused("see(0, 0, 9) of a new object", HomeNeedles::new, x -> x.see(0, 0, 9), UNKNOWN);
    }

    private static void promise15UnknownIsAheadOfFull() {
        refused("see(4, 0, 0) of a full one", Checks::full, x -> x.see(4, 0, 0), UNKNOWN);
        refused("see(0, 36, 0) of a full one", Checks::full, x -> x.see(0, 36, 0), UNKNOWN);
        refused("see(0, -1, 9) of a full one", Checks::full, x -> x.see(0, -1, 9), UNKNOWN);
    }

    private static void promise15OutsideIsAheadOfFull() {
        refused("see(0, 0, 9) of a full one", Checks::full, x -> x.see(0, 0, 9), OUTSIDE);
        refused("see(0, 0, -1) of a full one", Checks::full, x -> x.see(0, 0, -1), OUTSIDE);
    }

    private static void promise15WhatCannotBeIsSeenToo() {
        HomeNeedles x = withSea("n22;33");
        due("off the sea", x.see(0, 0, 0), 1);
        due("against it", x.see(0, 14, 4), 2);
        due("homes", x.needle(0, 6), 0);
    }

    private static void promise15ItIsSeenOfThatNeedleAlone() {
        HomeNeedles x = withSea("n22,n22,n22,n22;33");
        x.see(3, 28, 8);
        for (int number = 0; number < 4; number++) {
            due("homes of " + number, x.needle(number, 6), number == 3 ? 1 : 36);
        }
    }

    private static void promise15ItIsNoStepAndNoSwing() {
        HomeNeedles x = withSea("n22;33");
        x.see(0, 28, 8);
        due("home", x.needle(0, 1), 14);
        due("where he is", x.count(1), 21);
        due("steps", x.count(3), 0);
        due("points", x.points(0, 28), 0);
    }

    // ---- 16 forget

    private static void promise16NothingWas() {
        due("forget of a new object", new HomeNeedles().forget(), 0);
        due("forget of a new sea", withSea("n22;33").forget(), 0);
    }

    private static void promise16OneAndSixWere() {
        HomeNeedles x = withSea("n22;33");
        x.see(0, 0, 8);
        due("forget of one", x.forget(), 1);
        due("forget of six", full().forget(), 6);
    }

    private static void promise16NothingIsThen() {
        HomeNeedles x = full();
        x.forget();
        due("seen", x.count(6), 0);
        due("forget again", x.forget(), 0);
        for (int number = 0; number < 4; number++) {
            due("homes of " + number, x.needle(number, 6), 36);
            due("the least of " + number, x.needle(number, 7), 0);
        }
    }

    private static void promise16SixGoInAgain() {
        HomeNeedles x = full();
        x.forget();
        for (int i = 1; i <= SEEN; i++) {
            due("see " + i, x.see(0, 0, 8), i);
        }
        due("see 7", x.see(0, 0, 8), FULL);
        due("homes", x.needle(0, 6), 25);
    }

    private static void promise16NothingElseIsGone() {
        HomeNeedles x = busy();
        x.forget();
        x.see(0, 0, 8);
        x.see(1, 35, 8);
        x.see(2, 14, 5);
        goesOnAs("seen again", x, busy());
    }

    // ---- 17 storms

    private static void promise17StepsBelow1AndAbove60AreOutside() {
        for (int steps : new int[] {0, 61, -1, 62, MIN, MAX}) {
            for (int what = 0; what <= 2; what++) {
                int each = what;
                refused("storms(" + steps + ", 0, " + what + ")", Checks::busy, x -> x.storms(steps, 0, each), OUTSIDE);
            }
        }
    }

    private static void promise17SeedsBelow0AreOutside() {
        for (int seed : new int[] {-1, -2, MIN, MIN + 1}) {
            refused("storms(1, " + seed + ", 0)", Checks::busy, x -> x.storms(1, seed, 0), OUTSIDE);
        }
    }

    private static void promise17WhatsBelow0AndAbove2AreOutside() {
        for (int what : new int[] {-1, 3, 4, MIN, MAX}) {
            refused("storms(1, 0, " + what + ")", Checks::busy, x -> x.storms(1, 0, what), OUTSIDE);
        }
    }

    private static void promise17OutsideIsAheadOfState() {
        refused("storms(0, 0, 0) of a new object", HomeNeedles::new, x -> x.storms(0, 0, 0), OUTSIDE);
        refused("storms(61, 0, 0) of a new object", HomeNeedles::new, x -> x.storms(61, 0, 0), OUTSIDE);
        refused("storms(1, -1, 0) of a new object", HomeNeedles::new, x -> x.storms(1, -1, 0), OUTSIDE);
        refused("storms(1, 0, -1) of a new object", HomeNeedles::new, x -> x.storms(1, 0, -1), OUTSIDE);
        refused("storms(1, 0, 3) of a new object", HomeNeedles::new, x -> x.storms(1, 0, 3), OUTSIDE);
    }

    private static void promise17StateWithoutASea() {
        for (int what = 0; what <= 2; what++) {
            int each = what;
            refused("storms(1, 0, " + what + ") of a new object", HomeNeedles::new, x -> x.storms(1, 0, each), STATE);
            refused("storms(60, 7, " + what + ") of a new one", HomeNeedles::new, x -> x.storms(60, 7, each), STATE);
        }
    }

    private static void promise17ItOnlyTells() {
        for (int what = 0; what <= 2; what++) {
            int each = what;
            onlyTells("storms(60, 661, " + what + ")", Checks::busy, x -> x.storms(60, 661, each));
        }
    }

    private static void promise17TheLeastSeed() {
        HomeNeedles x = withSea("n22;33");
        due("seed", x.storms(1, 0, 2), 12345);
        due("place by the draw 0", x.storms(1, 0, 0), 14);
        due("down", x.storms(1, 0, 1), 1);
    }

    private static void promise17TheLargestSeed() {
        HomeNeedles x = withSea("n44;33");
        due("seed", x.storms(1, MAX, 2), 1043980748);
        due("place by the draw 8", x.storms(1, MAX, 0), 28);
        due("down", x.storms(1, MAX, 1), 1);
    }

    private static void promise17ASeedThatComesTo0() {
        HomeNeedles x = withSea("n22;33");
        due("seed", x.storms(1, 2088216195, 2), 0);
        due("place by the draw 0", x.storms(1, 2088216195, 0), 14);
        due("seed behind it", x.storms(2, 2088216195, 2), 12345);
    }

    private static void promise17ASeedThatComesToTheLargest() {
        HomeNeedles x = withSea("n22;33");
        due("seed", x.storms(1, 230538014, 2), MAX);
        due("place by the draw 7", x.storms(1, 230538014, 0), 27);
        due("seed behind it", x.storms(2, 230538014, 2), 1043980748);
        due("place behind it", x.storms(2, 230538014, 0), 34);
    }

    private static void promise17ADrawIsRoundedDown() {
        // Seeds that come to 65535 and 65536, to 9 times 65536 less 1, and to 9 times 65536.
        HomeNeedles x = withSea("n22;33");
        due("draw 0 by 65535", x.storms(1, 2032319262, 0), 14);
        due("draw 1 by 65536", x.storms(1, 1742513795, 0), 15);
        due("draw 8 by 589823", x.storms(1, 1414183710, 0), 28);
        due("draw 9, that is 0, by 589824", x.storms(1, 1124378243, 0), 14);
    }

    private static void promise17From1StepTo60() {
        String[] seas = {"n22;33", "n00,s55,l05,t50;0001", "o11,o12,n21,n21;22333113", "t02,s20;55445452"};
        int[] seeds = {0, 1, 661, 65536, 1000000007, MAX};
        for (String text : seas) {
            for (int seed : seeds) {
                HomeNeedles x = withSea(text);
                for (int steps = 1; steps <= 60; steps++) {
                    int[] want = storm(text, steps, seed);
                    for (int what = 0; what <= 2; what++) {
                        due("storms(" + steps + ", " + seed + ", " + what + ") of " + text,
                                x.storms(steps, seed, what), want[what]);
                    }
                }
            }
        }
    }

    private static void promise17DownWhereHeStays() {
        // The first draw by the SEED 0 is 0, to the northwest.
        due("off the sea", withSea("n00;00").storms(1, 0, 1), 1);
        due("at an island", withSea("n33;3322").storms(1, 0, 1), 1);
        due("it is not counted ahead of a step", withSea("n33;33").storms(1, 0, 1), 0);
    }

    private static void promise17TwoThatPointDownAreTwice() {
        due("one", withSea("n22,n33;33").storms(1, 0, 1), 1);
        due("two", withSea("n22,s22;33").storms(1, 0, 1), 2);
        due("four", withSea("n22,s22,l22,t22;33").storms(1, 0, 1), 4);
        due("none", withSea("n11,s11,l11,t11;33").storms(1, 0, 1), 0);
    }

    private static void promise17TheMostThatPointDown() {
        HomeNeedles x = withSea("n22,s22,l22,o22;22");
        for (int place = 0; place < PLACES; place++) {
            x.raise(place, true);
        }
        due("four times 60", x.storms(60, 5, 1), 240);
        due("he stays", x.storms(60, 5, 0), 14);
    }

    private static void promise17HeSetsOutFromAnIsland() {
        due("from an island", withSea("n22;3333").storms(1, 0, 0), 14);
    }

    /** As the document tells it, with numbers that cannot wrap around: place, how often down, seed. */
    private static int[] storm(String text, int steps, int from) {
        String[] parts = text.split(";");
        String islands = parts[1].substring(2);
        BigInteger seed = BigInteger.valueOf(from);
        int row = parts[1].charAt(0) - '0';
        int column = parts[1].charAt(1) - '0';
        int downs = 0;
        for (int i = 0; i < steps; i++) {
            seed = seed.multiply(BigInteger.valueOf(1103515245)).add(BigInteger.valueOf(12345))
                    .mod(BigInteger.TWO.pow(31));
            int draw = seed.divide(BigInteger.valueOf(65536)).mod(BigInteger.valueOf(9)).intValue();
            int nextRow = row + draw / 3 - 1;
            int nextColumn = column + draw % 3 - 1;
            boolean off = nextRow < 0 || nextRow > 5 || nextColumn < 0 || nextColumn > 5;
            if (!off && !tells(islands, nextRow, nextColumn)) {
                row = nextRow;
                column = nextColumn;
            }
            for (String needle : parts[0].split(",")) {
                downs += needle.endsWith("" + row + column) ? 1 : 0;
            }
        }
        return new int[] {6 * row + column, downs, seed.intValueExact()};
    }

    private static boolean tells(String places, int row, int column) {
        for (int at = 0; at < places.length(); at += 2) {
            if (places.startsWith("" + row + column, at)) {
                return true;
            }
        }
        return false;
    }
}
