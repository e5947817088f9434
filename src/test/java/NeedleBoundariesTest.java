/** The boundaries of promises 6 to 9: of a NEEDLE, its KINDS, where it points, another HOME. */
public final class NeedleBoundariesTest extends Checks {
    private static final String KINDS = "nslto";
    private static final String FOUR_NEEDLES = "n00,s11,l22,t33";
    private static final int[] FAR = {-1, 4, 5, 36, MIN, MAX};

    /** By KIND, then by where its HOME is: northwest, north, northeast, west, here, east, and so on. */
    private static final int[][] POINTING = {
        {0, 1, 2, 3, 4, 5, 6, 7, 8},
        {8, 7, 6, 5, 4, 3, 2, 1, 0},
        {3, 1, 5, 3, 4, 5, 3, 7, 5},
        {2, 5, 8, 1, 4, 7, 0, 3, 6},
        {1, 1, 1, 3, 4, 5, 7, 7, 7},
    };

    public static void main(String[] args) {
        runAll(NeedleBoundariesTest.class);
    }

    // ---- 6 needle: which, and what

    private static void promise06TheLastNeedleIsKnownAndTheNextIsNot() {
        for (int needles = 1; needles <= 4; needles++) {
            HomeNeedles x = withSea(FOUR_NEEDLES.substring(0, 4 * needles - 1) + ";00");
            due("the first of " + needles, x.needle(0, 0), 0);
            due("the last of " + needles, x.needle(needles - 1, 0), needles - 1);
            for (int what = 0; what <= 8; what++) {
                due("the next behind " + needles, x.needle(needles, what), UNKNOWN);
                due("the one ahead of 0", x.needle(-1, what), UNKNOWN);
            }
        }
    }

    private static void promise06NumbersOfNoNeedleAreUnknown() {
        for (int number : FAR) {
            refused("needle(" + number + ", 0)", Checks::busy, x -> x.needle(number, 0), UNKNOWN);
        }
    }

    private static void promise06What8IsTheLast() {
        HomeNeedles x = withSea("n00;00");
        int[] answers = {0, 0, 4, 0, 0, 0, 36, 0, 14};
        for (int what = 0; what <= 8; what++) {
            due("needle(0, " + what + ")", x.needle(0, what), answers[what]);
        }
    }

    private static void promise06OtherWhatsAreOutside() {
        for (int what : new int[] {-1, 9, 10, MIN, MAX}) {
            refused("needle(0, " + what + ")", Checks::busy, x -> x.needle(0, what), OUTSIDE);
            refused("needle(3, " + what + ")", Checks::busy, x -> x.needle(3, what), OUTSIDE);
        }
    }

    private static void promise06UnknownIsAheadOfOutside() {
        refused("needle(-1, 9)", Checks::busy, x -> x.needle(-1, 9), UNKNOWN);
        refused("needle(4, -1)", Checks::busy, x -> x.needle(4, -1), UNKNOWN);
        refused("needle(0, 9) of a new object", HomeNeedles::new, x -> x.needle(0, 9), UNKNOWN);
    }

    private static void promise06ItOnlyTells() {
        for (int what = 0; what <= 8; what++) {
            int each = what;
            onlyTells("needle(1, " + what + ")", Checks::busy, x -> x.needle(1, each));
            onlyTells("needle(3, " + what + ")", Checks::full, x -> x.needle(3, each));
        }
    }

    private static void promise06DownFromHomeByEachKind() {
        for (char kind : KINDS.toCharArray()) {
            for (int home : new int[] {0, 5, 14, 30, 35}) {
                due(kind + " at " + home, withSea(kind + digits(home) + ";" + digits(home)).needle(0, 2), 4);
            }
        }
    }

    private static void promise06ItPointsFromWhereHeIsNow() {
        HomeNeedles x = withSea("n22;11");
        due("from the northwest", x.needle(0, 2), 8);
        x.step(5);
        due("from the north", x.needle(0, 2), 7);
        x.step(7);
        due("from home", x.needle(0, 2), 4);
    }

    // ---- 6 needle: FOLLOW

    private static void follows(String text, int steps, int place) {
        HomeNeedles x = withSea(text);
        due("steps of " + text, x.needle(0, 3), steps);
        due("place of " + text, x.needle(0, 4), place);
    }

    private static void promise06FollowEndsAtOnceWhereItPointsDown() {
        for (char kind : KINDS.toCharArray()) {
            follows(kind + "22;22", 0, 14);
            follows(kind + "22;2222", 0, 14);
        }
    }

    private static void promise06FollowEndsAtOnceWhereHeStays() {
        follows("s55;00", 0, 0);
        follows("s00;55", 0, 35);
        follows("t00;05", 0, 5);
        follows("n22;0011", 0, 0);
        follows("l22;0001", 0, 0);
        follows("o22;0010", 0, 0);
    }

    private static void promise06FollowOneStep() {
        follows("n22;11", 1, 14);
        follows("s33;11", 1, 0);
        follows("n33;1133", 1, 14);
    }

    private static void promise06FollowEndsAheadOfAnIslandAtHome() {
        follows("n55;0055", 4, 28);
        follows("l55;0055", 9, 29);
        follows("o55;0055", 9, 34);
    }

    private static void promise06FollowTheLongestWays() {
        follows("n55;00", 5, 35);
        follows("l55;00", 10, 35);
        follows("o55;00", 10, 35);
        follows("l00;55", 10, 0);
        // South, southeast, east, northeast twice, north, northwest twice, and then off the SEA.
        follows("t31;30", 8, 2);
        follows("s00;11", 4, 35);
    }

    private static void promise06FollowIsAsStepByStepAndNeverNear40() {
        // No SEA has a way of more than 10 STEPS, so that the bound of 40 shows in no answer.
        for (char kind : KINDS.toCharArray()) {
            for (int home = 0; home < PLACES; home++) {
                for (int place = 0; place < PLACES; place++) {
                    String text = kind + digits(home) + ";" + digits(place);
                    HomeNeedles walked = withSea(text);
                    for (int i = 0; i < 11; i++) {
                        walked.follow(0);
                    }
                    due("at most 10 of " + text, walked.count(4) <= 10 ? 1 : 0, 1);
                    follows(text, walked.count(4), walked.count(1));
                }
            }
        }
    }

    private static void promise06FollowSetsOutFromAnIsland() {
        follows("n55;0000", 5, 35);
        follows("s00;1111", 4, 35);
    }

    private static void promise06FollowIsNoMatterOfWhatIsSeen() {
        HomeNeedles x = withSea("n55;00");
        x.see(0, 0, 0);
        due("steps", x.needle(0, 3), 5);
        due("place", x.needle(0, 4), 35);
    }

    // ---- 6 needle: FEW

    private static void few(String text, int want) {
        due("few of " + text, withSea(text).needle(0, 5), want);
    }

    private static void promise06FewIs0AtHome() {
        few("n22;22", 0);
        few("n00;0000", 0);
        few("s55;555444", 0);
    }

    private static void promise06FewIs1ToEachNeighbour() {
        for (int row = 1; row <= 3; row++) {
            for (int column = 1; column <= 3; column++) {
                few("s22;" + row + column, row == 2 && column == 2 ? 0 : 1);
            }
        }
    }

    private static void promise06FewFromCornerToCorner() {
        few("n55;00", 5);
        few("s00;55", 5);
        few("l05;50", 5);
        few("t50;05", 5);
    }

    private static void promise06FewDoesNotGoAroundTheEdge() {
        // East of column 5 there is no column 0 of the next row.
        few("n10;05", 5);
        few("n20;15", 5);
        few("n00;50", 5);
    }

    private static void promise06FewIsNoneIfHomeIsAnIsland() {
        few("n55;0055", NONE);
        few("n01;0001", NONE);
    }

    private static void promise06FewIsNoneBehindAWall() {
        few("n55;00011011", NONE);
        few("n00;55011011", NONE);
        HomeNeedles x = withSea("n50;00");
        // To the gap, at least two rows down, and from there, at least three.
        int[] around = {5, 5, 5, 6, 8, 10};
        for (int column = 0; column < 6; column++) {
            due("few with " + column + " islands", x.needle(0, 5), around[column]);
            x.raise(12 + column, true);
        }
        due("few with a whole wall", x.needle(0, 5), NONE);
        x.raise(17, false);
        due("few with a gap", x.needle(0, 5), 10);
    }

    private static void promise06FewAlongAWindingWay() {
        HomeNeedles x = withSea("n45;00");
        for (int column = 0; column < 5; column++) {
            x.raise(6 + column, true);
            x.raise(19 + column, true);
        }
        due("few", x.needle(0, 5), 15);
    }

    private static void promise06FewOnASeaOfIslands() {
        HomeNeedles x = withSea("n22,n23;22");
        for (int place = 0; place < PLACES; place++) {
            x.raise(place, true);
        }
        due("few at home", x.needle(0, 5), 0);
        due("few beside home", x.needle(1, 5), NONE);
    }

    // ---- 6 needle: HOMES and LOOK

    private static void homes(String what, HomeNeedles x, int many, int least, int look) {
        due("homes " + what, x.needle(0, 6), many);
        due("the least " + what, x.needle(0, 7), least);
        due("look " + what, x.needle(0, 8), look);
    }

    private static void promise06AllHomesIfNothingIsSeen() {
        // Rows or columns 2 and 3 halve best; the LAZY ones tell columns, the SLOW ones rows.
        homes("of a needle", withSea("n55;00"), 36, 0, 14);
        homes("of a shy one", withSea("s55;00"), 36, 0, 14);
        homes("of a lazy one", withSea("l55;00"), 36, 0, 2);
        homes("of a turned one", withSea("t55;00"), 36, 0, 14);
        homes("of a slow one", withSea("o55;00"), 36, 0, 12);
    }

    private static void promise06OneHomeIfItPointedDown() {
        for (char kind : KINDS.toCharArray()) {
            for (int place : new int[] {0, 21, 35}) {
                HomeNeedles x = withSea(kind + "11;00");
                x.see(0, place, 4);
                homes("of " + kind + " down at " + place, x, 1, place, 0);
            }
        }
    }

    private static void promise06NoHomeIfItCannotBe() {
        HomeNeedles edge = withSea("n11;00");
        edge.see(0, 0, 0);
        homes("off the sea", edge, 0, NONE, NONE);
        HomeNeedles against = withSea("n11;00");
        against.see(0, 14, 0);
        against.see(0, 14, 8);
        homes("against one another", against, 0, NONE, NONE);
        for (int direction : new int[] {0, 2, 6, 8}) {
            for (char kind : new char[] {'l', 'o'}) {
                HomeNeedles x = withSea(kind + "11;00");
                x.see(0, 14, direction);
                homes("of " + kind + " by " + direction, x, 0, NONE, NONE);
            }
        }
    }

    private static void promise06TheLastHomeOfAll() {
        HomeNeedles x = withSea("n11;00");
        x.see(0, 28, 8);
        homes("southeast of the last but one", x, 1, 35, 0);
    }

    private static void promise06TheFirstAndTheSixthThatIsSeenBothCount() {
        HomeNeedles x = withSea("n11,s11;00");
        x.see(0, 28, 8);
        for (int i = 2; i <= 5; i++) {
            x.see(0, 0, 8);
        }
        homes("by five", x, 1, 35, 0);
        x.see(0, 35, 0);
        homes("by six", x, 0, NONE, NONE);
        due("homes of the other", x.needle(1, 6), 36);
    }

    private static void promise06LookIsTheLeastOfLikeOnes() {
        // Left are (0, 0) and (0, 1): place 0 tells them apart, as others do.
        HomeNeedles x = withSea("n11;00");
        x.see(0, 2, 3);
        homes("west of place 2", x, 2, 0, 0);
        // Left are (5, 4) and (5, 5): from place 4, and from no lesser one, they are apart.
        HomeNeedles y = withSea("n11;00");
        y.see(0, 33, 5);
        homes("east of place 33", y, 2, 34, 4);
    }

    private static void promise06LookWhereOnlyTheLastRowOrColumnTells() {
        HomeNeedles slow = withSea("o11;00");
        slow.see(0, 29, 7);
        homes("of a slow one south of row 4", slow, 6, 30, 32);
        HomeNeedles lazy = withSea("l11;00");
        lazy.see(0, 34, 5);
        homes("of a lazy one east of column 4", lazy, 6, 5, 17);
    }

    private static void promise06HomesAreNoMatterOfTheHomeItHas() {
        HomeNeedles x = withSea("n11;00");
        x.see(0, 14, 8);
        x.swing(0, 35);
        homes("behind a swing", x, 9, 21, 28);
    }

    private static void promise06LookMayBeAnIsland() {
        HomeNeedles x = withSea("n11;0022");
        homes("with an island at 14", x, 36, 0, 14);
    }

    // ---- 7 as

    private static void promise07EachKindAsEachKind() {
        String[] kindsOf = {"0", "01", "02", "03", "024"};
        for (int own = 0; own < 5; own++) {
            HomeNeedles x = withSea("n00,n00,n00," + KINDS.charAt(own) + "00;00");
            for (int kind = 0; kind < 5; kind++) {
                boolean is = kindsOf[own].indexOf('0' + kind) >= 0;
                due(KINDS.charAt(own) + " as " + kind, x.as(3, kind), is ? 3 : NONE);
            }
        }
    }

    private static void promise07ALazyOneIsNotSlow() {
        HomeNeedles x = withSea("l00,o00;00");
        due("lazy as slow", x.as(0, 4), NONE);
        due("slow as lazy", x.as(1, 2), 1);
    }

    private static void promise07Needle0IsAnsweredAs0() {
        HomeNeedles x = withSea("s00;00");
        due("as(0, 0)", x.as(0, 0), 0);
        due("as(0, 1)", x.as(0, 1), 0);
        due("as(0, 2)", x.as(0, 2), NONE);
    }

    private static void promise07KindsBelow0AndAbove4AreOutside() {
        for (int kind : new int[] {-1, 5, 6, MIN, MAX}) {
            refused("as(0, " + kind + ")", Checks::busy, x -> x.as(0, kind), OUTSIDE);
            refused("as(3, " + kind + ")", Checks::busy, x -> x.as(3, kind), OUTSIDE);
        }
    }

    private static void promise07NumbersOfNoNeedleAreUnknown() {
        for (int number : FAR) {
            refused("as(" + number + ", 0)", Checks::busy, x -> x.as(number, 0), UNKNOWN);
        }
        due("as(1, 0) of one needle", withSea("n00;00").as(1, 0), UNKNOWN);
    }

    private static void promise07UnknownIsAheadOfOutside() {
        refused("as(4, 5)", Checks::busy, x -> x.as(4, 5), UNKNOWN);
        refused("as(-1, -1)", Checks::busy, x -> x.as(-1, -1), UNKNOWN);
        refused("as(0, 5) of a new object", HomeNeedles::new, x -> x.as(0, 5), UNKNOWN);
    }

    private static void promise07ItOnlyTells() {
        onlyTells("as(3, 2)", Checks::busy, x -> x.as(3, 2));
        onlyTells("as(3, 1)", Checks::busy, x -> x.as(3, 1));
    }

    // ---- 8 points

    private static void promise08EachKindFromEachPlaceToEachHome() {
        for (int kind = 0; kind < 5; kind++) {
            for (int home = 0; home < PLACES; home++) {
                HomeNeedles x = withSea(KINDS.charAt(kind) + digits(home) + ";00");
                for (int place = 0; place < PLACES; place++) {
                    int south = Integer.compare(home / 6, place / 6);
                    int east = Integer.compare(home % 6, place % 6);
                    due(KINDS.charAt(kind) + " from " + place + " to " + home, x.points(0, place),
                            POINTING[kind][3 * south + east + 4]);
                }
            }
        }
    }

    private static void promise08PlacesEndWith35() {
        HomeNeedles x = withSea("n22,n35;00");
        due("points(1, 0)", x.points(1, 0), 8);
        due("points(1, 35)", x.points(1, 35), 1);
        for (int place : new int[] {-1, 36, 64, -64, MIN, MAX}) {
            refused("points(0, " + place + ")", Checks::busy, y -> y.points(0, place), UNKNOWN);
        }
    }

    private static void promise08NumbersOfNoNeedleAreUnknown() {
        for (int number : FAR) {
            refused("points(" + number + ", 0)", Checks::busy, x -> x.points(number, 0), UNKNOWN);
            refused("points(" + number + ", 36)", Checks::busy, x -> x.points(number, 36), UNKNOWN);
        }
        due("points(1, 0) of one needle", withSea("n00;00").points(1, 0), UNKNOWN);
    }

    private static void promise08FromAnIslandToo() {
        due("from an island", withSea("n22;0000").points(0, 0), 8);
        due("from an island at home", withSea("n22;0022").points(0, 14), 4);
    }

    private static void promise08ItOnlyTells() {
        onlyTells("points(2, 35)", Checks::busy, x -> x.points(2, 35));
    }

    // ---- 9 swing

    private static void promise09PlacesEndWith35() {
        HomeNeedles x = withSea("n22;00");
        due("swing(0, 35)", x.swing(0, 35), 14);
        due("swing(0, 0)", x.swing(0, 0), 35);
        due("home", x.needle(0, 1), 0);
        for (int place : new int[] {-1, 36, 64, -64, MIN, MAX}) {
            refused("swing(0, " + place + ")", Checks::busy, y -> y.swing(0, place), UNKNOWN);
        }
    }

    private static void promise09NumbersOfNoNeedleAreUnknown() {
        for (int number : FAR) {
            refused("swing(" + number + ", 0)", Checks::busy, x -> x.swing(number, 0), UNKNOWN);
            refused("swing(" + number + ", 36)", Checks::busy, x -> x.swing(number, 36), UNKNOWN);
        }
        due("swing(1, 0) of one needle", withSea("n00;00").swing(1, 0), UNKNOWN);
    }

    private static void promise09TheSameHomeAgain() {
        HomeNeedles x = busy();
        due("swing to where it is", x.swing(0, 25), 25);
        goesOnAs("a swing to where it is", x, busy());
    }

    private static void promise09TheLastOfFourAlone() {
        HomeNeedles x = withSea("n00,n01,n02,n03;00");
        due("swing(3, 35)", x.swing(3, 35), 3);
        for (int i = 0; i < 4; i++) {
            due("home " + i, x.needle(i, 1), i == 3 ? 35 : i);
        }
    }

    private static void promise09ToWhereHeIs() {
        HomeNeedles x = withSea("n00;33");
        x.swing(0, 21);
        due("direction", x.needle(0, 2), 4);
        due("needles that point down", x.count(5), 1);
        due("few", x.needle(0, 5), 0);
        due("homing", x.homing(), 1);
    }

    private static void promise09ToAnIsland() {
        HomeNeedles x = withSea("n00;3355");
        due("swing to an island", x.swing(0, 35), 0);
        due("few", x.needle(0, 5), NONE);
        due("homing", x.homing(), 0);
    }

    private static void promise09ItIsNoStep() {
        HomeNeedles x = withSea("n00;33");
        x.swing(0, 35);
        due("steps", x.count(3), 0);
        due("where he is", x.count(1), 21);
    }
}
