/** Each promise of the document, with answers that were worked out by hand from its words. */
public final class PromisesTest extends Checks {
    private static final String ALL_KINDS_BUT_SLOW = "n22,s22,l22,t22;00";

    public static void main(String[] args) {
        runAll(PromisesTest.class);
    }

    /** A refusal is as told, and the digest before and behind it is the same. */
    private static void refused(String what, HomeNeedles x, long before, long got, long want) {
        due(what, got, want);
        due(what + ": changes nothing", x.digest(), before);
    }

    // ---- 1 to 5

    private static void promise1NewObject() {
        HomeNeedles x = new HomeNeedles();
        for (int what = 0; what <= 8; what++) {
            due("1 new count(" + what + ")", x.count(what), 0);
        }
        due("1 new needle", x.needle(0, 0), UNKNOWN);
        due("1 new as", x.as(0, 0), UNKNOWN);
        due("1 new points", x.points(0, 0), UNKNOWN);
        due("1 new swing", x.swing(0, 0), UNKNOWN);
        due("1 new island", x.island(0), UNKNOWN);
        due("1 new raise", x.raise(0, true), UNKNOWN);
        due("1 new step", x.step(0), STATE);
        due("1 new step, direction first", x.step(9), OUTSIDE);
        due("1 new follow", x.follow(0), UNKNOWN);
        due("1 new homing", x.homing(), STATE);
        due("1 new see", x.see(0, 0, 0), UNKNOWN);
        due("1 new forget", x.forget(), 0);
        due("1 new storms", x.storms(1, 0, 0), STATE);
        due("1 new storms, numbers first", x.storms(0, 0, 0), OUTSIDE);
        due("1 new image", x.image(), STATE);
        due("1 new restore", x.restore(), STATE);
        due("1 new sea", x.sea(), STATE);
        due("1 new fault", x.fault(), 0);
        due("1 new blank", x.blank(), 0);
        due("1 new digest", x.digest(), with(1091, 0, 0, 0, 0, 0, 0, 0, 0, 0));
    }

    private static void promise2Letter() {
        HomeNeedles x = new HomeNeedles();
        for (int code : new int[] {0, 127, -1, MIN, MAX, 128, 110 + 65536}) {
            refused("2 letter(" + code + ")", x, x.digest(), x.letter(code), OUTSIDE);
        }
        due("2 letter(1)", x.letter(1), 1);
        due("2 letter(126)", x.letter(126), 2);
        for (int i = 3; i <= 28; i++) {
            due("2 letter " + i, x.letter(48), i);
        }
        refused("2 letter 29", x, x.digest(), x.letter(48), FULL);
        due("2 letter outside when full", x.letter(0), OUTSIDE);
        due("2 28 letters", x.count(7), 28);
    }

    private static void promise3Blank() {
        HomeNeedles x = withPage("n0q");
        due("3 blank", x.blank(), 3);
        due("3 blank of none", x.blank(), 0);
        due("3 fault behind blank", x.fault(), 0);
        due("3 letter behind blank", x.letter('s'), 1);
        HomeNeedles y = withSea("n11;22");
        write(y, "s");
        y.blank();
        due("3 blank leaves the sea", y.needle(0, 1), 7);
    }

    private static void fault(String text, int want) {
        due("4 fault of " + text, withPage(text).fault(), want);
    }

    private static void promise4Fault() {
        for (String whole : new String[] {"", "n", "n5", "n55", "n55,", "n55;", "n55;5", "n55;55", "n55;55550",
            "n00,s11,l22,t33;", "n00,s11,l22,o33;0011223344", "n00;0000000000"}) {
            fault(whole, whole.length());
        }
        for (String first : new String[] {"x", "0", ",", ";", "N", "m", "~", "\u0001"}) {
            fault(first, 0);
        }
        fault("n6", 1);
        fault("n/", 1);
        fault("nn", 1);
        fault("n0;", 2);
        fault("n06", 2);
        fault("n00n", 3);
        fault("n000", 3);
        fault("n00,;", 4);
        fault("n00;;", 4);
        fault("n00;6", 4);
        fault("n00;0,", 5);
        fault("n00;00,", 6);
        fault("n00;00;", 6);
        fault("n00;00n", 6);
        fault("n00;00116", 8);
        fault("n00,s11,l22,t33,", 15);
        fault("n00;00112233445", 14);
        fault("n00,s11,l22,t33;00112233440", 26);
        fault("n00x;00x", 3);
        fault("n00x00;00", 3);
    }

    private static void promise5Sea() {
        HomeNeedles x = withSea("o05,t10,l23,s54;3500145555");
        due("5 needles", x.count(0), 4);
        int[] kinds = {4, 3, 2, 1};
        int[] homes = {5, 6, 15, 34};
        for (int i = 0; i < 4; i++) {
            due("5 kind " + i, x.needle(i, 0), kinds[i]);
            due("5 home " + i, x.needle(i, 1), homes[i]);
        }
        due("5 bearer", x.count(1), 23);
        for (int place = 0; place < 36; place++) {
            due("5 island " + place, x.island(place), place == 0 || place == 10 || place == 35 ? 1 : 0);
        }
        due("5 islands told twice are one", x.count(2), 3);
        due("5 page is empty", x.count(7), 0);
        due("5 one needle", withPage("n00;00").sea(), 1);
        due("5 two needles", withPage("n00,n00;00").sea(), 2);
        due("5 three needles", withPage("n00,n00,n00;00").sea(), 3);
        due("5 bearer may set out at an island", withPage("n00;1111").sea(), 1);
    }

    private static void promise5SeaIsNone() {
        for (String text : new String[] {"", "n", "n0", "n00", "n00,", "n00;", "n00;0", "n00;000", "n00;00112",
            "n00,n00", "x", "n00;00x", "n00;06", "n00;001122334455", "n00,s11,l22,t33,o44;00", "00;00", ";00",
            "n00;00;00"}) {
            HomeNeedles x = withPage(text);
            refused("5 sea of " + text, x, x.digest(), x.sea(), STATE);
        }
        HomeNeedles y = withSea("s12;3402");
        y.step(1);
        write(y, "n00");
        refused("5 sea with another one there", y, y.digest(), y.sea(), STATE);
        due("5 the page is still there", y.count(7), 3);
    }

    private static void promise5AnotherSea() {
        HomeNeedles x = withSea("n12,s34;000102");
        x.raise(30, true);
        x.step(7);
        x.step(7);
        x.see(0, 0, 8);
        x.image();
        write(x, "l03;44");
        due("5 another sea", x.sea(), 1);
        int[] counts = {1, 28, 0, 0, 0, 0, 0, 0, 2};
        for (int what = 0; what <= 8; what++) {
            due("5 another sea: count(" + what + ")", x.count(what), counts[what]);
        }
        due("5 another sea: needle 1 is gone", x.needle(1, 0), UNKNOWN);
        due("5 another sea: the image is gone", x.restore(), STATE);
        due("5 another sea: homes", x.needle(0, 6), 36);
        due("5 another sea: kind", x.needle(0, 0), 2);
    }

    // ---- 6 needle

    private static void promise6NeedleFacts() {
        HomeNeedles x = withSea("n22,s22,l22,o22;05");
        int[] kinds = {0, 1, 2, 4};
        int[] directions = {6, 2, 3, 7};
        for (int i = 0; i < 4; i++) {
            due("6 kind of " + i, x.needle(i, 0), kinds[i]);
            due("6 home of " + i, x.needle(i, 1), 14);
            due("6 direction of " + i, x.needle(i, 2), directions[i]);
        }
        x.step(7);
        x.step(7);
        due("6 direction from the same row", x.needle(0, 2), 3);
    }

    private static void followed(String text, int steps, int place) {
        HomeNeedles x = withSea(text);
        due("6 followed steps " + text, x.needle(0, 3), steps);
        due("6 followed place " + text, x.needle(0, 4), place);
        due("6 followed leaves him " + text, x.count(3), 0);
    }

    private static void promise6NeedleFollowed() {
        followed("n22;22", 0, 14);
        followed("n55;00", 5, 35);
        followed("n53;00", 5, 33);
        followed("l53;00", 8, 33);
        followed("o53;00", 8, 33);
        followed("s22;33", 2, 35);
        followed("s22;24", 1, 17);
        followed("s55;00", 0, 0);
        followed("s22;22", 0, 14);
        // Turned: south, southeast twice, east, northeast twice, and then off the sea.
        followed("t22;20", 6, 23);
        followed("t22;22", 0, 14);
        followed("n55;0033", 2, 14);
        followed("n55;0011", 0, 0);
        followed("l53;0003", 2, 2);
        followed("o53;0003", 8, 33);
        followed("n55;0055", 4, 28);
        // He may be at an island, and go on.
        followed("n55;0000", 5, 35);
        followed("n22;2222", 0, 14);
    }

    private static void few(String text, int want) {
        due("6 few " + text, withSea(text).needle(0, 5), want);
    }

    private static void promise6NeedleFew() {
        few("n55;55", 0);
        few("n55;00", 5);
        few("s52;00", 5);
        few("t01;54", 5);
        few("n55;0055", NONE);
        few("n55;5555", 0);
        few("n11;0011", NONE);
        few("n55;00011011", NONE);
        few("n55;0000011011", NONE);
        few("n55;000110", 5);
        // Around: the straight way is barred in the corner but for one side.
        few("n22;000111", 3);
        few("n11;0010", 1);
        HomeNeedles x = withSea("n20;0010111213");
        x.raise(10, true);
        due("6 few around a wall but for the last column", x.needle(0, 5), 10);
        x.raise(11, true);
        due("6 few through a wall", x.needle(0, 5), NONE);
        x.raise(8, false);
        due("6 few through a gap", x.needle(0, 5), 4);
        due("6 few leaves him", x.count(1), 0);
    }

    private static void promise6NeedleHomesAndLook() {
        HomeNeedles x = withSea("n41,n00;00");
        due("6 homes unseen", x.needle(0, 6), 36);
        due("6 least unseen", x.needle(0, 7), 0);
        due("6 look unseen", x.needle(0, 8), 14);
        // Southeast of the corner there are five rows of five.
        x.see(0, 0, 8);
        due("6 homes southeast", x.needle(0, 6), 25);
        due("6 least southeast", x.needle(0, 7), 7);
        due("6 look southeast", x.needle(0, 8), 21);
        due("6 homes of the other", x.needle(1, 6), 36);
        // East of (3, 2) are (3, 3), (3, 4) and (3, 5).
        x.see(0, 20, 5);
        due("6 homes east", x.needle(0, 6), 3);
        due("6 least east", x.needle(0, 7), 21);
        // Place 4 is the first that has one to the southwest, one south, one southeast.
        due("6 look east", x.needle(0, 8), 4);
        x.see(0, 23, 4);
        due("6 homes down", x.needle(0, 6), 1);
        due("6 least down", x.needle(0, 7), 23);
        due("6 look with one left", x.needle(0, 8), 0);
        x.see(0, 0, 0);
        due("6 homes against one another", x.needle(0, 6), 0);
        due("6 least against one another", x.needle(0, 7), NONE);
        due("6 look against one another", x.needle(0, 8), NONE);
        due("6 homes are not by the home it has", x.needle(0, 1), 25);
    }

    private static void homes(String text, int place, int direction, int many, int least) {
        HomeNeedles x = withSea(text);
        x.see(0, place, direction);
        due("6 homes " + text + " from " + place + " by " + direction, x.needle(0, 6), many);
        due("6 least " + text + " from " + place + " by " + direction, x.needle(0, 7), least);
    }

    private static void promise6NeedleHomesByKind() {
        // From (2, 2): two rows and columns before it, three behind it.
        homes("n00;00", 14, 0, 4, 0);
        homes("n00;00", 14, 2, 6, 3);
        homes("n00;00", 14, 8, 9, 21);
        homes("n00;00", 14, 4, 1, 14);
        homes("s00;00", 14, 0, 9, 21);
        homes("s00;00", 14, 8, 4, 0);
        homes("s00;00", 14, 1, 3, 20);
        homes("l00;00", 14, 5, 18, 3);
        homes("l00;00", 14, 1, 2, 2);
        homes("l00;00", 14, 0, 0, NONE);
        homes("o00;00", 14, 5, 3, 15);
        homes("o00;00", 14, 1, 12, 0);
        homes("o00;00", 14, 8, 0, NONE);
        homes("t00;00", 14, 6, 9, 21);
        homes("t00;00", 14, 7, 3, 15);
        homes("t00;00", 14, 5, 2, 2);
        homes("t00;00", 14, 4, 1, 14);
    }

    private static void promise6NeedleRefuses() {
        HomeNeedles x = withSea("n41,n00;03");
        long before = x.digest();
        for (int number : new int[] {-1, 2, 4, MIN, MAX}) {
            refused("6 needle(" + number + ", 0)", x, before, x.needle(number, 0), UNKNOWN);
            due("6 needle(" + number + ", 9)", x.needle(number, 9), UNKNOWN);
        }
        for (int what : new int[] {-1, 9, MIN, MAX}) {
            refused("6 needle(1, " + what + ")", x, before, x.needle(1, what), OUTSIDE);
        }
    }

    // ---- 7 to 11

    private static void promise7As() {
        String letters = "nslto";
        int[][] kindsOf = {{0}, {0, 1}, {0, 2}, {0, 3}, {0, 2, 4}};
        for (int own = 0; own < 5; own++) {
            HomeNeedles x = withSea("n00," + letters.charAt(own) + "00;00");
            for (int kind = 0; kind < 5; kind++) {
                boolean is = false;
                for (int each : kindsOf[own]) {
                    is |= each == kind;
                }
                due("7 " + letters.charAt(own) + " as " + kind, x.as(1, kind), is ? 1 : NONE);
            }
        }
        HomeNeedles x = withSea("o00;00");
        long before = x.digest();
        for (int kind : new int[] {-1, 5, MIN, MAX}) {
            refused("7 as(0, " + kind + ")", x, before, x.as(0, kind), OUTSIDE);
        }
        for (int number : new int[] {-1, 1, MIN, MAX}) {
            refused("7 as(" + number + ", 0)", x, before, x.as(number, 0), UNKNOWN);
            due("7 as(" + number + ", 5)", x.as(number, 5), UNKNOWN);
        }
    }

    private static void promise8Points() {
        int[] places = {0, 2, 5, 12, 14, 17, 30, 32, 35};
        int[][] directions = {
            {8, 7, 6, 5, 4, 3, 2, 1, 0},
            {0, 1, 2, 3, 4, 5, 6, 7, 8},
            {5, 7, 3, 5, 4, 3, 5, 1, 3},
            {6, 3, 0, 7, 4, 1, 8, 5, 2},
        };
        int[] slow = {7, 7, 7, 5, 4, 3, 1, 1, 1};
        HomeNeedles x = withSea(ALL_KINDS_BUT_SLOW);
        HomeNeedles y = withSea("o22;00");
        for (int i = 0; i < places.length; i++) {
            for (int kind = 0; kind < 4; kind++) {
                due("8 kind " + kind + " from " + places[i], x.points(kind, places[i]), directions[kind][i]);
            }
            due("8 kind 4 from " + places[i], y.points(0, places[i]), slow[i]);
        }
        long before = y.digest();
        for (int number : new int[] {-1, 1, MIN, MAX}) {
            refused("8 points(" + number + ", 0)", y, before, y.points(number, 0), UNKNOWN);
        }
        for (int place : new int[] {-1, 36, MIN, MAX}) {
            refused("8 points(0, " + place + ")", y, before, y.points(0, place), UNKNOWN);
        }
    }

    private static void promise9Swing() {
        HomeNeedles x = withSea("n41,s00;03");
        due("9 swing", x.swing(0, 35), 25);
        due("9 swing again", x.swing(0, 0), 35);
        due("9 home then", x.needle(0, 1), 0);
        due("9 points then", x.points(0, 35), 0);
        due("9 the other stays", x.needle(1, 1), 0);
        x.see(0, 0, 8);
        x.swing(0, 3);
        due("9 what is seen stays", x.needle(0, 6), 25);
        long before = x.digest();
        for (int number : new int[] {-1, 2, MIN, MAX}) {
            refused("9 swing(" + number + ", 0)", x, before, x.swing(number, 0), UNKNOWN);
        }
        for (int place : new int[] {-1, 36, MIN, MAX}) {
            refused("9 swing(0, " + place + ")", x, before, x.swing(0, place), UNKNOWN);
        }
    }

    private static void promise10Island() {
        HomeNeedles x = withSea("n41;030055");
        due("10 island(0)", x.island(0), 1);
        due("10 island(35)", x.island(35), 1);
        due("10 island(34)", x.island(34), 0);
        due("10 the bearer is none", x.island(3), 0);
        long before = x.digest();
        for (int place : new int[] {-1, 36, 64, MIN, MAX}) {
            refused("10 island(" + place + ")", x, before, x.island(place), UNKNOWN);
        }
    }

    private static void promise11Raise() {
        HomeNeedles x = withSea("n41;03");
        for (int place = 0; place < 36; place++) {
            due("11 comes up at " + place, x.raise(place, true), 0);
            due("11 is up at " + place, x.raise(place, true), 1);
            due("11 islands then", x.count(2), place + 1);
        }
        due("11 sinks", x.raise(35, false), 1);
        due("11 is sunk", x.raise(35, false), 0);
        due("11 no island then", x.island(35), 0);
        due("11 others are there", x.island(34), 1);
        due("11 where he is it may be", x.count(1), 3);
        long before = x.digest();
        for (int place : new int[] {-1, 36, 64, MIN, MAX}) {
            refused("11 raise(" + place + ", true)", x, before, x.raise(place, true), UNKNOWN);
            refused("11 raise(" + place + ", false)", x, before, x.raise(place, false), UNKNOWN);
        }
    }

    // ---- 12 to 14

    private static void promise12Step() {
        int[] behind = {7, 8, 9, 13, 14, 15, 19, 20, 21};
        for (int direction = 0; direction < 9; direction++) {
            HomeNeedles x = withSea("n00;22");
            due("12 step(" + direction + ")", x.step(direction), behind[direction]);
            due("12 he is there", x.count(1), behind[direction]);
            due("12 a step", x.count(3), 1);
            due("12 leads on", x.count(4), direction == 4 ? 0 : 1);
        }
        stays("n22;00", new int[] {0, 1, 2, 3, 6}, 0);
        stays("n22;05", new int[] {0, 1, 2, 5, 8}, 5);
        stays("n22;50", new int[] {0, 3, 6, 7, 8}, 30);
        stays("n22;55", new int[] {2, 5, 6, 7, 8}, 35);
        stays("n22;22213321", new int[] {3, 8}, 14);
        HomeNeedles x = withSea("n00;2222");
        due("12 down at an island", x.step(4), 14);
        due("12 on from an island", x.step(5), 15);
        due("12 not back to it", x.step(3), 15);
        due("12 steps", x.count(3), 3);
        due("12 steps on", x.count(4), 1);
        long before = x.digest();
        for (int direction : new int[] {-1, 9, MIN, MAX}) {
            refused("12 step(" + direction + ")", x, before, x.step(direction), OUTSIDE);
        }
    }

    private static void stays(String text, int[] directions, int place) {
        HomeNeedles x = withSea(text);
        for (int direction : directions) {
            due("12 stays " + text + " by " + direction, x.step(direction), place);
        }
        due("12 steps by which he stays", x.count(3), directions.length);
        due("12 none led on", x.count(4), 0);
    }

    private static void promise13Follow() {
        HomeNeedles x = withSea("n22,s22,l22,t22;3322");
        due("13 follow to an island", x.follow(0), 21);
        due("13 follow shy", x.follow(1), 28);
        due("13 follow lazy", x.follow(2), 27);
        due("13 follow turned", x.follow(3), 22);
        due("13 steps", x.count(3), 4);
        due("13 led on", x.count(4), 3);
        x.raise(14, false);
        due("13 follow", x.follow(0), 15);
        due("13 follow home", x.follow(0), 14);
        due("13 follow down", x.follow(0), 14);
        due("13 steps then", x.count(3), 7);
        due("13 led on then", x.count(4), 5);
        due("13 slow", withSea("o53;00").follow(0), 6);
        long before = x.digest();
        for (int number : new int[] {-1, 4, MIN, MAX}) {
            refused("13 follow(" + number + ")", x, before, x.follow(number), UNKNOWN);
        }
    }

    private static void homing(String text, int want) {
        HomeNeedles x = withSea(text);
        due("14 homing " + text, x.homing(), want);
        due("14 leaves him", x.count(3), 0);
    }

    private static void promise14Homing() {
        homing("n22,s22,l22,t22;00", 5);
        homing("n22,s22,l22,o22;00", 13);
        homing("s22,n22;00", 2);
        homing("n22,s22,l22,t22;22", 15);
        homing("n22,s22,l22,t22;2222", 15);
        homing("n22,l22,o22;0022", 0);
        homing("n22,l22,o22;0011", 6);
        homing("n22,l22,o22;0001", 5);
        homing("n22,l22,o22;0010", 3);
        homing("t55;00", 0);
    }

    // ---- 15 to 17

    private static void promise15See() {
        HomeNeedles x = withSea("n41,s00;03");
        long before = x.digest();
        for (int number : new int[] {-1, 2, MIN, MAX}) {
            refused("15 see(" + number + ", 0, 0)", x, before, x.see(number, 0, 0), UNKNOWN);
            due("15 see(" + number + ", 0, 9)", x.see(number, 0, 9), UNKNOWN);
        }
        for (int place : new int[] {-1, 36, MIN, MAX}) {
            refused("15 see(0, " + place + ", 0)", x, before, x.see(0, place, 0), UNKNOWN);
            due("15 see(0, " + place + ", 9)", x.see(0, place, 9), UNKNOWN);
        }
        for (int direction : new int[] {-1, 9, MIN, MAX}) {
            refused("15 see(0, 0, " + direction + ")", x, before, x.see(0, 0, direction), OUTSIDE);
        }
        due("15 see", x.see(0, 0, 8), 1);
        due("15 see the same", x.see(0, 0, 8), 2);
        due("15 see of the other", x.see(1, 35, 8), 3);
        due("15 see what isn't so", x.see(1, 35, 4), 4);
        due("15 the other's homes", x.needle(1, 6), 0);
        due("15 its own homes", x.needle(0, 6), 25);
        due("15 see 5", x.see(0, 35, 0), 5);
        due("15 see 6", x.see(0, 20, 5), 6);
        due("15 homes by all", x.needle(0, 6), 2);
        refused("15 see 7", x, x.digest(), x.see(0, 20, 5), FULL);
        due("15 unknown when full", x.see(2, 0, 0), UNKNOWN);
        due("15 outside when full", x.see(0, 0, 9), OUTSIDE);
    }

    private static void promise16Forget() {
        HomeNeedles x = withSea("n41,s00;03");
        due("16 forget nothing", x.forget(), 0);
        x.see(0, 0, 8);
        x.see(1, 0, 8);
        due("16 forget", x.forget(), 2);
        due("16 nothing is seen", x.count(6), 0);
        due("16 all homes again", x.needle(0, 6), 36);
        due("16 forget again", x.forget(), 0);
        due("16 see again", x.see(0, 0, 8), 1);
    }

    private static void promise17Storms() {
        HomeNeedles x = withSea("n00,s33;33");
        x.see(0, 0, 8);
        long before = x.digest();
        // The seeds behind 0: 12345, 1406932606, 654583775; the draws: 0, 21468 by 9 is 3, 9988 by 9 is 7.
        due("17 seed behind one", x.storms(1, 0, 2), 12345);
        due("17 seed behind two", x.storms(2, 0, 2), 1406932606);
        due("17 seed behind three", x.storms(3, 0, 2), 654583775);
        due("17 place behind one", x.storms(1, 0, 0), 14);
        due("17 place behind two", x.storms(2, 0, 0), 13);
        due("17 place behind three", x.storms(3, 0, 0), 19);
        due("17 seed of the most", x.storms(1, MAX, 2), (1103515245L * MAX + 12345L) % 2147483648L);
        due("17 he is where he was", x.digest(), before);
        HomeNeedles twice = withSea("n22,s22,l13;33");
        due("17 down twice behind a step", twice.storms(1, 0, 1), 2);
        due("17 no more behind two", twice.storms(2, 0, 1), 2);
        HomeNeedles corner = withSea("n00,t00;00");
        due("17 down where he stays", corner.storms(2, 0, 1), 4);
        due("17 stays", corner.storms(2, 0, 0), 0);
        due("17 down before is not counted", withSea("n33;33").storms(1, 0, 1), 0);
        due("17 an island", withSea("n22;3322").storms(1, 0, 0), 21);
        for (int steps : new int[] {0, 61, -1, MIN, MAX}) {
            refused("17 storms(" + steps + ", 0, 0)", x, before, x.storms(steps, 0, 0), OUTSIDE);
        }
        for (int number : new int[] {-1, MIN}) {
            refused("17 storms(1, " + number + ", 0)", x, before, x.storms(1, number, 0), OUTSIDE);
        }
        for (int what : new int[] {-1, 3, MIN, MAX}) {
            refused("17 storms(1, 0, " + what + ")", x, before, x.storms(1, 0, what), OUTSIDE);
        }
        due("17 most steps", x.storms(60, 0, 0) >= 0 ? 1 : 0, 1);
    }

    // ---- 18 to 21

    private static void promise18Image() {
        HomeNeedles x = withSea("n41,s00;0355");
        due("18 image at first", x.image(), 0);
        x.step(0);
        x.step(7);
        long before = x.digest();
        due("18 image", x.image(), 2);
        due("18 image changes nothing", x.digest(), before);
        x.step(7);
        due("18 the latest", x.restore(), 2);
        due("18 as it was", x.digest(), before);
    }

    private static void promise19Restore() {
        HomeNeedles x = withSea("n41,s00;0355");
        refused("19 none was kept", x, x.digest(), x.restore(), STATE);
        x.step(7);
        x.step(4);
        x.see(0, 0, 8);
        x.see(1, 0, 0);
        x.image();
        long before = x.digest();
        for (int turn = 0; turn < 2; turn++) {
            x.step(7);
            x.follow(0);
            x.swing(0, 3);
            x.swing(1, 30);
            x.raise(35, false);
            x.raise(2, true);
            x.forget();
            x.see(1, 35, 1);
            x.see(1, 34, 2);
            x.see(0, 33, 3);
            due("19 restore", x.restore(), 2);
            due("19 place", x.count(1), 9);
            due("19 steps", x.count(3), 2);
            due("19 steps on", x.count(4), 1);
            due("19 home 0", x.needle(0, 1), 25);
            due("19 home 1", x.needle(1, 1), 0);
            due("19 island back", x.island(35), 1);
            due("19 island gone", x.island(2), 0);
            due("19 seen", x.count(6), 2);
            due("19 homes", x.needle(0, 6), 25);
            due("19 all", x.digest(), before);
        }
        write(x, "n");
        due("19 restore with a page", x.restore(), 2);
        due("19 the page is left", x.count(7), 1);
        x.blank();
        write(x, "n41,s00;0355");
        due("19 the same text is another sea", x.sea(), 2);
        refused("19 another sea since", x, x.digest(), x.restore(), STATE);
        due("19 kept again", x.image(), 0);
        due("19 restored again", x.restore(), 0);
        due("19 seas are still counted", x.count(8), 2);
    }

    private static void promise20Count() {
        HomeNeedles x = withSea("n41,s41,t00;415511");
        x.step(4);
        x.step(7);
        x.step(1);
        x.see(0, 0, 8);
        x.see(0, 0, 8);
        write(x, "n0~x");
        int[] counts = {3, 25, 2, 3, 2, 2, 2, 4, 1};
        for (int what = 0; what <= 8; what++) {
            due("20 count(" + what + ")", x.count(what), counts[what]);
        }
        long before = x.digest();
        for (int what : new int[] {-1, 9, MIN, MAX}) {
            refused("20 count(" + what + ")", x, before, x.count(what), OUTSIDE);
        }
    }

    private static void promise21Digest() {
        HomeNeedles x = withPage("n~");
        due("21 without a sea", x.digest(), with(1091, 110, 126, 0, 0, 0, 0, 0, 0, 0, 2, 0));
        HomeNeedles y = withSea("n22,s50;2055");
        write(y, "s");
        y.step(2);
        y.see(0, 0, 8);
        // He is at (1, 1); the shy one leads one step northeast, and then off the sea.
        long h = with(1091, 0, 14, 8, 1, 14, 1, 25, 7, 8, 4, 0);
        h = with(h, 1, 30, 2, 1, 2, 4, 36, 0, 1, 2, 5);
        h = with(h, 21);
        for (int place = 0; place < 36; place++) {
            h = with(h, place == 35 ? 1 : 0);
        }
        h = with(h, 1, 115, 2, 7, 1, 1, 1, 0, 1, 1, 1);
        due("21 with a sea", y.digest(), h);
        due("21 again the same", y.digest(), h);
    }
}
