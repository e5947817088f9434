import java.util.ArrayList;
import java.util.Arrays;
import java.util.List;
import java.util.Random;
import java.util.TreeSet;
import java.util.regex.Matcher;
import java.util.regex.Pattern;

/** Runs of drawn calls against a second program that was written from the document in another way. */
public final class ModelTest {
    private static final int RUNS = 3000, CALLS = 512;
    private static int wrong = 0;

    public static void main(String[] args) {
        for (int run = 0; run < RUNS && wrong < 20; run++) {
            oneRun(new Random(7000 + run), run);
        }
        System.exit(wrong == 0 ? 0 : 1);
    }

    private static void oneRun(Random random, int run) {
        HomeNeedles real = new HomeNeedles();
        Model model = new Model();
        List<int[]> calls = new ArrayList<>();
        while (calls.size() < CALLS) {
            if (random.nextInt(60) == 0 || calls.isEmpty()) {
                drawText(random, calls);
            } else {
                calls.add(drawCall(random));
            }
        }
        for (int i = 0; i < CALLS; i++) {
            int[] call = calls.get(i);
            long got = ask(real, call);
            long want = model.ask(call);
            if (got != want) {
                wrong++;
                System.out.println("run " + run + ", call " + i + " " + Arrays.toString(call)
                        + " answered " + got + ", the model has " + want);
                return;
            }
        }
    }

    /** A text as letter calls, mostly that of a sea, with sea() behind it. */
    private static void drawText(Random random, List<int[]> calls) {
        StringBuilder text = new StringBuilder();
        int needles = 1 + random.nextInt(4);
        for (int i = 0; i < needles; i++) {
            text.append(i == 0 ? "" : ",").append("nslto".charAt(random.nextInt(5))).append(drawPlace(random));
        }
        text.append(';').append(drawPlace(random));
        for (int i = random.nextInt(5); i > 0; i--) {
            text.append(drawPlace(random));
        }
        if (random.nextInt(4) == 0) {
            text.setCharAt(random.nextInt(text.length()), "nslto,;0123456x".charAt(random.nextInt(15)));
        }
        if (random.nextInt(6) == 0) {
            text.setLength(random.nextInt(text.length()));
        }
        calls.add(new int[] {1, 0, 0, 0});
        for (int i = 0; i < text.length(); i++) {
            calls.add(new int[] {0, text.charAt(i), 0, 0});
        }
        calls.add(new int[] {2, 0, 0, 0});
        calls.add(new int[] {3, 0, 0, 0});
    }

    private static String drawPlace(Random random) {
        return "" + random.nextInt(6) + random.nextInt(6);
    }

    private static int[] drawCall(Random random) {
        int which = random.nextInt(20);
        if (which == 1 || which == 3) {
            which = random.nextInt(20);
        }
        switch (which) {
            case 0: return new int[] {0, drawn(random, 127), 0, 0};
            case 4: return new int[] {4, drawn(random, 4), drawn(random, 9), 0};
            case 5: return new int[] {5, drawn(random, 4), drawn(random, 5), 0};
            case 6: case 7: return new int[] {which, drawn(random, 4), drawn(random, 36), 0};
            case 8: return new int[] {8, drawn(random, 36), 0, 0};
            case 9: return new int[] {9, drawn(random, 36), random.nextInt(2), 0};
            case 10: case 18: return new int[] {which, drawn(random, 9), 0, 0};
            case 11: return new int[] {11, drawn(random, 4), 0, 0};
            case 13: return new int[] {13, drawn(random, 4), drawn(random, 36), drawn(random, 9)};
            case 15: return new int[] {15, drawn(random, 61), random.nextInt(), drawn(random, 3)};
            default: return new int[] {which, 0, 0, 0};
        }
    }

    private static int drawn(Random random, int below) {
        switch (random.nextInt(40)) {
            case 0: return -1;
            case 1: return below;
            case 2: return random.nextInt();
            case 3: return random.nextBoolean() ? Integer.MIN_VALUE : Integer.MAX_VALUE;
            default: return random.nextInt(below);
        }
    }

    private static long ask(HomeNeedles x, int[] call) {
        int a = call[1];
        int b = call[2];
        int c = call[3];
        switch (call[0]) {
            case 0: return x.letter(a);
            case 1: return x.blank();
            case 2: return x.fault();
            case 3: return x.sea();
            case 4: return x.needle(a, b);
            case 5: return x.as(a, b);
            case 6: return x.points(a, b);
            case 7: return x.swing(a, b);
            case 8: return x.island(a);
            case 9: return x.raise(a, b == 1);
            case 10: return x.step(a);
            case 11: return x.follow(a);
            case 12: return x.homing();
            case 13: return x.see(a, b, c);
            case 14: return x.forget();
            case 15: return x.storms(a, b, c);
            case 16: return x.image();
            case 17: return x.restore();
            case 18: return x.count(a);
            default: return x.digest();
        }
    }

    /** What an image keeps, held as collections that are copied whole. */
    private record Kept(int bearer, List<Integer> homes, TreeSet<Integer> islands, int steps, int on, List<int[]> seen) {
        Kept copy() {
            return new Kept(bearer, new ArrayList<>(homes), new TreeSet<>(islands), steps, on, new ArrayList<>(seen));
        }
    }

    private static final class Model {
        private static final Pattern SEA = Pattern.compile(
                "[nslto][0-5][0-5](,[nslto][0-5][0-5]){0,3};[0-5][0-5]([0-5][0-5]){0,4}");
        private String page = "";
        private String kinds = "";
        private Kept now = new Kept(0, new ArrayList<>(), new TreeSet<>(), 0, 0, new ArrayList<>());
        private Kept image = null;
        private int read = 0;

        long ask(int[] call) {
            int a = call[1];
            int b = call[2];
            int c = call[3];
            boolean unknown = a < 0 || a >= kinds.length();
            boolean noSea = kinds.isEmpty();
            boolean noPlaceA = noSea || a < 0 || a > 35;
            boolean noPlaceB = b < 0 || b > 35;
            switch (call[0]) {
                case 0: return write(a);
                case 1: return blank();
                case 2: return firstWrong();
                case 3: return read();
                case 4: return unknown ? -101 : b < 0 || b > 8 ? -102 : tell(a, b);
                case 5: return unknown ? -101 : b < 0 || b > 4 ? -102 : cast(a, b);
                case 6: return unknown || noPlaceB ? -101 : direction(kinds.charAt(a), now.homes().get(a), b);
                case 7: return unknown || noPlaceB ? -101 : now.homes().set(a, b);
                case 8: return noPlaceA ? -101 : now.islands().contains(a) ? 1 : 0;
                case 9: return noPlaceA ? -101 : (b == 1 ? !now.islands().add(a) : now.islands().remove(a)) ? 1 : 0;
                case 10: return a < 0 || a > 8 ? -102 : noSea ? -103 : go(a);
                case 11: return unknown ? -101 : go((int) tell(a, 2));
                case 12: return noSea ? -103 : bits();
                case 13: return unknown || noPlaceB ? -101 : c < 0 || c > 8 ? -102 : look(a, b, c);
                case 14: return forgotten();
                case 15: return a < 1 || a > 60 || b < 0 || c < 0 || c > 2 ? -102 : noSea ? -103 : storm(a, b, c);
                case 16: return noSea ? -103 : (image = now.copy()).steps();
                case 17: return image == null ? -103 : (now = image.copy()).steps();
                case 18: return a < 0 || a > 8 ? -102 : many(a);
                default: return sum();
            }
        }

        private long write(int code) {
            if (code < 1 || code > 126) {
                return -102;
            }
            if (page.length() == 28) {
                return -104;
            }
            page += (char) code;
            return page.length();
        }

        private long blank() {
            int had = page.length();
            page = "";
            return had;
        }

        private long firstWrong() {
            for (int end = 1; end <= page.length(); end++) {
                Matcher matcher = SEA.matcher(page.substring(0, end));
                if (!matcher.matches() && !matcher.hitEnd()) {
                    return end - 1;
                }
            }
            return page.length();
        }

        private long read() {
            if (!SEA.matcher(page).matches()) {
                return -103;
            }
            String[] halves = page.split(";");
            kinds = "";
            List<Integer> homes = new ArrayList<>();
            for (String each : halves[0].split(",")) {
                kinds += each.charAt(0);
                homes.add(Integer.parseInt(each.substring(1), 6));
            }
            TreeSet<Integer> islands = new TreeSet<>();
            for (int i = 2; i < halves[1].length(); i += 2) {
                islands.add(Integer.parseInt(halves[1].substring(i, i + 2), 6));
            }
            now = new Kept(Integer.parseInt(halves[1].substring(0, 2), 6), homes, islands, 0, 0, new ArrayList<>());
            image = null;
            page = "";
            read++;
            return homes.size();
        }

        private static int direction(char kind, int home, int place) {
            int south = Integer.signum(home / 6 - place / 6);
            int east = Integer.signum(home % 6 - place % 6);
            switch (kind) {
                case 's': return 8 - (3 * south + east + 4);
                case 'l': return east == 0 ? 4 + 3 * south : 4 + east;
                case 'o': return south == 0 ? 4 + east : 4 + 3 * south;
                case 't': return 4 + 3 * east - south;
                default: return 4 + 3 * south + east;
            }
        }

        private int behind(int place, int direction) {
            int down = direction / 3 - 1;
            int right = direction % 3 - 1;
            String rows = "012345";
            if (rows.indexOf('0' + place / 6 + down) < 0 || rows.indexOf('0' + place % 6 + right) < 0) {
                return place;
            }
            int next = place + 6 * down + right;
            return now.islands().contains(next) ? place : next;
        }

        private long go(int direction) {
            int next = behind(now.bearer(), direction);
            int on = now.on() + (next == now.bearer() ? 0 : 1);
            now = new Kept(next, now.homes(), now.islands(), now.steps() + 1, on, now.seen());
            return next;
        }

        private long tell(int i, int what) {
            char kind = kinds.charAt(i);
            int home = now.homes().get(i);
            List<Integer> homes = homes(i);
            switch (what) {
                case 0: return "nslto".indexOf(kind);
                case 1: return home;
                case 2: return direction(kind, home, now.bearer());
                case 3: return way(i).size() - 1;
                case 4: return way(i).get(way(i).size() - 1);
                case 5: return few(home);
                case 6: return homes.size();
                case 7: return homes.isEmpty() ? -1 : homes.get(0);
                default: return homes.isEmpty() ? -1 : best(kind, homes);
            }
        }

        private List<Integer> way(int i) {
            List<Integer> way = new ArrayList<>(List.of(now.bearer()));
            for (int made = 0; made < 40; made++) {
                int place = way.get(way.size() - 1);
                int direction = direction(kinds.charAt(i), now.homes().get(i), place);
                if (direction == 4 || behind(place, direction) == place) {
                    return way;
                }
                way.add(behind(place, direction));
            }
            return way;
        }

        private long few(int home) {
            TreeSet<Integer> reached = new TreeSet<>(List.of(now.bearer()));
            for (int steps = 0; steps < 36; steps++) {
                if (reached.contains(home)) {
                    return steps;
                }
                for (int place : new ArrayList<>(reached)) {
                    for (int direction = 0; direction < 9; direction++) {
                        reached.add(behind(place, direction));
                    }
                }
            }
            return -1;
        }

        private List<Integer> homes(int i) {
            List<Integer> homes = new ArrayList<>();
            for (int home = 0; home < 36; home++) {
                boolean can = true;
                for (int[] seen : now.seen()) {
                    can &= seen[0] != i || direction(kinds.charAt(i), home, seen[1]) == seen[2];
                }
                if (can) {
                    homes.add(home);
                }
            }
            return homes;
        }

        private static long best(char kind, List<Integer> homes) {
            int best = -1;
            int fewest = 99;
            for (int place = 35; place >= 0; place--) {
                int worst = 0;
                for (int direction = 0; direction < 9; direction++) {
                    int left = 0;
                    for (int home : homes) {
                        left += direction(kind, home, place) == direction ? 1 : 0;
                    }
                    worst = Math.max(worst, left);
                }
                if (worst <= fewest) {
                    fewest = worst;
                    best = place;
                }
            }
            return best;
        }

        private long cast(int i, int kind) {
            char own = kinds.charAt(i);
            boolean is = kind == 0 || "nslto".charAt(kind) == own || kind == 2 && own == 'o';
            return is ? i : -1;
        }

        private long bits() {
            long bits = 0;
            for (int i = kinds.length() - 1; i >= 0; i--) {
                bits = 2 * bits + (way(i).contains(now.homes().get(i)) ? 1 : 0);
            }
            return bits;
        }

        private long look(int i, int place, int direction) {
            if (now.seen().size() == 6) {
                return -104;
            }
            now.seen().add(new int[] {i, place, direction});
            return now.seen().size();
        }

        private long forgotten() {
            int had = now.seen().size();
            now.seen().clear();
            return had;
        }

        private long downs(int place) {
            return now.homes().stream().filter(home -> home == place).count();
        }

        private long storm(int steps, int from, int what) {
            long seed = from;
            int place = now.bearer();
            long downs = 0;
            for (int i = 0; i < steps; i++) {
                seed = (1103515245L * seed + 12345L) & 0x7fffffffL;
                place = behind(place, (int) ((seed >> 16) % 9));
                downs += downs(place);
            }
            return new long[] {place, downs, seed}[what];
        }

        private long many(int what) {
            return new long[] {kinds.length(), now.bearer(), now.islands().size(), now.steps(), now.on(),
                kinds.isEmpty() ? 0 : downs(now.bearer()), now.seen().size(), page.length(), read}[what];
        }

        private long sum() {
            List<Long> numbers = new ArrayList<>();
            for (int i = 0; i < kinds.length(); i++) {
                for (int what = 0; what < 8; what++) {
                    numbers.add(tell(i, what));
                }
                for (int place : new int[] {0, 14, 35}) {
                    numbers.add((long) direction(kinds.charAt(i), now.homes().get(i), place));
                }
            }
            if (!kinds.isEmpty()) {
                numbers.add(tell(0, 8));
                for (int place = 0; place < 36; place++) {
                    numbers.add(now.islands().contains(place) ? 1L : 0L);
                }
                numbers.add(bits());
            }
            for (char letter : page.toCharArray()) {
                numbers.add((long) letter);
            }
            for (int what = 0; what < 9; what++) {
                numbers.add(many(what));
            }
            long h = 1091;
            for (long number : numbers) {
                h = 31 * h + number;
            }
            return h;
        }
    }
}
