import java.util.Arrays;

/** A sea of needles that point home: see README.md, and the document for its promises. */
public final class HomeNeedles {
    public static final int NONE = -1, UNKNOWN = -101, OUTSIDE = -102, STATE = -103, FULL = -104;

    private static final int SIDE = 6, PLACES = 36, DIRECTIONS = 9, DOWN = 4, KINDS = 5;
    private static final int MOST_NEEDLES = 4, MOST_ISLANDS = 4, MOST_SEEN = 6, MOST_LETTERS = 28;
    private static final int MOST_FOLLOWED = 40, MOST_STORM_STEPS = 60, LAST_CODE = 126;
    private static final int PLAIN = 0, SHY = 1, LAZY = 2, TURNED = 3, SLOW = 4;
    private static final String KIND_LETTERS = "nslto";

    private final Page page = new Page();
    private final Needle[] needles = new Needle[MOST_NEEDLES];
    private final Voyage now = new Voyage();
    private final Voyage kept = new Voyage();
    private final Trail trail = new Trail();
    private final int[] stepsAway = new int[PLACES];
    private final int[] waiting = new int[PLACES];
    private final int[] leftByDirection = new int[DIRECTIONS];
    private int needleCount = 0;
    private int seasRead = 0;
    private boolean imageKept = false;

    public HomeNeedles() {
        // No entry is ever null, so that no call has to ask.
        for (int i = 0; i < MOST_NEEDLES; i++) {
            needles[i] = new Needle();
        }
    }

    // ---- the sea

    public int letter(int code) {
        if (code < 1 || code > LAST_CODE) {
            return OUTSIDE;
        }
        if (page.size >= MOST_LETTERS) {
            return FULL;
        }
        page.write((char) code);
        return page.size;
    }

    public int blank() {
        int had = page.size;
        page.size = 0;
        return had;
    }

    public int fault() {
        return page.firstWrong();
    }

    public int sea() {
        if (!page.isWhole()) {
            return STATE;
        }
        int headEnd = page.headEnd();
        needleCount = Math.min(MOST_NEEDLES, (headEnd + 1) / 4);
        now.clear();
        for (int i = 0; i < needleCount; i++) {
            needles[i] = newNeedle(page.kindAt(4 * i));
            now.homes[i] = page.placeAt(4 * i + 1);
        }
        now.bearer = page.placeAt(headEnd + 1);
        for (int at = headEnd + 3; at < page.size; at += 2) {
            now.setIsland(page.placeAt(at), true);
        }
        page.size = 0;
        imageKept = false;
        seasRead++;
        return needleCount;
    }

    public int needle(int needle, int what) {
        if (!isNeedle(needle)) {
            return UNKNOWN;
        }
        switch (what) {
            case 0: return needles[needle].kind();
            case 1: return now.homes[needle];
            case 2: return pointing(needle, now.bearer);
            case 3: return trailOf(needle).steps;
            case 4: return trailOf(needle).place;
            case 5: return fewestSteps(now.homes[needle]);
            case 6: return Long.bitCount(possibleHomes(needle));
            case 7: return leastPlace(possibleHomes(needle));
            case 8: return bestLook(needle, possibleHomes(needle));
            default: return OUTSIDE;
        }
    }

    public int as(int needle, int kind) {
        if (!isNeedle(needle)) {
            return UNKNOWN;
        }
        if (kind < 0 || kind >= KINDS) {
            return OUTSIDE;
        }
        return isOfKind(needles[needle], kind) ? needle : NONE;
    }

    public int points(int needle, int place) {
        if (!isNeedle(needle) || !isPlace(place)) {
            return UNKNOWN;
        }
        return pointing(needle, place);
    }

    public int swing(int needle, int place) {
        if (!isNeedle(needle) || !isPlace(place)) {
            return UNKNOWN;
        }
        int had = now.homes[needle];
        now.homes[needle] = place;
        return had;
    }

    public int island(int place) {
        if (!hasSea() || !isPlace(place)) {
            return UNKNOWN;
        }
        return now.isIsland(place) ? 1 : 0;
    }

    public int raise(int place, boolean up) {
        if (!hasSea() || !isPlace(place)) {
            return UNKNOWN;
        }
        int had = now.isIsland(place) ? 1 : 0;
        now.setIsland(place, up);
        return had;
    }

    // ---- steps

    public int step(int direction) {
        if (!isDirection(direction)) {
            return OUTSIDE;
        }
        if (!hasSea()) {
            return STATE;
        }
        return now.move(direction);
    }

    public int follow(int needle) {
        if (!isNeedle(needle)) {
            return UNKNOWN;
        }
        return now.move(pointing(needle, now.bearer));
    }

    // ---- what would be

    public int homing() {
        return hasSea() ? homingBits() : STATE;
    }

    // ---- what is seen

    public int see(int needle, int place, int direction) {
        if (!isNeedle(needle) || !isPlace(place)) {
            return UNKNOWN;
        }
        if (!isDirection(direction)) {
            return OUTSIDE;
        }
        if (now.seen >= MOST_SEEN) {
            return FULL;
        }
        now.addSeen(needle, place, direction);
        return now.seen;
    }

    public int forget() {
        int had = now.seen;
        now.seen = 0;
        return had;
    }

    public int storms(int steps, int seed, int what) {
        if (steps < 1 || steps > MOST_STORM_STEPS || seed < 0 || what < 0 || what > 2) {
            return OUTSIDE;
        }
        if (!hasSea()) {
            return STATE;
        }
        int place = now.bearer;
        int downs = 0;
        int nextSeed = seed;
        for (int i = 0; i < steps; i++) {
            nextSeed = seedBehind(nextSeed);
            place = now.placeBehind(place, nextSeed / 65536 % DIRECTIONS);
            downs += needlesDownAt(place);
        }
        return what == 0 ? place : what == 1 ? downs : nextSeed;
    }

    // ---- what is told of all

    public int image() {
        if (!hasSea()) {
            return STATE;
        }
        kept.copyFrom(now);
        imageKept = true;
        return now.steps;
    }

    public int restore() {
        if (!imageKept) {
            return STATE;
        }
        now.copyFrom(kept);
        return now.steps;
    }

    public int count(int what) {
        switch (what) {
            case 0: return needleCount;
            case 1: return now.bearer;
            case 2: return Long.bitCount(now.islands);
            case 3: return now.steps;
            case 4: return now.stepsOn;
            case 5: return needlesDownAt(now.bearer);
            case 6: return now.seen;
            case 7: return page.size;
            case 8: return seasRead;
            default: return OUTSIDE;
        }
    }

    public long digest() {
        long h = 1091;
        for (int i = 0; i < needleCount; i++) {
            h = withNeedle(h, i);
        }
        if (hasSea()) {
            h = withSea(h);
        }
        for (int i = 0; i < page.size; i++) {
            h = with(h, page.letters[i]);
        }
        for (int what = 0; what <= 8; what++) {
            h = with(h, count(what));
        }
        return h;
    }

    // ---- digests

    private static long with(long h, long number) {
        return 31 * h + number;
    }

    private long withNeedle(long before, int number) {
        long h = before;
        for (int what = 0; what <= 7; what++) {
            h = with(h, needle(number, what));
        }
        h = with(h, pointing(number, 0));
        h = with(h, pointing(number, 14));
        return with(h, pointing(number, 35));
    }

    private long withSea(long before) {
        long h = with(before, bestLook(0, possibleHomes(0)));
        for (int place = 0; place < PLACES; place++) {
            h = with(h, now.isIsland(place) ? 1 : 0);
        }
        return with(h, homingBits());
    }

    // ---- what numbers name

    private boolean hasSea() {
        return needleCount > 0;
    }

    private boolean isNeedle(int number) {
        return number >= 0 && number < needleCount;
    }

    private static boolean isPlace(int number) {
        return number >= 0 && number < PLACES;
    }

    private static boolean isDirection(int number) {
        return number >= 0 && number < DIRECTIONS;
    }

    // ---- where needles point

    private int pointing(int number, int place) {
        return pointingHome(needles[number], now.homes[number], place);
    }

    private static int pointingHome(Needle needle, int home, int place) {
        int rows = nearer(place / SIDE, home / SIDE);
        int columns = nearer(place % SIDE, home % SIDE);
        return needle.turn(rows, columns);
    }

    private static int nearer(int from, int to) {
        return to > from ? 1 : to < from ? -1 : 0;
    }

    private int needlesDownAt(int place) {
        int downs = 0;
        for (int i = 0; i < needleCount; i++) {
            if (pointing(i, place) == DOWN) {
                downs++;
            }
        }
        return downs;
    }

    // ---- ways home

    private Trail trailOf(int number) {
        trail.steps = 0;
        trail.place = now.bearer;
        for (int made = 0; made < MOST_FOLLOWED; made++) {
            // DOWN leads to where he is, so that it ends here as a stay does.
            int next = now.placeBehind(trail.place, pointing(number, trail.place));
            if (next == trail.place) {
                break;
            }
            trail.place = next;
            trail.steps++;
        }
        return trail;
    }

    private int homingBits() {
        int bits = 0;
        for (int i = 0; i < needleCount; i++) {
            if (trailOf(i).place == now.homes[i]) {
                bits |= 1 << i;
            }
        }
        return bits;
    }

    /** Goes outward from the bearer, nearest places first. */
    private int fewestSteps(int home) {
        Arrays.fill(stepsAway, NONE);
        stepsAway[now.bearer] = 0;
        waiting[0] = now.bearer;
        int end = 1;
        for (int i = 0; i < end && i < PLACES; i++) {
            int place = waiting[i];
            for (int direction = 0; direction < DIRECTIONS; direction++) {
                int next = now.placeBehind(place, direction);
                if (stepsAway[next] == NONE && end < PLACES) {
                    stepsAway[next] = stepsAway[place] + 1;
                    waiting[end] = next;
                    end++;
                }
            }
        }
        return stepsAway[home];
    }

    // ---- homes by what is seen

    /** A bit for each place that all that is seen of the needle allows. */
    private long possibleHomes(int number) {
        long homes = 0;
        for (int home = 0; home < PLACES; home++) {
            if (canBeHome(number, home)) {
                homes |= 1L << home;
            }
        }
        return homes;
    }

    private boolean canBeHome(int number, int home) {
        for (int i = 0; i < now.seen; i++) {
            if (now.seenNeedles[i] == number
                    && pointingHome(needles[number], home, now.seenPlaces[i]) != now.seenDirections[i]) {
                return false;
            }
        }
        return true;
    }

    private static int leastPlace(long places) {
        for (int place = 0; place < PLACES; place++) {
            if ((places >> place & 1) == 1) {
                return place;
            }
        }
        return NONE;
    }

    private int bestLook(int number, long homes) {
        if (homes == 0) {
            return NONE;
        }
        int best = NONE;
        int fewest = PLACES + 1;
        for (int place = 0; place < PLACES; place++) {
            int left = leftAtWorst(needles[number], homes, place);
            if (left < fewest) {
                fewest = left;
                best = place;
            }
        }
        return best;
    }

    private int leftAtWorst(Needle needle, long homes, int place) {
        Arrays.fill(leftByDirection, 0);
        int worst = 0;
        for (int home = 0; home < PLACES; home++) {
            if ((homes >> home & 1) == 1) {
                int direction = pointingHome(needle, home, place);
                leftByDirection[direction]++;
                worst = Math.max(worst, leftByDirection[direction]);
            }
        }
        return worst;
    }

    // ---- storms

    private static int seedBehind(int seed) {
        return (int) ((1103515245L * seed + 12345L) % 2147483648L);
    }

    // ---- kinds

    private static Needle newNeedle(int kind) {
        switch (kind) {
            case SHY: return new Shy();
            case LAZY: return new Lazy();
            case TURNED: return new Turned();
            case SLOW: return new Slow();
            default: return new Needle();
        }
    }

    private static boolean isOfKind(Needle needle, int kind) {
        switch (kind) {
            case PLAIN: return true;
            case SHY: return needle instanceof Shy;
            case LAZY: return needle instanceof Lazy;
            case TURNED: return needle instanceof Turned;
            case SLOW: return needle instanceof Slow;
            default: return false;
        }
    }

    /** A plain needle, and what all kinds are. Its home is not here: an image keeps homes, not kinds. */
    private static class Needle {
        int kind() {
            return PLAIN;
        }

        /** The direction in which it points where home is that way: by -1, 0 or 1 each. */
        int turn(int rows, int columns) {
            return DOWN + 3 * rows + columns;
        }
    }

    private static final class Shy extends Needle {
        int kind() {
            return SHY;
        }

        int turn(int rows, int columns) {
            return DOWN - 3 * rows - columns;
        }
    }

    private static class Lazy extends Needle {
        int kind() {
            return LAZY;
        }

        int turn(int rows, int columns) {
            return columns != 0 ? DOWN + columns : DOWN + 3 * rows;
        }
    }

    private static final class Turned extends Needle {
        int kind() {
            return TURNED;
        }

        int turn(int rows, int columns) {
            return DOWN + 3 * columns - rows;
        }
    }

    private static final class Slow extends Lazy {
        int kind() {
            return SLOW;
        }

        int turn(int rows, int columns) {
            return rows != 0 ? DOWN + 3 * rows : DOWN + columns;
        }
    }

    /** How a needle that is followed leads. */
    private static final class Trail {
        int steps = 0;
        int place = 0;
    }

    /** The page: needles of four letters each with what parts them (the head), then places of two digits. */
    private static final class Page {
        final char[] letters = new char[MOST_LETTERS];
        int size = 0;

        void write(char letter) {
            if (size < MOST_LETTERS) {
                letters[size] = letter;
                size++;
            }
        }

        /** Where the first ";" is; the size, if there is none. */
        int headEnd() {
            for (int at = 0; at < size; at++) {
                if (letters[at] == ';') {
                    return at;
                }
            }
            return size;
        }

        int firstWrong() {
            int headEnd = headEnd();
            for (int at = 0; at < size; at++) {
                boolean fits = at <= headEnd ? fitsHead(at) : fitsTail(at, headEnd);
                if (!fits) {
                    return at;
                }
            }
            return size;
        }

        boolean isWhole() {
            int tail = size - headEnd() - 1;
            return firstWrong() == size && tail >= 2 && tail % 2 == 0;
        }

        private boolean fitsHead(int at) {
            switch (at % 4) {
                case 0: return kindAt(at) != NONE;
                case 3: return letters[at] == ';' || letters[at] == ',' && at / 4 < MOST_NEEDLES - 1;
                default: return isDigit(letters[at]);
            }
        }

        private boolean fitsTail(int at, int headEnd) {
            return isDigit(letters[at]) && at - headEnd <= 2 + 2 * MOST_ISLANDS;
        }

        private static boolean isDigit(char letter) {
            return letter >= '0' && letter < '0' + SIDE;
        }

        int kindAt(int at) {
            return KIND_LETTERS.indexOf(letters[at]);
        }

        int placeAt(int at) {
            return SIDE * (letters[at] - '0') + letters[at + 1] - '0';
        }
    }

    /** All that an image keeps. */
    private static final class Voyage {
        final int[] homes = new int[MOST_NEEDLES];
        final int[] seenNeedles = new int[MOST_SEEN];
        final int[] seenPlaces = new int[MOST_SEEN];
        final int[] seenDirections = new int[MOST_SEEN];
        long islands = 0;
        int bearer = 0;
        int steps = 0;
        int stepsOn = 0;
        int seen = 0;

        void clear() {
            islands = 0;
            bearer = 0;
            steps = 0;
            stepsOn = 0;
            seen = 0;
        }

        void copyFrom(Voyage other) {
            System.arraycopy(other.homes, 0, homes, 0, MOST_NEEDLES);
            System.arraycopy(other.seenNeedles, 0, seenNeedles, 0, MOST_SEEN);
            System.arraycopy(other.seenPlaces, 0, seenPlaces, 0, MOST_SEEN);
            System.arraycopy(other.seenDirections, 0, seenDirections, 0, MOST_SEEN);
            islands = other.islands;
            bearer = other.bearer;
            steps = other.steps;
            stepsOn = other.stepsOn;
            seen = other.seen;
        }

        boolean isIsland(int place) {
            return (islands >> place & 1) == 1;
        }

        void setIsland(int place, boolean up) {
            long bit = 1L << place;
            islands = up ? islands | bit : islands & ~bit;
        }

        /** Where a step leads from a place: that place itself, if he stays. */
        int placeBehind(int place, int direction) {
            int row = place / SIDE + direction / 3 - 1;
            int column = place % SIDE + direction % 3 - 1;
            if (row < 0 || row >= SIDE || column < 0 || column >= SIDE) {
                return place;
            }
            int next = SIDE * row + column;
            return isIsland(next) ? place : next;
        }

        int move(int direction) {
            int next = placeBehind(bearer, direction);
            steps++;
            if (next != bearer) {
                stepsOn++;
            }
            bearer = next;
            return bearer;
        }

        void addSeen(int needle, int place, int direction) {
            if (seen < MOST_SEEN) {
                seenNeedles[seen] = needle;
                seenPlaces[seen] = place;
                seenDirections[seen] = direction;
                seen++;
            }
        }
    }
}
