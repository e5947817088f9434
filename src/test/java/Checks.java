import java.lang.reflect.InvocationTargetException;
import java.lang.reflect.Method;
import java.lang.reflect.Modifier;
import java.util.ArrayList;
import java.util.Arrays;
import java.util.Comparator;
import java.util.List;
import java.util.function.Supplier;
import java.util.function.ToLongFunction;

/** What the tests share. A test class extends it, since a class without a package can't be imported. */
class Checks {
    static final int NONE = -1, UNKNOWN = -101, OUTSIDE = -102, STATE = -103, FULL = -104;
    static final int MIN = Integer.MIN_VALUE, MAX = Integer.MAX_VALUE;
    static final int PLACES = 36, LETTERS = 28, SEEN = 6;
    private static String running = "";
    private static int wrong = 0;

    /** Runs every method that is named promise.., so that none can be left out, and ends with the exit code. */
    static void runAll(Class<?> tests) {
        Method[] methods = tests.getDeclaredMethods();
        Arrays.sort(methods, Comparator.comparing(Method::getName));
        int ran = 0;
        for (Method method : methods) {
            boolean plain = Modifier.isStatic(method.getModifiers()) && method.getParameterCount() == 0;
            if (plain && method.getName().startsWith("promise")) {
                run(method);
                ran++;
            }
        }
        System.out.println(tests.getSimpleName() + ": " + ran + " tests, " + wrong + " wrong answers");
        System.exit(wrong == 0 && ran > 0 ? 0 : 1);
    }

    private static void run(Method method) {
        running = method.getName();
        try {
            method.setAccessible(true);
            method.invoke(null);
        } catch (InvocationTargetException thrown) {
            wrong++;
            System.out.println(running + " threw " + thrown.getCause());
        } catch (IllegalAccessException denied) {
            wrong++;
            System.out.println(running + " could not be run");
        }
    }

    static void due(String what, long got, long want) {
        if (got != want) {
            wrong++;
            System.out.println(running + ": " + what + " answered " + got + ", due is " + want);
        }
    }

    // ---- objects to ask

    static HomeNeedles withPage(String text) {
        HomeNeedles x = new HomeNeedles();
        write(x, text);
        return x;
    }

    static void write(HomeNeedles x, String text) {
        int had = x.count(7);
        for (int i = 0; i < text.length(); i++) {
            due("letter " + i + " of " + text, x.letter(text.charAt(i)), had + i + 1);
        }
    }

    static HomeNeedles withSea(String text) {
        HomeNeedles x = new HomeNeedles();
        readSea(x, text);
        return x;
    }

    static void readSea(HomeNeedles x, String text) {
        write(x, text);
        due("sea " + text, x.sea(), text.split(",").length);
    }

    /** Has of everything: STEPS, ISLANDS, SEEN, letters, and an IMAGE that is not as things are now. */
    static HomeNeedles busy() {
        HomeNeedles x = withSea("n41,s03,l25,o52;115530");
        x.step(8);
        x.see(0, 0, 8);
        x.see(1, 35, 8);
        x.image();
        x.follow(3);
        x.step(4);
        x.swing(2, 20);
        x.raise(8, true);
        x.see(2, 14, 5);
        write(x, "n0");
        return x;
    }

    /** As busy(), but no letter and nothing SEEN more goes in. */
    static HomeNeedles full() {
        HomeNeedles x = busy();
        x.see(3, 30, 2);
        x.see(0, 35, 0);
        due("the last that is SEEN", x.see(1, 0, 4), SEEN);
        write(x, "0;00~1111111111111111;1234");
        due("letters of a full page", x.count(7), LETTERS);
        return x;
    }

    static String digits(int place) {
        return "" + place / 6 + place % 6;
    }

    // ---- refusals

    /** A call that such an object refuses: it answers so, and all goes on as in a twin that was not asked. */
    static void refused(String what, Supplier<HomeNeedles> maker, ToLongFunction<HomeNeedles> call, long want) {
        HomeNeedles asked = maker.get();
        due(what, call.applyAsLong(asked), want);
        goesOnAs(what + " is refused", asked, maker.get());
    }

    /** A call that only tells: it changes nothing. */
    static void onlyTells(String what, Supplier<HomeNeedles> maker, ToLongFunction<HomeNeedles> call) {
        HomeNeedles asked = maker.get();
        call.applyAsLong(asked);
        goesOnAs(what + " only tells", asked, maker.get());
    }

    static void goesOnAs(String what, HomeNeedles asked, HomeNeedles twin) {
        List<Long> got = tale(asked);
        List<Long> want = tale(twin);
        for (int i = 0; i < want.size(); i++) {
            due(what + ": number " + i + " of what comes then", got.get(i), want.get(i));
        }
    }

    /** All that an object tells, and what it has that shows only later: what is SEEN, and the IMAGE. */
    private static List<Long> tale(HomeNeedles x) {
        List<Long> tale = new ArrayList<>();
        tell(x, tale);
        tale.add((long) x.see(0, 20, 5));
        tale.add((long) x.letter('n'));
        tell(x, tale);
        tale.add((long) x.step(7));
        tale.add((long) x.follow(0));
        tale.add((long) x.restore());
        tell(x, tale);
        tale.add((long) x.forget());
        tale.add((long) x.blank());
        write(x, "l03;44");
        tale.add((long) x.sea());
        tale.add((long) x.restore());
        tell(x, tale);
        return tale;
    }

    private static void tell(HomeNeedles x, List<Long> tale) {
        tale.add(x.digest());
        tale.add((long) x.fault());
        for (int number = 0; number < 4; number++) {
            tale.add((long) x.needle(number, 8));
        }
    }

    // ---- sums

    static long with(long h, long... numbers) {
        long sum = h;
        for (long number : numbers) {
            sum = 31 * sum + number;
        }
        return sum;
    }
}
