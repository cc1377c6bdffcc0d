import java.lang.reflect.InvocationTargetException;
import java.lang.reflect.Method;
import java.lang.reflect.Modifier;
import java.util.Arrays;
import java.util.Comparator;
import java.util.function.Supplier;
import java.util.regex.Matcher;
import java.util.regex.Pattern;

/**
 * What the tests of edges share: walls in the states that edges are looked at from, what can be seen of a wall, and
 * arguments outside of what is told. No wall here is asked more than the 512 calls that the document promises.
 */
final class Edges {
    static final int NONE = -1;
    static final int MIN = Integer.MIN_VALUE;
    static final int MAX = Integer.MAX_VALUE;

    /** Far from every limit, among them those that shifts and narrow numbers would take for small ones. */
    private static final int[] FAR = {MIN, MIN + 1, -65536, -10000, -1001, -1000, -300, -256, -64, -33, -32, -31, -20, -13, -12,
        -11, -10, -9, -7, -6, -5, -4, -3, -2, -1, 5, 6, 7, 8, 9, 10, 11, 12, 13, 25, 31, 32, 33, 36, 60, 63, 64, 65, 96, 100,
        128, 255, 256, 300, 512, 1000, 4096, 10000, 65536, 1 << 24, 1 << 30, MAX - 1, MAX};

    private Edges() {
    }

    interface Asked {
        long of(DawnPerquisite x, int argument);
    }

    interface Done {
        void to(DawnPerquisite x);
    }

    // ---- arguments outside of what is told ----

    /** Below low and above high the call answers as is due for others, and all stays as it was. */
    static void refuses(String what, Supplier<DawnPerquisite> wall, int low, int high, Asked call, long due) {
        if (low > MIN) {
            refuses(what, wall, low - 1, call, due);
        }
        if (high < MAX) {
            refuses(what, wall, high + 1, call, due);
        }
        for (int far : FAR) {
            if (far < low || far > high) {
                refuses(what, wall, far, call, due);
            }
        }
    }

    static void refuses(String what, Supplier<DawnPerquisite> wall, int argument, Asked call, long due) {
        DawnPerquisite x = wall.get();
        Check.due(what + " of " + argument, call.of(x, argument), due);
        same(what + " of " + argument, x, wall.get());
    }

    /** The call answers as is due, and all stays as it was. */
    static void unchanged(String what, Supplier<DawnPerquisite> wall, Asked call, long due) {
        refuses(what, wall, 0, call, due);
    }

    static long one(boolean answer) {
        return answer ? 1 : 0;
    }

    // ---- what can be seen of a wall ----

    /** Both walls answer alike, then alike behind taking a step back, and alike behind going back to the image. */
    static void same(String what, DawnPerquisite got, DawnPerquisite want) {
        told(what, got, want);
        wall(what, got, want);
        book(what, got, want);
        Check.due(what + ": undo()", got.undo(), want.undo());
        wall(what + ", undo()", got, want);
        Check.due(what + ": back()", got.back(), want.back());
        wall(what + ", back()", got, want);
        told(what + ", back()", got, want);
    }

    private static void wall(String what, DawnPerquisite got, DawnPerquisite want) {
        for (int i = 0; i < 5; i++) {
            Check.due(what + ": is(" + i + ")", got.is(i), want.is(i));
        }
        for (int slice = 0; slice < 12; slice++) {
            Check.due(what + ": at(" + slice + ")", got.at(slice), want.at(slice));
        }
        for (int buyer = 0; buyer < 6; buyer++) {
            Check.due(what + ": of(" + buyer + ", 3)", got.of(buyer, 3), want.of(buyer, 3));
        }
        Check.due(what + ": book(NONE, 0)", got.book(NONE, 0), want.book(NONE, 0));
        Check.due(what + ": about(3)", got.about(3), want.about(3));
    }

    private static void told(String what, DawnPerquisite got, DawnPerquisite want) {
        for (int i = 0; i < 7; i++) {
            Check.due(what + ": about(" + i + ")", got.about(i), want.about(i));
        }
        for (int buyer = 0; buyer < 6; buyer++) {
            for (int i = 0; i < 6; i++) {
                Check.due(what + ": of(" + buyer + ", " + i + ")", got.of(buyer, i), want.of(buyer, i));
            }
        }
        for (int sort = 0; sort < 5; sort++) {
            Check.due(what + ": ofSort(" + sort + ", 0)", got.ofSort(sort, 0), want.ofSort(sort, 0));
            Check.due(what + ": ofSort(" + sort + ", 1)", got.ofSort(sort, 1), want.ofSort(sort, 1));
        }
        for (int slice = 0; slice < 12; slice++) {
            Check.due(what + ": ends(" + slice + ", " + slice + ")", got.ends(slice, slice), want.ends(slice, slice));
        }
        Check.due(what + ": fault(0)", got.fault(0), want.fault(0));
        Check.due(what + ": fault(1)", got.fault(1), want.fault(1));
        Check.due(what + ": was()", got.was(), want.was());
        Check.due(what + ": whose()", got.whose(), want.whose());
    }

    private static void book(String what, DawnPerquisite got, DawnPerquisite want) {
        for (int i = 0; i < 25; i++) {
            for (int part = 0; part < 4; part++) {
                Check.due(what + ": book(" + i + ", " + part + ")", got.book(i, part), want.book(i, part));
            }
        }
    }

    // ---- walls ----

    static DawnPerquisite empty() {
        return new DawnPerquisite();
    }

    /** Four buyers: 0 (sorts 0 1) 0..3, 1 (sorts 1 2) 2..5, 2 (sort 2) 6..11, 3 (sort 0) 4..4; sort 0 of worth 0. */
    static DawnPerquisite four() {
        DawnPerquisite x = new DawnPerquisite();
        x.buyer(3, 0, 3, 20);
        x.buyer(6, 2, 5, 99);
        x.buyer(4, 6, 11, 10);
        x.buyer(1, 4, 4, 0);
        return x;
    }

    /** Something of all that there is; four buyers, two texts, 0 rules, an image of another day. */
    static DawnPerquisite busy() {
        DawnPerquisite x = new DawnPerquisite();
        x.sort(0, 2, 60);
        x.sort(3, 0, 99);
        x.buyer(31, 0, 3, 200);
        x.buyer(31, 2, 5, 300);
        x.buyer(5, 6, 8, 40);
        x.buyer(31, 9, 11, 999);
        for (int slice = 0; slice < 12; slice++) {
            x.value(slice, slice * 37 % 100);
        }
        Check.text(x, "bids long*3+wants;earns 2-has;sell 1;day 2;");
        Check.text(x, "bids 7;earns 0-1;");
        x.by(0);
        x.sell(0);
        x.give(7);
        x.paid(0, true);
        x.paid(2, false);
        x.said(0, 13);
        x.image();
        x.day(2);
        x.sell(1);
        x.sell(3);
        x.turn(3);
        x.give(0);
        x.said(1, 13);
        Check.text(x, "bids !;");
        Check.tape(x, "sell 0;");
        return x;
    }

    /** As much of all as there can be: six buyers, four texts, 30 steps, 25 lines, 8 said, six paid, a tape of 300 bytes. */
    static DawnPerquisite full() {
        DawnPerquisite x = new DawnPerquisite();
        for (int buyer = 0; buyer < 6; buyer++) {
            x.buyer(31, 2 * buyer, 2 * buyer + 1, 999 - buyer);
            x.paid(buyer, true);
        }
        for (int text = 0; text < 4; text++) {
            Check.text(x, "bids " + (text + 5) + ";");
        }
        x.by(3);
        for (int said = 0; said < 8; said++) {
            x.said(said % 6, 8);
        }
        x.image();
        x.day(27);
        x.sell(0);
        x.sell(5);
        x.give(4);
        Check.tape(x, "give 5;" + " ".repeat(293));
        return x;
    }

    static DawnPerquisite atDay(int day) {
        DawnPerquisite x = new DawnPerquisite();
        passed(x, day);
        return x;
    }

    static void passed(DawnPerquisite x, int days) {
        for (int i = 0; i < days / 60; i++) {
            x.day(60);
        }
        if (days % 60 > 0) {
            x.day(days % 60);
        }
    }

    /** A wall of the last day, with buyers. */
    static DawnPerquisite last() {
        DawnPerquisite x = four();
        passed(x, 9999);
        return x;
    }

    /** Four buyers of all sorts, of one slice each, who bid as the law says; and SORT 0 is all that comes. */
    static DawnPerquisite ruled(String law, int... purses) {
        DawnPerquisite x = new DawnPerquisite();
        for (int sort = 1; sort < 5; sort++) {
            x.sort(sort, 0, 0);
        }
        for (int buyer = 0; buyer < purses.length; buyer++) {
            x.buyer(31, buyer, buyer, purses[buyer]);
        }
        x.by(Check.text(x, law));
        return x;
    }

    /** Behind 56 times eighteen sold by scripts: FUND 99792, text 0 rules (all bid 99), 1 (8), 2 (9), 3 (10). */
    static DawnPerquisite rich() {
        String all = "sell 0;sell 1;sell 2;sell 3;sell 4;sell 5;day 1;";
        DawnPerquisite x = ruled("bids 99;earns 9;" + all.repeat(3), 999, 999, 999, 999, 999, 999);
        Check.text(x, "bids 8;");
        Check.text(x, "bids 9;");
        Check.text(x, "bids 10;");
        for (int i = 0; i < 56; i++) {
            x.played(0);
            x.day(60);
        }
        return x;
    }

    // ---- draws ----

    static int anew(int x) {
        return (x * 719 + 587) % 31039;
    }

    /** A wall without ODDS, so that years draw nothing, of the X that is wanted. */
    static DawnPerquisite drawnBy(int wanted) {
        DawnPerquisite wall = new DawnPerquisite();
        for (int sort = 0; sort < 5; sort++) {
            wall.sort(sort, 0, 0);
        }
        for (int seed = 0; seed <= 9999; seed++) {
            int x = seed * 2 + 457;
            for (int n = 1; n <= 40; n++) {
                x = anew(x);
                if (x == wanted) {
                    wall.years(seed, n);
                    Check.due("X by a seed", wall.is(1), wanted);
                    return wall;
                }
            }
        }
        Check.due("there is a seed for X " + wanted, 0, 1);
        return wall;
    }

    // ---- running ----

    /** Runs all tests of a class, by their names; each name begins with a promise's number or a part's. */
    static void run(Class<?> tests, String begin, int many) {
        Method[] methods = tests.getDeclaredMethods();
        Arrays.sort(methods, Comparator.comparing(Method::getName));
        Pattern name = Pattern.compile(begin + "(\\d+)[A-Z]\\w*");
        int[] found = new int[many + 1];
        for (Method method : methods) {
            Matcher matcher = name.matcher(method.getName());
            if (Modifier.isStatic(method.getModifiers()) && method.getParameterCount() == 0 && matcher.matches()) {
                found[Integer.parseInt(matcher.group(1))]++;
                run(method);
            }
        }
        Check.within = "";
        for (int i = 1; i <= many; i++) {
            Check.due("a test of " + begin + " " + i, found[i] > 0, true);
        }
        Check.report(tests.getName());
    }

    private static void run(Method method) {
        Check.within = method.getName() + ": ";
        try {
            method.setAccessible(true);
            method.invoke(null);
        } catch (InvocationTargetException e) {
            Check.due("threw " + e.getCause(), 1, 0);
        } catch (IllegalAccessException e) {
            throw new IllegalStateException(e);
        }
    }
}
