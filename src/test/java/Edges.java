import java.lang.reflect.InvocationTargetException;
import java.lang.reflect.Method;
import java.lang.reflect.Modifier;
import java.math.BigInteger;
import java.util.Arrays;
import java.util.Comparator;
import java.util.function.Consumer;
import java.util.function.Supplier;

/** What the tests of boundary cases share: each is run by its name, and sorters are compared by all they show. */
final class Edges {
    static final int NONE = CoinRails.NONE;
    static final Class<IndexOutOfBoundsException> INDEX = Check.INDEX;
    static final Class<IllegalArgumentException> ARGUMENT = Check.ARGUMENT;
    static final Class<IllegalStateException> STATE = Check.STATE;

    private static final int KINDS = 6;
    private static final int RAILS = 6;
    private static final Check check = new Check();

    /** Runs the static methods of a class that bear an underscore in their names, and ends the program. */
    static void run(Class<?> tests) {
        Method[] methods = tests.getDeclaredMethods();
        Arrays.sort(methods, Comparator.comparing(Method::getName));
        int found = 0;
        for (Method method : methods) {
            if (isTest(method)) {
                found++;
                run(method);
            }
        }
        check.begin(tests.getName());
        same("has tests", found > 0, true);
        System.out.println(found + " tests");
        check.end();
    }

    private static boolean isTest(Method method) {
        return Modifier.isStatic(method.getModifiers()) && !method.isSynthetic() && method.getName().contains("_");
    }

    private static void run(Method test) {
        check.begin(test.getName());
        try {
            test.invoke(null);
        } catch (InvocationTargetException e) {
            check.wrong("threw " + e.getCause());
        } catch (IllegalAccessException e) {
            check.wrong("cannot be called");
        }
    }

    static void same(String what, long got, long due) {
        check.same(what, got, due);
    }

    static void same(String what, double got, double due) {
        check.same(what, got, due);
    }

    static void same(String what, boolean got, boolean due) {
        check.same(what, got ? 1 : 0, due ? 1 : 0);
    }

    /** The call throws just this exception, and the sorter is then as one for which it was never made. */
    static void refused(Class<? extends RuntimeException> due, Supplier<CoinRails> made, Consumer<CoinRails> call) {
        CoinRails x = made.get();
        Class<?> thrown = null;
        try {
            call.accept(x);
        } catch (RuntimeException e) {
            thrown = e.getClass();
        }
        check.same("thrown", String.valueOf(thrown), String.valueOf(due));
        sameStory("after a refused call", story(x), story(made.get()));
    }

    /** The call saves one state, the one from before it. The sorter has less than four saved states. */
    static void undoable(Supplier<CoinRails> made, Consumer<CoinRails> call) {
        CoinRails x = made.get();
        call.accept(x);
        same("undo of the call", x.undo(), savedStates(made.get()));
        sameStory("after undo", story(x), story(made.get()));
    }

    /** The call is not refused, and changes nothing, not even the saved states. */
    static void harmless(Supplier<CoinRails> made, Consumer<CoinRails> call) {
        CoinRails x = made.get();
        call.accept(x);
        sameStory("after a call that changes nothing", story(x), story(made.get()));
    }

    /** The call saves a state, but changes nothing else. */
    static void savedThough(Supplier<CoinRails> made, Consumer<CoinRails> call) {
        CoinRails x = made.get();
        call.accept(x);
        sameStory("after a call that only saves", now(x), now(made.get()));
        undoable(made, call);
    }

    static void alike(String what, CoinRails got, CoinRails due) {
        sameStory(what, now(got), now(due));
    }

    /** Tells of the first line alone that differs. */
    private static void sameStory(String what, String got, String due) {
        String[] lines = got.split("\n");
        String[] dueLines = due.split("\n");
        for (int i = 0; i < lines.length && i < dueLines.length; i++) {
            if (!lines[i].equals(dueLines[i])) {
                check.same(what + ", line " + i, lines[i], dueLines[i]);
                return;
            }
        }
        check.same(what + ", lines", lines.length, dueLines.length);
    }

    private static int savedStates(CoinRails x) {
        for (int states = 0; states < 10; states++) {
            try {
                x.undo();
            } catch (IllegalStateException e) {
                return states;
            }
        }
        return 10;
    }

    /** All that a sorter shows by and by: now, after each undo, and what its text holds. This uses it up. */
    private static String story(CoinRails x) {
        StringBuilder seen = new StringBuilder();
        // The digest comes first: a question that did save a state would do so in now().
        seen.append("digest ").append(x.digest()).append(": ").append(now(x));
        for (int i = 0; i < 10; i++) {
            try {
                seen.append("\nundo ").append(x.undo()).append(": ").append(now(x));
            } catch (IllegalStateException e) {
                break;
            }
        }
        for (int i = x.value(0); i < KINDS; i++) {
            x.addKind(1480 + 300 * i, 1 + i, i);
        }
        seen.append("\nparse ").append(x.parse()).append(": ").append(now(x));
        return seen.append("text ").append(x.clearText()).toString();
    }

    /** What a sorter shows now, but for its text and its saved states. */
    private static String now(CoinRails x) {
        StringBuilder seen = new StringBuilder();
        for (int what = 0; what <= 9; what++) {
            seen.append(x.value(what)).append(' ');
        }
        for (int kind = 0; kind < x.value(0); kind++) {
            seen.append("kind ");
            for (int what = 0; what <= 6; what++) {
                seen.append(x.kind(kind, what)).append(' ');
            }
            seen.append(x.mostWear(kind)).append(' ').append(x.supply(kind)).append(' ');
            seen.append(x.where(kind, 0)).append(' ').append(x.where(kind, 400)).append(' ');
        }
        for (int rail = 0; rail < RAILS; rail++) {
            seen.append("rail ");
            for (int what = 0; what <= 9; what++) {
                seen.append(x.rail(rail, what)).append(' ');
            }
            for (int kind = 0; kind < x.value(0); kind++) {
                seen.append(x.count(rail, kind)).append(' ');
            }
            seen.append(x.bestGap(rail)).append(' ');
        }
        return seen.append(x.worstKind()).append(' ').append(x.right()).append(' ').toString();
    }

    /** A sorter with kinds, each told by its diameter, its value and its rail. */
    static CoinRails sorter(int... kinds) {
        CoinRails x = new CoinRails();
        for (int i = 0; i + 2 < kinds.length; i += 3) {
            x.addKind(kinds[i], kinds[i + 1], kinds[i + 2]);
        }
        return x;
    }

    /** A sorter with some kinds that fall home on the rails 0, 1, 2 and so on. */
    static CoinRails home(int kinds) {
        CoinRails x = new CoinRails();
        for (int kind = 0; kind < kinds; kind++) {
            x.addKind(1490 + 400 * kind, 10 + kind, kind);
        }
        return x;
    }

    static CoinRails gaps(CoinRails x, int... gaps) {
        for (int rail = 0; rail < gaps.length; rail++) {
            x.setGap(rail, gaps[rail]);
        }
        return x;
    }

    static CoinRails fed(CoinRails x, int times, int kind, int wear) {
        for (int i = 0; i < times; i++) {
            x.feed(kind, wear);
        }
        return x;
    }

    static CoinRails written(CoinRails x, String text) {
        x.clearText();
        for (int i = 0; i < text.length(); i++) {
            x.append(text.charAt(i));
        }
        return x;
    }

    static String times(int times, String text) {
        return text.repeat(times);
    }

    /** Something of everything: rail 1 is stuck by kind 2, two states are saved, and the text holds two coins. */
    static CoinRails busy() {
        CoinRails x = sorter(1490, 5, 0, 1880, 20, 1, 2290, 100, 2, 4000, 500, 5);
        fed(x, 3, 0, 0);
        x.takeBag(0);
        fed(x, 2, 0, 0);
        x.feed(1, 0);
        x.feed(2, 390);
        x.feed(3, 0);
        x.takeRejects();
        x.feed(3, 1);
        fed(x, 4, 0, 1);
        x.undo();
        x.undo();
        return written(x, "0;1w5;");
    }

    /** As busy, but with six kinds, four saved states and a text that is full. */
    static CoinRails full() {
        CoinRails x = busy();
        x.addKind(2690, 200, 3);
        x.addKind(3090, 300, 4);
        x.feed(4, 0);
        x.feed(5, 0);
        return written(x, times(15, "5w012;"));
    }

    /** The number that follows s by chance, reckoned without a limit. */
    static long chance(long s) {
        return BigInteger.valueOf(1103515245).multiply(BigInteger.valueOf(s)).add(BigInteger.valueOf(12345))
                .mod(BigInteger.valueOf(2147483648L)).longValueExact();
    }
}
