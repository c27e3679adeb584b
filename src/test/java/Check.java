/** Counts and prints the answers that are not as due; the tests end through it. */
final class Check {
    interface Call {
        void make();
    }

    static final Class<IndexOutOfBoundsException> INDEX = IndexOutOfBoundsException.class;
    static final Class<IllegalArgumentException> ARGUMENT = IllegalArgumentException.class;
    static final Class<IllegalStateException> STATE = IllegalStateException.class;

    private static final long MOST_SECONDS = 300;

    private int checked;
    private int wrong;
    /** What stands ahead of each line that tells of a wrong answer. */
    private String test = "";

    Check() {
        Thread watch = new Thread(Check::endIfLate);
        watch.setDaemon(true);
        watch.start();
    }

    /** A call of a broken program may not come to its end; the test must do so. */
    private static void endIfLate() {
        try {
            Thread.sleep(1000 * MOST_SECONDS);
        } catch (InterruptedException e) {
            return;
        }
        System.out.println("not ended after " + MOST_SECONDS + " seconds");
        Runtime.getRuntime().halt(1);
    }

    void begin(String name) {
        test = name + ": ";
    }

    void same(String what, long got, long want) {
        checked++;
        if (got != want) {
            wrong(what + " answered " + got + ", due is " + want);
        }
    }

    void same(String what, double got, double want) {
        checked++;
        if (got != want) {
            wrong(what + " answered " + got + ", due is " + want);
        }
    }

    void same(String what, String got, String want) {
        checked++;
        if (!got.equals(want)) {
            wrong(what + " is\n  " + got + "\ndue is\n  " + want);
        }
    }

    /** The call must throw just this exception, and leave the sorter as it was. */
    void fails(String what, CoinRails sorter, Class<? extends RuntimeException> due, Call call) {
        checked++;
        long before = sorter.digest();
        Class<?> thrown = null;
        try {
            call.make();
        } catch (RuntimeException e) {
            thrown = e.getClass();
        }
        if (thrown != due) {
            wrong(what + " threw " + thrown + ", due is " + due);
        }
        if (sorter.digest() != before) {
            wrong(what + " changed something");
        }
    }

    /** The call must save one state and, once undone, leave no trace but that a fifth saved state was dropped. */
    void undoable(String what, CoinRails sorter, Call call) {
        checked++;
        long before = sorter.digest();
        call.make();
        int left = sorter.undo();
        long after = sorter.digest();
        // The number of saved states is what the digest adds last.
        boolean dropped = left == 3 && after - 3 == before - 4;
        if (after != before && !dropped) {
            wrong(what + " is not undone by one undo");
        }
    }

    /** The call must change nothing that the digest tells. */
    void harmless(String what, CoinRails sorter, Call call) {
        checked++;
        long before = sorter.digest();
        call.make();
        if (sorter.digest() != before) {
            wrong(what + " changed something");
        }
    }

    int wrongSoFar() {
        return wrong;
    }

    void end() {
        System.out.println(checked + " checks, " + wrong + " wrong");
        if (wrong != 0 || checked == 0) {
            System.exit(1);
        }
    }

    void wrong(String text) {
        wrong++;
        System.out.println(test + text);
    }
}
