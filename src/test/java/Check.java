/** Counts the answers that are as due and prints those that are not. */
final class Check {
    /** A call whose answer, or whose exception, is looked at. */
    interface Call {
        void make();
    }

    private static final long LONGEST_MILLISECONDS = 300_000;

    private final String name;
    private int right;
    private int wrong;

    Check(String name) {
        this.name = name;
        Thread watch = new Thread(this::endAsFailed);
        watch.setDaemon(true);
        watch.start();
    }

    /** A call that does not end must fail the test, and not keep it from ending. */
    private void endAsFailed() {
        try {
            Thread.sleep(LONGEST_MILLISECONDS);
        } catch (InterruptedException e) {
            return;
        }
        System.out.println(name + ": does not end");
        Runtime.getRuntime().halt(1);
    }

    void same(String call, long answer, long due) {
        if (answer == due) {
            right++;
        } else {
            wrong++;
            System.out.println(name + ": " + call + " answered " + answer + ", due is " + due);
        }
    }

    void same(String call, boolean answer, boolean due) {
        same(call, answer ? 1 : 0, due ? 1 : 0);
    }

    void bad(String call, Call made) {
        throwing(call, made, IllegalArgumentException.class);
    }

    void notNow(String call, Call made) {
        throwing(call, made, IllegalStateException.class);
    }

    void noSuch(String call, Call made) {
        throwing(call, made, IndexOutOfBoundsException.class);
    }

    private void throwing(String call, Call made, Class<? extends RuntimeException> due) {
        String thrown = "nothing";
        try {
            made.make();
        } catch (RuntimeException e) {
            thrown = e.getClass().getName();
        }
        if (thrown.equals(due.getName())) {
            right++;
        } else {
            wrong++;
            System.out.println(name + ": " + call + " threw " + thrown + ", due is " + due.getName());
        }
    }

    void end() {
        System.out.println(name + ": " + right + " answers as due, " + wrong + " not");
        if (wrong != 0 || right == 0) {
            System.exit(1);
        }
    }
}
