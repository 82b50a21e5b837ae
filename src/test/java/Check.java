/** Counts answers that are not due and tells them; a test's main method ends with finish. */
final class Check {
    private static final int SHOWN = 40;

    private final String name;
    private int checked;
    private int wrong;

    Check(String name) {
        this.name = name;
    }

    void due(String call, long want, long got) {
        checked++;
        if (want != got) {
            tell(call + " answered " + got + ", due is " + want);
        }
    }

    void due(String call, boolean want, boolean got) {
        checked++;
        if (want != got) {
            tell(call + " answered " + got + ", due is " + want);
        }
    }

    void due(String call, String want, String got) {
        checked++;
        if (!want.equals(got)) {
            tell(call + " answered " + got + ", due is " + want);
        }
    }

    /** The call must throw exactly this class. */
    void dueThrow(String call, Class<?> want, Runnable run) {
        checked++;
        try {
            run.run();
        } catch (RuntimeException thrown) {
            if (thrown.getClass() != want) {
                tell(call + " threw " + thrown + ", due is " + want);
            }
            return;
        }
        tell(call + " threw nothing, due is " + want);
    }

    boolean hasFailed() {
        return wrong > 0;
    }

    void finish() {
        System.out.println(name + ": " + checked + " checked, " + wrong + " wrong");
        if (wrong > 0 || checked == 0) {
            System.exit(1);
        }
    }

    private void tell(String message) {
        wrong++;
        if (wrong <= SHOWN) {
            System.out.println("  " + message);
        }
    }
}
