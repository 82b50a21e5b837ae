/** Inspections in the midst of their work, for tests that look for changes. */
final class Scene {
    static final String MARKET = "trader;trader;scale 0 0 10 1000;scale 1 2 7 141;mass 500;mass 70 plus 5;"
            + "set 12 maybe;set 3;term 2 1;";

    private Scene() {
    }

    /**
     * Visit 0 of scale 0 has passed on day 10, visit 1 of scale 1 has failed on day 20, and visit 2 of scale 0 is open
     * on day 30 with one test. Set 0 has the suspects 7 (heavy) and 56 (light), set 1 has 1 (heavy) and 2 (light).
     * Eleven changes can be undone, slot 0 is from the day 20, slot 1 is empty, and the buffer holds 20 bytes.
     */
    static ScaleInspection busy() {
        ScaleInspection x = Text.market(MARKET);
        pass(x, 0, 10);
        x.closeVisit(x.startVisit(1, 20));
        x.saveSnapshot(0);
        x.weigh(0, 7, 56, 1);
        x.weigh(1, 1, 2, 1);
        x.startVisit(0, 30);
        x.record(2, 1, 503);
        Text.append(x, "trader;mass 5;");
        return x;
    }

    /** Visit 0 is open and has eight tests. */
    static ScaleInspection fullVisit() {
        ScaleInspection x = Text.market(MARKET);
        x.startVisit(0, 10);
        for (int test = 0; test < 8; test++) {
            x.record(0, test % 2, test);
        }
        return x;
    }

    /** Thirty visits on day 50; the last one is of scale 1 and open, the others are closed. */
    static ScaleInspection thirtyVisits() {
        ScaleInspection x = Text.market(MARKET);
        for (int visit = 0; visit < 30; visit++) {
            x.startVisit(visit % 2, 50);
            if (visit < 29) {
                x.closeVisit(visit);
            }
        }
        return x;
    }

    /** Set 1 has twenty weighings, which leave that 0 is heavier or 1 is lighter. */
    static ScaleInspection twentyWeighings() {
        ScaleInspection x = Text.market(MARKET);
        for (int i = 0; i < 20; i++) {
            x.weigh(1, 1, 2, 1);
        }
        return x;
    }

    /** A visit of a scale that passes: its capacity is at most 1000, and mass 0 has 500. */
    static void pass(ScaleInspection x, int scale, int day) {
        int visit = x.startVisit(scale, day);
        x.record(visit, 0, 0);
        x.record(visit, 1, 500);
        x.record(visit, 1, 501);
        if (x.closeVisit(visit) != 0) {
            throw new IllegalStateException("the test's visit has not passed");
        }
    }

    /** A visit without tests. */
    static void fail(ScaleInspection x, int scale, int day) {
        if (x.closeVisit(x.startVisit(scale, day)) != 1) {
            throw new IllegalStateException("the test's visit has not failed");
        }
    }
}
