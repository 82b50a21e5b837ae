/** The four examples of the document, call by call. */
public final class ExamplesTest {
    public static void main(String[] args) {
        Check check = new Check("ExamplesTest");
        first(check);
        second(check);
        third(check);
        fourth(check);
        check.finish();
    }

    private static void first(Check check) {
        ScaleInspection x = new ScaleInspection();
        check.due("append", 20, x.append(1953653092, 1701985139, 1667329125, 540024882, 540094496));
        check.due("append", 40, x.append(842018864, 997024115, 1931489584, 808467232, 538976288));
        check.due("parse(35)", 0, x.parse(35));
        check.due("startVisit(0, 30)", 0, x.startVisit(0, 30));
        check.due("record(0, 0, 0)", 0, x.record(0, 0, 0));
        check.due("record(0, 1, 1012)", 1, x.record(0, 1, 1012));
        check.due("record(0, 1, 1004)", 2, x.record(0, 1, 1004));
        check.due("adjustment(0)", 6, x.adjustment(0));
        check.due("closeVisit(0)", 4, x.closeVisit(0));
        check.due("sealState(0, 30)", 3, x.sealState(0, 30));
        check.due("risk(0, 30)", 7, x.risk(0, 30));
        check.due("risk(0, 10000)", -1, x.risk(0, 10000));
    }

    private static void second(Check check) {
        ScaleInspection x = new ScaleInspection();
        check.due("append", 20, x.append(1936028704, 876290080, 538976288, 538976288, 538976288));
        check.due("parse(6)", 0, x.parse(6));
        check.due("weighingsNeeded(0)", 3, x.weighingsNeeded(0));
        check.due("bestLeft(0)", 1, x.bestLeft(0));
        check.due("bestRight(0)", 2, x.bestRight(0));
        check.due("weigh(0, 1, 2, 1)", 2, x.weigh(0, 1, 2, 1));
        check.due("finding(0)", -2, x.finding(0));
        check.due("weigh(0, 1, 3, 0)", -1, x.weigh(0, 1, 3, 0));
    }

    private static void third(Check check) {
        ScaleInspection x = new ScaleInspection();
        check.due("append", 20, x.append(1835103091, 540094523, 1835103091, 540225595, 1835103091));
        check.due("append", 40, x.append(540618811, 538976288, 538976288, 538976288, 538976288));
        check.due("parse(24)", 0, x.parse(24));
        check.due("twoPans(70)", 2053, x.twoPans(70));
        check.due("twoPans(5)", -2, x.twoPans(5));
        check.due("closestLoad(95)", 90, x.closestLoad(95));
    }

    private static void fourth(Check check) {
        ScaleInspection x = new ScaleInspection();
        check.due("append", 20, x.append(1936028704, 825375603, 1702109233, 991961120, 538976288));
        check.due("parse(13)", 3, x.parse(13));
        check.due("errorPosition()", 11, x.errorPosition());
        check.due("setCount()", 0, x.setCount());
    }
}
