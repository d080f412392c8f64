/** Promises 1 to 14: a new object, and all that is told to it. */
public final class ThingsTest {
    private static final int LOW = Integer.MIN_VALUE;
    private static final int HIGH = Integer.MAX_VALUE;
    private static final Due due = new Due("ThingsTest");

    public static void main(String[] args) {
        newObject();
        crafts();
        machines();
        stocks();
        jobs();
        jobsAfterJobs();
        needs();
        amounts();
        bodies();
        pieces();
        plans();
        doneEmptiesTheRun();
        refusedChangesNothing();
        due.end();
    }

    private static void newObject() {
        SetWorkshop x = new SetWorkshop();
        int[] counts = {0, 0, 0, 0, -1, 0, 0, 0, 0};
        for (int i = 0; i < counts.length; i++) {
            due.is("new: count(" + i + ")", x.count(i), counts[i]);
        }
        due.is("new: again()", x.again(), false);
        due.is("new: failures()", x.failures(), 0);
        due.is("new: log(0, 0)", x.log(0, 0), -1);
        due.is("new: critical(0)", x.critical(0), -1);
        due.is("new: left(0)", x.left(0), 0);
        due.is("new: left(59)", x.left(59), 0);
        due.throwsNoSuchElement("new: state(0, 0)", () -> x.state(0, 0));
        due.throwsNoSuchElement("new: had(0)", () -> x.had(0));
        due.throwsNoSuchElement("new: idle(0)", () -> x.idle(0));
    }

    private static void crafts() {
        SetWorkshop x = new SetWorkshop();
        due.is("craft(-1)", x.craft(-1), -2);
        due.is("craft(33)", x.craft(33), -2);
        due.is("craft(LOW)", x.craft(LOW), -2);
        due.is("craft(HIGH)", x.craft(HIGH), -2);
        due.is("craft(32)", x.craft(32), 0);
        due.is("craft(1) above 32", x.craft(1), -8);
        due.is("craft(33) above 32", x.craft(33), -2);
        for (int i = 1; i < 8; i++) {
            due.is("craft(0) " + i, x.craft(0), i);
        }
        due.is("a ninth craft", x.craft(0), -8);
        due.is("a ninth craft out of range", x.craft(-1), -2);
        due.is("crafts", x.count(0), 8);
        due.is("workers", x.count(1), 32);
    }

    private static void machines() {
        SetWorkshop x = new SetWorkshop();
        for (int i = 0; i < 40; i++) {
            due.is("machine()", x.machine(), i);
        }
        due.is("machine 41", x.machine(), -8);
        due.is("machines", x.count(2), 40);
    }

    private static void stocks() {
        SetWorkshop x = new SetWorkshop();
        due.is("stock(-1, 1)", x.stock(-1, 1), -1);
        due.is("stock(60, -1)", x.stock(60, -1), -1);
        due.is("stock(HIGH, 1)", x.stock(HIGH, 1), -1);
        due.is("stock(0, -1)", x.stock(0, -1), -2);
        due.is("stock(0, 1000001)", x.stock(0, 1000001), -2);
        due.is("stock(0, HIGH)", x.stock(0, HIGH), -2);
        due.is("stock(59, 0)", x.stock(59, 0), 0);
        due.is("left(59)", x.left(59), 0);
        for (int i = 0; i < 1000; i++) {
            due.is("stock(7, 1000000)", x.stock(7, 1000000), 0);
        }
        due.is("left(7)", x.left(7), 1000000000L);
        due.is("stock(7, 1)", x.stock(7, 1), -8);
        due.is("stock(7, 0)", x.stock(7, 0), 0);
        due.is("left(7) still", x.left(7), 1000000000L);
        due.is("left(6)", x.left(6), 0);
    }

    private static void jobs() {
        SetWorkshop x = new SetWorkshop();
        due.is("job without crafts", x.job(0, 1, 0), -1);
        x.craft(1);
        due.is("job(-1, 0, 0)", x.job(-1, 0, 0), -1);
        due.is("job(1, 1, 0)", x.job(1, 1, 0), -1);
        due.is("job(0, 0, 0)", x.job(0, 0, 0), -2);
        due.is("job(0, 10001, 0)", x.job(0, 10001, 0), -2);
        due.is("job(0, 1, -1)", x.job(0, 1, -1), -2);
        due.is("job(0, 1, 1001)", x.job(0, 1, 1001), -2);
        due.is("no jobs yet", x.count(3), 0);
        due.is("job(0, 10000, 1000)", x.job(0, 10000, 1000), 0);
        for (int i = 1; i < 200; i++) {
            due.is("job(0, 1, 0)", x.job(0, 1, 0), i);
        }
        due.is("job 201", x.job(0, 1, 0), -8);
        due.is("job 201 out of range", x.job(0, 0, 0), -2);
        due.is("job 201 without craft", x.job(1, 0, 0), -1);
        due.is("jobs", x.count(3), 200);
    }

    private static SetWorkshop withJobs(int jobs) {
        SetWorkshop x = new SetWorkshop();
        x.craft(2);
        for (int i = 0; i < jobs; i++) {
            x.job(0, 4, 0);
        }
        return x;
    }

    private static void jobsAfterJobs() {
        SetWorkshop x = withJobs(4);
        due.is("after(0, 4)", x.after(0, 4), -1);
        due.is("after(4, 0)", x.after(4, 0), -1);
        due.is("after(-1, -1)", x.after(-1, -1), -1);
        due.is("after(LOW, HIGH)", x.after(LOW, HIGH), -1);
        due.is("after(1, 1)", x.after(1, 1), -4);
        due.is("after(1, 0)", x.after(1, 0), 0);
        due.is("after(2, 1)", x.after(2, 1), 0);
        due.is("after(0, 1)", x.after(0, 1), -4);
        due.is("after(0, 2), a ring of three", x.after(0, 2), -4);
        due.is("after(2, 0), so far only by way of 1", x.after(2, 0), 0);
        due.is("after(2, 0) again", x.after(2, 0), -3);
        // Two parts that hang together by a later joint.
        due.is("after(0, 3)", x.after(0, 3), 0);
        due.is("after(3, 2)", x.after(3, 2), -4);
        due.is("leans(2, 3)", x.leans(2, 3), true);
    }

    private static void needs() {
        SetWorkshop x = withJobs(2);
        due.is("needs without machines", x.needs(0, 0), -1);
        x.machine();
        x.machine();
        due.is("needs(2, 0)", x.needs(2, 0), -1);
        due.is("needs(-1, 0)", x.needs(-1, 0), -1);
        due.is("needs(0, 2)", x.needs(0, 2), -1);
        due.is("needs(0, -1)", x.needs(0, -1), -1);
        due.is("needs(0, 1)", x.needs(0, 1), 0);
        due.is("needs(0, 1) again", x.needs(0, 1), -3);
        due.is("needs(0, 0)", x.needs(0, 0), 0);
        due.is("needs(1, 1)", x.needs(1, 1), 0);
        // Two workers, but one machine 1.
        x.run(100);
        due.is("the second waits for the machine", x.state(1, 1), 4);
    }

    private static void amounts() {
        SetWorkshop x = withJobs(2);
        for (int what = 0; what < 2; what++) {
            due.is("no such job", amount(x, what, 2, 0, 1), -1);
            due.is("no such job, out of range", amount(x, what, -1, 0, 0), -1);
            due.is("no such stock", amount(x, what, 0, 60, 1), -1);
            due.is("no such stock, out of range", amount(x, what, 0, -1, 0), -1);
            due.is("amount 0", amount(x, what, 0, 0, 0), -2);
            due.is("amount 1000001", amount(x, what, 0, 0, 1000001), -2);
            due.is("amount LOW", amount(x, what, 0, 0, LOW), -2);
            due.is("amount 1000000", amount(x, what, 0, 0, 1000000), 0);
            due.is("amount 1", amount(x, what, 0, 59, 1), 0);
        }
        SetWorkshop y = withJobs(1);
        y.stock(5, 100);
        y.uses(0, 5, 100);
        y.uses(0, 5, 30);
        y.gives(0, 5, 50);
        y.gives(0, 5, 4);
        y.gives(0, 6, 2);
        due.is("run", y.run(100), 0);
        due.is("in place of what it was", y.left(5), 74);
        due.is("another stock", y.left(6), 2);
    }

    private static int amount(SetWorkshop x, int what, int job, int stock, int amount) {
        return what == 0 ? x.uses(job, stock, amount) : x.gives(job, stock, amount);
    }

    private static void bodies() {
        SetWorkshop x = withJobs(1);
        due.is("body(1, 9, 0, 0)", x.body(1, 9, 0, 0), -1);
        due.is("body(-1, 0, 0, 0)", x.body(-1, 0, 0, 0), -1);
        due.is("body(0, -1, 0, 0)", x.body(0, -1, 0, 0), -2);
        due.is("body(0, 6, 0, 0)", x.body(0, 6, 0, 0), -2);
        due.is("check: kind 0 at first", x.check(0), 0);
        for (int kind = 5; kind >= 0; kind--) {
            due.is("body kind " + kind, x.body(0, kind, LOW, HIGH), 0);
            due.is("check kind " + kind, x.check(0), kind == 0 ? 0 : 13);
        }
    }

    private static void pieces() {
        SetWorkshop x = withJobs(2);
        due.is("piece(2, 0)", x.piece(2, 0), -1);
        due.is("piece(-1, 0)", x.piece(-1, 0), -1);
        due.is("strip(2)", x.strip(2), -1);
        due.is("strip(-1)", x.strip(-1), -1);
        due.is("strip without list", x.strip(0), -3);
        for (int i = 0; i < 30; i++) {
            due.is("piece " + i, x.piece(0, i % 2 == 0 ? LOW : HIGH), 0);
        }
        due.is("piece 31", x.piece(0, 1), -8);
        due.is("strip of the other", x.strip(1), -3);
        due.is("strip", x.strip(0), 0);
        due.is("strip again", x.strip(0), -3);
        due.is("piece behind strip", x.piece(0, 9), 0);
        x.body(0, 5, 0, 0);
        due.is("run", x.run(9), 0);
        due.is("the new number alone", x.result(0), 9);
        due.is("nothing behind it", x.part(0, 1), 0);
    }

    private static void plans() {
        SetWorkshop x = withJobs(3);
        due.is("clearPlan without any", x.clearPlan(), 0);
        due.is("plan(3, 0, 0)", x.plan(3, 0, 0), -1);
        due.is("plan(-1, 1, 1)", x.plan(-1, 1, 1), -1);
        due.is("plan minute 0", x.plan(0, 0, 1), -2);
        due.is("plan minute 5 of 4", x.plan(0, 5, 1), -2);
        due.is("plan kind 0", x.plan(0, 1, 0), -2);
        due.is("plan kind 10", x.plan(0, 1, 10), -2);
        due.is("plan(0, 4, 9)", x.plan(0, 4, 9), 0);
        due.is("plan(0, 1, 1) in its place", x.plan(0, 1, 1), 0);
        due.is("plan(2, 4, 9)", x.plan(2, 4, 9), 0);
        x.run(100);
        due.is("fails by the later plan", x.state(0, 6), 1);
        due.is("in its minute", x.state(0, 2), 1);
        due.is("fails in its last minute", x.state(2, 4), 4);
        due.is("clearPlan", x.clearPlan(), 2);
        due.is("clearPlan again", x.clearPlan(), 0);
        due.is("nothing fails", x.run(100), 0);
    }

    /** Each call of craft() to clearPlan(), done behind a run. */
    private static int tell(SetWorkshop x, int call) {
        switch (call) {
            case 0: return x.craft(0);
            case 1: return x.machine();
            case 2: return x.stock(0, 0);
            case 3: return x.job(0, 1, 0);
            case 4: return x.after(1, 0);
            case 5: return x.needs(1, 0);
            case 6: return x.uses(1, 0, 1);
            case 7: return x.gives(1, 0, 1);
            case 8: return x.body(1, 0, 0, 0);
            case 9: return x.piece(1, 1);
            case 10: return x.strip(0);
            case 11: return x.plan(1, 1, 1);
            default: return x.clearPlan();
        }
    }

    private static SetWorkshop behindARun() {
        SetWorkshop x = withJobs(2);
        x.machine();
        x.needs(0, 0);
        x.stock(0, 10);
        x.uses(0, 0, 4);
        x.body(0, 5, 0, 0);
        x.piece(0, 8);
        due.is("a run", x.run(100), 0);
        return x;
    }

    private static void doneEmptiesTheRun() {
        for (int call = 0; call <= 12; call++) {
            SetWorkshop x = behindARun();
            due.is("call " + call + " is done", tell(x, call) >= 0, true);
            due.is("answer of the run behind call " + call, x.count(4), -1);
            due.is("log", x.count(5), 0);
            due.is("last minute", x.count(6), 0);
            due.is("state", x.state(0, 0), 0);
            due.is("began", x.state(0, 1), -1);
            due.is("ended", x.state(0, 2), -1);
            due.is("worker", x.state(0, 3), -1);
            due.is("far", x.state(0, 4), 0);
            due.is("result", x.result(0), 0);
            due.is("part", x.part(0, 0), 0);
            due.is("left", x.left(0), 10);
            due.is("had", x.had(0), -1);
            due.is("idle", x.idle(0), 0);
            due.is("again", x.again(), false);
        }
    }

    private static void refusedChangesNothing() {
        SetWorkshop x = behindARun();
        x.craft(33);
        x.stock(60, 1);
        x.stock(0, -1);
        x.job(9, 1, 0);
        x.job(0, 0, 0);
        x.after(0, 0);
        x.needs(0, 0);
        x.uses(0, 0, 0);
        x.gives(9, 0, 1);
        x.body(0, 6, 0, 0);
        x.piece(9, 1);
        x.strip(1);
        x.plan(0, 5, 1);
        due.is("run(0)", x.run(0), -2);
        due.is("the run is there", x.count(4), 0);
        due.is("left", x.left(0), 6);
        due.is("had", x.had(0), 0);
        due.is("result", x.result(0), 8);
        due.is("jobs", x.count(3), 2);
        due.is("again", x.again(), true);
    }
}
