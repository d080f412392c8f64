/** Term 3 and promises 15 to 17, 21 to 26, 30 and 31: a run and what is asked behind it. */
public final class RunTest {
    private static final int LOW = Integer.MIN_VALUE;
    private static final int HIGH = Integer.MAX_VALUE;
    private static final Due due = new Due("RunTest");

    public static void main(String[] args) {
        deadlines();
        noJobs();
        orderOfBeginning();
        nobodyWaitsForAnEarlierOne();
        givenBackInTheSameMinute();
        neverAtOnce();
        neverAtTheEnd();
        failedAndCancelled();
        restOfStock();
        interrupted();
        atTheDeadlineNobodyAtWork();
        failuresByNumber();
        theLeastCulprit();
        logOrder();
        machinesHad();
        idleMinutes();
        wrongInputs();
        due.end();
    }

    private static SetWorkshop crafts(int... workers) {
        SetWorkshop x = new SetWorkshop();
        for (int w : workers) {
            x.craft(w);
        }
        return x;
    }

    private static void row(String name, SetWorkshop x, int job, int... want) {
        for (int i = 0; i < want.length; i++) {
            due.is(name + ": state(" + job + ", " + i + ")", x.state(job, i), want[i]);
        }
    }

    /** Each event as minute, kind, job. */
    private static void events(String name, SetWorkshop x, int... want) {
        due.is(name + ": count(5)", x.count(5), want.length / 3);
        for (int i = 0; i < want.length / 3; i++) {
            due.is(name + ": minute of event " + i, x.log(i, 0), want[3 * i]);
            due.is(name + ": kind of event " + i, x.log(i, 2), want[3 * i + 1]);
            due.is(name + ": job of event " + i, x.log(i, 1), want[3 * i + 2]);
        }
        due.is(name + ": last minute", x.count(6),
            want.length == 0 ? 0 : want[want.length - 3]);
    }

    private static void deadlines() {
        SetWorkshop x = crafts(1);
        x.job(0, 10000, 0);
        due.is("run(0)", x.run(0), -2);
        due.is("run(-1)", x.run(-1), -2);
        due.is("run(1000001)", x.run(1000001), -2);
        due.is("run(LOW)", x.run(LOW), -2);
        due.is("run(HIGH)", x.run(HIGH), -2);
        due.is("no run yet", x.again(), false);
        due.is("run(1000000)", x.run(1000000), 0);
        due.is("count(6)", x.count(6), 10000);
        due.is("run(1)", x.run(1), 2);
        due.is("run(9999)", x.run(9999), 2);
        due.is("run(10000)", x.run(10000), 0);
    }

    private static void noJobs() {
        SetWorkshop x = new SetWorkshop();
        due.is("a run without jobs", x.run(5), 0);
        due.is("count(4)", x.count(4), 0);
        events("no jobs", x);
        due.is("again", x.again(), true);
        due.is("again twice", x.again(), false);
    }

    private static void orderOfBeginning() {
        SetWorkshop x = crafts(1, 2);
        x.job(1, 5, 9);
        x.job(0, 2, 7);
        x.job(0, 2, 3);
        x.job(0, 2, 3);
        x.job(1, 1, 8);
        x.job(1, 1, 8);
        due.is("run", x.run(100), 0);
        row("priority 9", x, 0, 1, 1, 6, 1, 5, 0, 0, -1);
        row("priority 7", x, 1, 1, 4, 6, 0, 2, 0, 0, -1);
        row("priority 3", x, 2, 1, 0, 2, 0, 2, 0, 0, -1);
        row("priority 3, later number", x, 3, 1, 2, 4, 0, 2, 0, 0, -1);
        row("craft 1", x, 4, 1, 0, 1, 1, 1, 0, 0, -1);
        row("craft 1, next worker", x, 5, 1, 0, 1, 2, 1, 0, 0, -1);
        // An earlier craft has the machine first, whatever the priorities.
        SetWorkshop y = crafts(1, 1);
        y.machine();
        y.job(1, 1, 0);
        y.job(0, 1, 1000);
        y.needs(0, 0);
        y.needs(1, 0);
        y.run(10);
        due.is("craft 0 first", y.state(1, 1), 0);
        due.is("craft 1 then", y.state(0, 1), 1);
    }

    private static void nobodyWaitsForAnEarlierOne() {
        SetWorkshop x = crafts(2);
        x.machine();
        x.stock(0, 5);
        x.job(0, 4, 0);
        x.job(0, 4, 1);
        x.job(0, 4, 2);
        x.needs(0, 0);
        x.needs(1, 0);
        x.uses(1, 0, 5);
        x.uses(2, 0, 5);
        x.gives(2, 0, 5);
        due.is("run", x.run(100), 0);
        due.is("the later one takes the stock", x.state(2, 1), 0);
        due.is("the earlier one comes later", x.state(1, 1), 4);
    }

    private static void givenBackInTheSameMinute() {
        SetWorkshop x = crafts(1, 1);
        x.machine();
        x.stock(0, 10);
        x.job(1, 4, 0);
        x.job(0, 1, 0);
        x.needs(0, 0);
        x.needs(1, 0);
        x.uses(0, 0, 10);
        x.uses(1, 0, 5);
        x.plan(0, 2, 1);
        x.job(0, 1, 0);
        x.after(1, 2);
        x.run(100);
        due.is("begins with machine and rest", x.state(1, 1), 2);
        due.is("left", x.left(0), 0);
    }

    private static void neverAtOnce() {
        SetWorkshop x = crafts(0, 1);
        x.stock(0, 3);
        x.job(1, 1, 0);
        x.job(0, 1, 0);
        x.job(1, 1, 0);
        x.job(1, 1, 0);
        x.job(1, 1, 0);
        x.after(2, 1);
        x.after(3, 2);
        x.uses(4, 0, 5);
        x.gives(4, 0, 100);
        x.gives(1, 0, 1);
        due.is("run", x.run(9), 1);
        row("without workers", x, 1, 5, -1, -1, -1, 0, 0, 0, -1);
        row("leaning on it", x, 3, 5, -1, -1, -1, 0, 0, 0, -1);
        row("its own gifts do not count", x, 4, 5, -1, -1, -1, 0, 0, 0, -1);
        events("never", x, 0, 5, 0, 0, 6, 1, 0, 6, 2, 0, 6, 3, 0, 6, 4, 1, 1, 0);
        x.stock(0, 1);
        x.run(9);
        // What a job without workers would give counts with "all other jobs".
        due.is("not at once", x.state(4, 0), 5);
        due.is("its event is the last", x.log(x.count(5) - 1, 1), 4);
        due.is("at the end", x.log(x.count(5) - 1, 0), 1);
        x.uses(4, 0, 4);
        x.run(9);
        due.is("with enough it is done", x.state(4, 0), 1);
    }

    private static void neverAtTheEnd() {
        SetWorkshop x = crafts(2);
        x.stock(0, 10);
        x.job(0, 3, 0);
        x.job(0, 3, 1);
        x.job(0, 1, 0);
        x.uses(0, 0, 6);
        x.uses(1, 0, 6);
        x.after(2, 1);
        due.is("run", x.run(100), 1);
        row("the stock does not suffice", x, 1, 5, -1, -1, -1, 0, 0, 0, -1);
        events("stalled", x, 0, 5, 0, 3, 1, 0, 3, 6, 1, 3, 6, 2);
        // The same when the stall falls on the deadline: nobody would begin.
        due.is("run(3)", x.run(3), 1);
        events("stalled at the deadline", x, 0, 5, 0, 3, 1, 0, 3, 6, 1, 3, 6, 2);
        due.is("run(2)", x.run(2), 2);
        events("cut", x, 0, 5, 0, 2, 4, 0);
    }

    private static void failedAndCancelled() {
        SetWorkshop x = crafts(3);
        for (int i = 0; i < 5; i++) {
            x.job(0, 4, 0);
        }
        x.after(3, 0);
        x.after(4, 3);
        x.after(4, 1);
        x.plan(0, 2, 6);
        x.gives(0, 0, 50);
        due.is("run", x.run(100), 1);
        row("failed", x, 0, 2, 0, 2, 0, 2, 0, 6, -1);
        row("cancelled", x, 3, 3, -1, -1, -1, 0, 0, 0, 0);
        row("cancelled by way of another", x, 4, 3, -1, -1, -1, 0, 0, 0, 0);
        row("untouched", x, 1, 1, 0, 4, 1, 4, 0, 0, -1);
        due.is("a failed job gives nothing", x.left(0), 0);
        events("failed", x, 0, 5, 0, 0, 5, 1, 0, 5, 2, 2, 2, 0, 2, 3, 3, 2, 3, 4, 4, 1, 1, 4, 1, 2);
        // One that is never at once stays so.
        x.uses(4, 5, 1);
        x.run(100);
        due.is("never, not cancelled", x.state(4, 0), 5);
        due.is("no culprit", x.state(4, 7), -1);
    }

    private static void restOfStock() {
        SetWorkshop x = crafts(1);
        x.stock(0, 1000000);
        x.stock(1, 10);
        x.job(0, 9999, 0);
        x.uses(0, 0, 1000000);
        x.uses(0, 1, 7);
        x.plan(0, 9998, 1);
        due.is("run", x.run(1000000), 1);
        // 1000000 * 9998 / 9999 is 999899 (cut); 7 * 9998 / 9999 is 6
        due.is("left(0)", x.left(0), 101);
        due.is("left(1)", x.left(1), 4);
        x.plan(0, 9999, 1);
        x.run(1000000);
        due.is("nothing comes back behind all minutes", x.left(1), 3);
        x.clearPlan();
        x.run(3333);
        // 1000000 * 3333 / 9999 is 333333; 7 * 3333 / 9999 is 2
        due.is("interrupted: left(0)", x.left(0), 666667);
        due.is("interrupted: left(1)", x.left(1), 8);
    }

    private static void interrupted() {
        SetWorkshop x = crafts(4);
        for (int i = 0; i < 4; i++) {
            x.job(0, 7, 0);
        }
        x.job(0, 1, 0);
        x.body(0, 4, 0, 0);
        x.body(2, 5, 0, 0);
        x.machine();
        x.needs(2, 0);
        due.is("run(2)", x.run(2), 2);
        row("at work", x, 0, 4, 0, 2, 0, 2, 2, 0, -1);
        row("without a body in a wait", x, 1, 4, 0, 2, 1, 2, 1, 0, -1);
        row("at work too", x, 2, 4, 0, 2, 2, 2, 2, 0, -1);
        row("not begun", x, 4, 0, -1, -1, -1, 0, 0, 0, -1);
        due.is("had", x.had(0), 2);
        events("interrupted", x, 0, 5, 0, 0, 5, 1, 0, 5, 2, 0, 5, 3,
            2, 4, 0, 2, 4, 1, 2, 4, 2, 2, 4, 3);
        // 7 / 2 is 3, and 3 is not below it.
        x.run(3);
        due.is("half way in a wait", x.state(0, 5), 1);
        due.is("an interrupt is no failure", x.failures(), 0);
    }

    private static void atTheDeadlineNobodyAtWork() {
        SetWorkshop x = crafts(1);
        x.job(0, 2, 0);
        x.job(0, 2, 0);
        due.is("one would begin", x.run(2), 2);
        row("it is not begun", x, 1, 0, -1, -1, -1, 0, 0, 0, -1);
        events("one would begin", x, 0, 5, 0, 2, 1, 0);
        due.is("all done at the deadline", x.run(4), 0);
        x.plan(0, 2, 3);
        x.after(1, 0);
        due.is("cancelled at the deadline", x.run(2), 1);
        due.is("state", x.state(1, 0), 3);
    }

    private static void failuresByNumber() {
        SetWorkshop x = crafts(3);
        due.is("failures ahead of a run", x.failures(), 0);
        x.job(0, 9, 0);
        x.job(0, 9, 0);
        x.job(0, 9, 0);
        x.plan(0, 8, 1);
        x.plan(2, 3, 9);
        x.body(1, 2, 1, 1);
        x.run(100);
        due.is("failures", x.failures(), 3);
        int[][] want = {{0, 1, 8, -1}, {1, 13, 9, 0}, {2, 9, 3, 0}};
        for (int i = 0; i < 3; i++) {
            for (int what = 0; what < 4; what++) {
                due.is("failure(" + i + ", " + what + ")", x.failure(i, what), want[i][what]);
            }
            due.is("failure: another what", x.failure(i, 4), -1);
            due.is("failure: what below 0", x.failure(i, -1), -1);
        }
        due.throwsNoSuchElement("failure(3, 0)", () -> x.failure(3, 0));
        due.throwsNoSuchElement("failure(3, 9)", () -> x.failure(3, 9));
        due.throwsNoSuchElement("failure(-1, 0)", () -> x.failure(-1, 0));
        due.throwsNoSuchElement("failure(HIGH, 0)", () -> x.failure(HIGH, 0));
        x.again();
        due.is("failures behind again", x.failures(), 0);
        due.throwsNoSuchElement("failure(0, 0)", () -> x.failure(0, 0));
    }

    private static void theLeastCulprit() {
        SetWorkshop x = crafts(3);
        for (int i = 0; i < 4; i++) {
            x.job(0, 9, 0);
        }
        x.after(0, 2);
        x.after(0, 3);
        x.plan(1, 1, 1);
        x.plan(2, 5, 1);
        x.plan(3, 2, 1);
        x.run(100);
        due.is("cancelled", x.state(0, 0), 3);
        // 3 failed first, 1 is less, but it is leaning on 2 and 3 alone.
        due.is("the least of all that failed", x.state(0, 7), 2);
    }

    private static void logOrder() {
        SetWorkshop x = crafts(1, 3);
        x.job(1, 2, 5);
        x.job(1, 2, 0);
        x.job(0, 2, 0);
        x.job(1, 2, 0);
        x.job(0, 1, 0);
        x.job(1, 1, 0);
        x.plan(0, 2, 1);
        x.after(5, 0);
        x.run(100);
        events("order", x, 0, 5, 0, 0, 5, 1, 0, 5, 2, 0, 5, 3,
            2, 1, 1, 2, 1, 2, 2, 1, 3, 2, 2, 0, 2, 3, 5, 2, 5, 4, 3, 1, 4);
        due.is("log(11, 0)", x.log(11, 0), -1);
        due.is("log(-1, 0)", x.log(-1, 0), -1);
        due.is("log(0, 3)", x.log(0, 3), -1);
        due.is("log(0, -1)", x.log(0, -1), -1);
        due.is("log(HIGH, 0)", x.log(HIGH, 0), -1);
    }

    private static void machinesHad() {
        SetWorkshop x = crafts(2);
        x.machine();
        x.machine();
        x.machine();
        x.job(0, 3, 0);
        x.job(0, 3, 1);
        x.needs(1, 0);
        x.needs(0, 0);
        x.needs(0, 1);
        due.is("had ahead of a run", x.had(0), -1);
        x.run(100);
        due.is("had(0)", x.had(0), 1);
        due.is("had(1)", x.had(1), 0);
        due.is("had(2)", x.had(2), -1);
        x.run(2);
        due.is("had(0), cut", x.had(0), 0);
        due.is("audit", x.audit(), 0);
        due.throwsNoSuchElement("had(3)", () -> x.had(3));
        due.throwsNoSuchElement("had(-1)", () -> x.had(-1));
    }

    private static void idleMinutes() {
        SetWorkshop x = crafts(2, 3, 0);
        x.job(0, 10, 0);
        x.job(0, 4, 0);
        x.job(1, 5, 0);
        x.plan(1, 3, 1);
        due.is("idle ahead of a run", x.idle(1), 0);
        x.run(100);
        due.is("idle(0)", x.idle(0), 7);
        due.is("idle(1)", x.idle(1), 25);
        due.is("idle(2)", x.idle(2), 0);
        x.run(4);
        due.is("idle(0), cut", x.idle(0), 1);
        due.is("idle(1), cut", x.idle(1), 8);
        due.throwsNoSuchElement("idle(3)", () -> x.idle(3));
        due.throwsNoSuchElement("idle(-1)", () -> x.idle(-1));
    }

    private static void wrongInputs() {
        SetWorkshop x = crafts(1);
        x.job(0, 1, 0);
        for (int run = 0; run < 2; run++) {
            due.is("state: another what", x.state(0, 8), -1);
            due.is("state: what below 0", x.state(0, -1), -1);
            due.is("count(9)", x.count(9), -1);
            due.is("count(-1)", x.count(-1), -1);
            due.is("audit", x.audit(), 0);
            for (int n : new int[] {-1, 1, LOW, HIGH}) {
                due.throwsNoSuchElement("state", () -> x.state(n, 0));
                due.throwsNoSuchElement("state, another what", () -> x.state(n, 9));
            }
            for (int n : new int[] {-1, 60, LOW, HIGH}) {
                due.throwsNoSuchElement("left", () -> x.left(n));
            }
            x.run(3);
        }
    }
}
