import java.util.List;

/** The document's words in Term 3: a run, minute by minute, its answer and its log. */
public final class SaysRunTest {
    private static final int LOW = Shops.LOW;
    private static final int HIGH = Shops.HIGH;

    private final Sentences doc = new Sentences("SaysRunTest");

    public static void main(String[] args) {
        all().end();
    }

    static Sentences all() {
        SaysRunTest test = new SaysRunTest();
        test.begunAnew();
        test.neverAtOnce();
        test.jobsThatEnd();
        test.whatComesBack();
        test.cancelled();
        test.deadline();
        test.orderOfBeginning();
        test.whoBegins();
        test.howItEnds();
        test.log();
        return test.doc;
    }

    private void begunAnew() {
        doc.says("Term 3", "A RUN up to a DEADLINE (1 to 1000000), begun anew each time:", due -> {
            SetWorkshop x = Shops.jobs(1, 1, 2);
            for (int deadline : new int[] {LOW, -1, 0, 1000001, HIGH}) {
                due.is("run(" + deadline + ")", x.run(deadline), -2);
                due.is("there is no run", x.count(4), -1);
            }
            due.is("run(1)", x.run(1), 2);
            due.is("ended in minute 1", x.state(0, 2), 1);
            due.is("run(1000000)", x.run(1000000), 0);
            List<String> first = Shops.answers(x);
            x.run(2);
            x.run(1000000);
            Shops.same(due, "the same run once more", Shops.answers(x), first);
        });
        doc.says("Term 3", "all JOBS are NOT BEGUN, all WORKERS and MACHINES free, STOCKS have FIRST.", due -> {
            SetWorkshop x = Shops.jobs(1, 5, 1);
            x.machine();
            x.stock(0, 10);
            x.needs(0, 0);
            x.needs(1, 0);
            x.uses(0, 0, 10);
            x.gives(1, 0, 3);
            for (int time = 0; time < 3; time++) {
                due.is("interrupted", x.run(4), 2);
                Shops.row(due, x, 0, 4, 0, 4, 0, 4, 1);
                due.is("left of 10", x.left(0), 2);
                due.is("all done", x.run(6), 0);
                Shops.row(due, x, 0, 1, 0, 5, 0, 5, 0);
                Shops.row(due, x, 1, 1, 5, 6, 0, 1, 0);
                due.is("left", x.left(0), 3);
            }
        });
    }

    private void neverAtOnce() {
        doc.says("Term 3", "NEVER is at once each JOB whose CRAFT has no WORKERS,", due -> {
            SetWorkshop x = Shops.crafts(0, 1);
            x.job(0, 1, 0);
            x.job(1, 4, 0);
            due.is("run", x.run(9), 1);
            Shops.row(due, x, 0, 5, -1, -1, -1, 0, 0, 0, -1);
            Shops.events(due, x, 0, 5, 1, 0, 6, 0, 4, 1, 1);
        });
        doc.says("Term 3", "or that USES more of a STOCK than FIRST and what all other JOBS GIVE of it are together,", due -> {
            // FIRST 3, others give 4 and 5: 12 is enough, 13 is not; its own gift does not count.
            SetWorkshop x = Shops.jobs(1, 1, 1, 1);
            x.stock(0, 3);
            x.gives(0, 0, 4);
            x.gives(2, 0, 5);
            x.gives(1, 0, 1000000);
            x.uses(1, 0, 12);
            due.is("as much as there will be", x.run(9), 0);
            due.is("it begins last", x.state(1, 1), 2);
            x.uses(1, 0, 13);
            due.is("one more", x.run(9), 1);
            Shops.events(due, x, 0, 5, 0, 0, 6, 1, 1, 1, 0, 1, 5, 2, 2, 1, 2);
            // What one that is NEVER would give is counted with all others.
            SetWorkshop y = Shops.crafts(1, 0);
            y.job(0, 3, 0);
            y.job(1, 1, 0);
            y.job(0, 1, 0);
            y.gives(1, 5, 1);
            y.uses(2, 5, 1);
            due.is("run", y.run(9), 1);
            Shops.events(due, y, 0, 5, 0, 0, 6, 1, 3, 1, 0, 3, 6, 2);
            SetWorkshop great = Shops.jobs(2, 1, 1, 1, 1);
            great.gives(0, 0, 1000000);
            great.gives(1, 0, 1000000);
            great.uses(2, 0, 1000000);
            great.uses(3, 0, 1000000);
            due.is("great amounts", great.run(9), 0);
        });
        doc.says("Term 3", "and each LEANING on such a one.", due -> {
            SetWorkshop x = Shops.crafts(1, 0);
            x.job(0, 1, 0);
            x.job(0, 1, 0);
            x.job(1, 1, 0);
            x.job(0, 1, 0);
            x.job(0, 1, 0);
            x.after(0, 1);
            x.after(1, 2);
            x.uses(3, 0, 1);
            x.after(4, 3);
            due.is("run", x.run(9), 1);
            Shops.events(due, x, 0, 6, 0, 0, 6, 1, 0, 6, 2, 0, 6, 3, 0, 6, 4);
            due.is("the last minute", x.count(6), 0);
            due.is("never at once comes ahead of cancelled", neverNotCancelled().state(2, 0), 5);
        });
    }

    /** Job 2 is after 0, which fails, and after 1, which has no workers. */
    private static SetWorkshop neverNotCancelled() {
        SetWorkshop x = Shops.crafts(1, 0);
        x.job(0, 2, 0);
        x.job(1, 2, 0);
        x.job(0, 2, 0);
        x.plan(0, 1, 1);
        x.after(2, 0);
        x.after(2, 1);
        x.run(9);
        return x;
    }

    private void jobsThatEnd() {
        doc.says("Term 3", "From minute 0 on, at each minute in which something happens:", due -> {
            SetWorkshop x = Shops.jobs(1, 10000, 1, 9999);
            due.is("run", x.run(1000000), 0);
            Shops.events(due, x, 0, 5, 0, 10000, 1, 0, 10000, 5, 1, 10001, 1, 1, 10001, 5, 2,
                20000, 1, 2);
            // As many minutes as there can be in which something happens: one behind the other.
            SetWorkshop all = Shops.crafts(1);
            for (int i = 0; i < 200; i++) {
                all.job(0, 2, 0);
            }
            due.is("all jobs", all.run(1000), 0);
            due.is("the last one", all.state(199, 2), 400);
            due.is("all but the last", all.run(399), 2);
            due.is("it is interrupted", all.state(199, 0), 4);
        });
        doc.says("Term 3", "(a) The JOBS that end in this minute, by number: a JOB that began at s ends at s and the minute of its PLAN, if it has one: it FAILED by that kind;", due -> {
            SetWorkshop x = Shops.jobs(1, 5, 5, 5, 5);
            x.plan(1, 1, 9);
            x.plan(2, 4, 1);
            x.plan(3, 5, 5);
            due.is("run", x.run(99), 1);
            Shops.row(due, x, 0, 1, 0, 5, 0, 5, 0, 0);
            Shops.row(due, x, 1, 2, 5, 6, 0, 1, 0, 9);
            Shops.row(due, x, 2, 2, 6, 10, 0, 4, 0, 1);
            Shops.row(due, x, 3, 2, 10, 15, 0, 5, 0, 5);
            // The plan's kind, though the body would fail too.
            x.body(3, 5, 0, 0);
            x.run(99);
            due.is("the plan's kind", x.state(3, 6), 5);
            // In one minute, by number, whichever worker each has.
            SetWorkshop y = Shops.crafts(2);
            y.job(0, 3, 1);
            y.job(0, 3, 0);
            y.run(9);
            due.is("worker of job 0", y.state(0, 3), 1);
            Shops.events(due, y, 0, 5, 0, 0, 5, 1, 3, 1, 0, 3, 1, 1);
        });
        doc.says("Term 3", "else at s and MINUTES: it FAILED by its BODY's kind, if that fails, else it is DONE.", due -> {
            SetWorkshop x = Shops.jobs(1, 5, 4, 3);
            x.body(1, 5, 0, 0);
            x.body(2, 5, 0, 0);
            x.piece(2, 1);
            due.is("run", x.run(99), 1);
            Shops.row(due, x, 0, 1, 0, 5, 0, 5, 0, 0);
            Shops.row(due, x, 1, 2, 5, 9, 0, 4, 0, 13);
            Shops.row(due, x, 2, 1, 9, 12, 0, 3, 0, 0);
        });
        doc.says("Term 3", "Its WORKER and MACHINES are free; DONE it brings what it GIVES;", due -> {
            for (int plan = 0; plan < 2; plan++) {
                SetWorkshop x = Shops.jobs(1, 3, 1);
                x.machine();
                x.needs(0, 0);
                x.needs(1, 0);
                x.gives(0, 0, 7);
                if (plan == 1) {
                    x.plan(0, 3, 1);
                }
                x.run(9);
                due.is("the next begins", x.state(1, 1), 3);
                due.is("with its worker", x.state(1, 3), 0);
                due.is("what it gives", x.left(0), plan == 0 ? 7 : 0);
                x.run(2);
                due.is("it brings nothing ahead of its end", x.left(0), 0);
            }
        });
    }

    private void whatComesBack() {
        doc.says("Term 3", "FAILED the rest of what it USES comes back: of each amount what amount * FAR / MINUTES (cut) is less than that.", due -> {
            SetWorkshop x = Shops.jobs(1, 10000);
            x.stock(0, 1);
            x.stock(1, 1000000);
            x.stock(2, 7);
            x.uses(0, 0, 1);
            x.uses(0, 1, 1000000);
            x.uses(0, 2, 5);
            int[] minute = {1, 9999, 10000, 4000, 3999};
            int[] one = {1, 1, 0, 1, 1};
            int[] million = {999900, 100, 0, 600000, 600100};
            int[] five = {7, 3, 2, 5, 6};
            for (int i = 0; i < minute.length; i++) {
                x.plan(0, minute[i], 1);
                x.run(1000000);
                due.is("of 1 behind " + minute[i], x.left(0), one[i]);
                due.is("of 1000000 behind " + minute[i], x.left(1), million[i]);
                due.is("of 5 behind " + minute[i] + " (7 first)", x.left(2), five[i]);
            }
            manyStocksComeBack(due);
            // One that fails by its body was at work for all its minutes: nothing comes back.
            SetWorkshop y = Shops.body(5, -1, 0, 1);
            y.stock(0, 9);
            y.uses(0, 0, 9);
            y.run(9);
            due.is("failed by its body", y.left(0), 0);
            // DONE it brings nothing back either.
            y.body(0, 0, 0, 0);
            y.run(9);
            due.is("done", y.left(0), 0);
        });
        doc.says("Term 3", "FAR are the minutes that it was at work.", due -> {
            SetWorkshop x = Shops.jobs(1, 4, 6, 9);
            x.plan(1, 2, 1);
            x.run(10);
            due.is("done", x.state(0, 4), 4);
            due.is("failed by plan", x.state(1, 4), 2);
            due.is("interrupted", x.state(2, 4), 4);
            x.run(3);
            due.is("not begun", x.state(2, 4), 0);
        });
    }

    private static void manyStocksComeBack(Due due) {
        SetWorkshop x = Shops.jobs(1, 4);
        x.plan(0, 3, 1);
        for (int i = 0; i < 60; i++) {
            x.stock(i, 8 + i);
            x.uses(0, i, 8);
        }
        for (int deadline : new int[] {3, 1}) {
            x.run(deadline);
            for (int i = 0; i < 60; i++) {
                due.is("left(" + i + ") in minute " + deadline, x.left(i), i + 8 - 2 * deadline);
            }
        }
    }

    private void cancelled() {
        doc.says("Term 3", "(b) Each that is LEANING on one that FAILED in this minute, and is NOT BEGUN, is CANCELLED.", due -> {
            SetWorkshop x = Shops.jobs(3, 4, 4, 4, 4, 4, 9);
            x.after(3, 0);
            x.after(4, 3);
            x.after(2, 1);
            x.plan(0, 2, 6);
            due.is("run", x.run(99), 1);
            int[] state = {2, 1, 1, 3, 3, 1};
            for (int job = 0; job < 6; job++) {
                due.is("state of " + job, x.state(job, 0), state[job]);
            }
            Shops.events(due, x, 0, 5, 0, 0, 5, 1, 0, 5, 5, 2, 2, 0, 2, 3, 3, 2, 3, 4,
                4, 1, 1, 4, 5, 2, 8, 1, 2, 9, 1, 5);
            // Cancelled once, by the first that failed; the second finds it so.
            SetWorkshop y = Shops.jobs(2, 4, 4, 1);
            y.after(2, 0);
            y.after(2, 1);
            y.plan(0, 3, 1);
            y.plan(1, 2, 1);
            y.run(99);
            Shops.events(due, y, 0, 5, 0, 0, 5, 1, 2, 2, 1, 2, 3, 2, 3, 2, 0);
            // At the deadline too.
            y.run(2);
            Shops.events(due, y, 0, 5, 0, 0, 5, 1, 2, 2, 1, 2, 3, 2, 2, 4, 0);
        });
    }

    private void deadline() {
        doc.says("Term 3", "(c) At the DEADLINE those that are at work are INTERRUPTED, by number:", due -> {
            SetWorkshop x = Shops.crafts(3);
            x.job(0, 5, 2);
            x.job(0, 6, 1);
            x.job(0, 6, 0);
            x.run(5);
            due.is("one that ends at the deadline is done", x.state(0, 0), 1);
            Shops.events(due, x, 0, 5, 0, 0, 5, 1, 0, 5, 2, 5, 1, 0, 5, 4, 1, 5, 4, 2);
            due.is("a minute more", x.run(6), 0);
            due.is("a minute less", x.run(4), 2);
            for (int job = 0; job < 3; job++) {
                Shops.row(due, x, job, 4, 0, 4, 2 - job, 4);
            }
            x.plan(1, 4, 3);
            x.run(4);
            due.is("one that fails at the deadline by its plan", x.state(1, 0), 2);
            x.plan(1, 5, 3);
            x.run(4);
            due.is("one that would fail later", x.state(1, 0), 4);
            due.is("by no kind", x.state(1, 6), 0);
            SetWorkshop y = Shops.jobs(1, 10000);
            due.is("run(1)", y.run(1), 2);
            due.is("run(9999)", y.run(9999), 2);
            due.is("run(10000)", y.run(10000), 0);
        });
        doc.says("Term 3", "WORKER, MACHINES and the rest of STOCK come back as told, and the RUN ends.", due -> {
            SetWorkshop x = Shops.jobs(1, 9, 1);
            x.machine();
            x.needs(0, 0);
            x.needs(1, 0);
            x.stock(0, 1000000);
            x.stock(1, 6);
            x.uses(0, 0, 1000000);
            x.uses(0, 1, 5);
            x.uses(1, 1, 1);
            x.gives(0, 2, 8);
            due.is("run", x.run(7), 2);
            // 1000000 * 7 / 9 is 777777, 5 * 7 / 9 is 3
            due.is("left(0)", x.left(0), 222223);
            due.is("left(1)", x.left(1), 3);
            due.is("it gives nothing", x.left(2), 0);
            due.is("the next does not begin", x.state(1, 0), 0);
            due.is("the last minute", x.count(6), 7);
            Shops.events(due, x, 0, 5, 0, 7, 4, 0);
            x.run(10);
            due.is("with time enough it does", x.state(1, 1), 9);
            // With a plan that lies behind the deadline, MINUTES are still what it is measured by.
            x.plan(0, 8, 1);
            x.run(7);
            due.is("left(0) with a plan", x.left(0), 222223);
        });
        doc.says("Term 3", "(A JOB that has a BODY of kind 1 to 5 was NOTICED AT WORK (2), if FAR is below MINUTES / 2 (cut), all others IN A WAIT (1).)", due -> {
            int[][] minutesFarNoticed = {{2, 1, 1}, {3, 1, 1}, {3, 2, 1}, {4, 1, 2}, {4, 2, 1},
                {5, 1, 2}, {5, 2, 1}, {5, 3, 1}, {6, 2, 2}, {6, 3, 1}, {10000, 4999, 2},
                {10000, 5000, 1}, {9999, 4998, 2}, {9999, 4999, 1}};
            for (int[] row : minutesFarNoticed) {
                for (int kind = 0; kind <= 5; kind++) {
                    SetWorkshop x = Shops.jobs(1, 3, row[0]);
                    x.after(1, 0);
                    x.body(1, kind, 0, 0);
                    x.run(3 + row[1]);
                    due.is(row[0] + " minutes, far " + row[1] + ", kind " + kind, x.state(1, 5),
                        kind == 0 ? 1 : row[2]);
                    due.is("far", x.state(1, 4), row[1]);
                    due.is("not interrupted", x.state(0, 5), 0);
                }
            }
        });
    }

    private void orderOfBeginning() {
        doc.says("Term 3", "(d) CRAFT by CRAFT:", due -> {
            SetWorkshop x = Shops.crafts(1, 1, 1);
            x.machine();
            for (int job = 0; job < 3; job++) {
                x.job(2 - job, 1, job * 500);
                x.needs(job, 0);
            }
            x.run(9);
            for (int job = 0; job < 3; job++) {
                due.is("craft " + (2 - job) + " began", x.state(job, 1), 2 - job);
            }
        });
        doc.says("Term 3", "its JOBS that are NOT BEGUN and READY (all BEFORE them are DONE),", due -> {
            SetWorkshop x = Shops.jobs(4, 2, 5, 1, 1);
            x.after(2, 0);
            x.after(2, 1);
            x.after(3, 0);
            x.run(99);
            due.is("one of two is done", x.state(2, 1), 5);
            due.is("its only one is done", x.state(3, 1), 2);
            Shops.events(due, x, 0, 5, 0, 0, 5, 1, 2, 1, 0, 2, 5, 3, 3, 1, 3, 5, 1, 1, 5, 5, 2,
                6, 1, 2);
        });
        doc.says("Term 3", "by PRIORITY (the lesser first), then number:", due -> {
            SetWorkshop x = Shops.crafts(1);
            int[] priority = {1000, 5, 0, 5, 999, 0};
            for (int p : priority) {
                x.job(0, 1, p);
            }
            x.run(99);
            int[] began = {5, 2, 0, 3, 4, 1};
            for (int job = 0; job < 6; job++) {
                due.is("job " + job + " began", x.state(job, 1), began[job]);
            }
        });
    }

    private void whoBegins() {
        doc.says("Term 3", "each BEGINS, if a WORKER of the CRAFT is free (it takes the least),", due -> {
            // Craft 1 has workers 1 to 3; worker 2 is free first, then 1 and 3 in one minute.
            SetWorkshop x = Shops.crafts(1, 3);
            for (int minutes : new int[] {5, 2, 5, 9, 9, 9}) {
                x.job(1, minutes, 0);
            }
            x.run(99);
            int[] worker = {1, 2, 3, 2, 1, 3};
            int[] began = {0, 0, 0, 2, 5, 5};
            for (int job = 0; job < 6; job++) {
                due.is("worker of job " + job, x.state(job, 3), worker[job]);
                due.is("job " + job + " began", x.state(job, 1), began[job]);
            }
            due.is("another craft's worker helps nobody", x.idle(0), 14);
        });
        doc.says("Term 3", "all its MACHINES are,", due -> {
            SetWorkshop x = Shops.jobs(4, 3, 4, 1, 1);
            for (int i = 0; i < 40; i++) {
                x.machine();
            }
            x.needs(0, 0);
            x.needs(1, 39);
            x.needs(2, 0);
            x.needs(2, 39);
            x.needs(3, 38);
            x.run(99);
            due.is("both are free", x.state(2, 1), 4);
            due.is("its own is free", x.state(3, 1), 0);
        });
        doc.says("Term 3", "and all that it USES is there (it goes from the STOCKS).", due -> {
            SetWorkshop x = Shops.jobs(4, 9, 1, 1, 1);
            x.stock(0, 10);
            x.stock(59, 3);
            x.uses(0, 0, 4);
            x.uses(1, 0, 6);
            x.uses(1, 59, 3);
            x.uses(2, 0, 1);
            x.gives(3, 0, 1);
            due.is("run", x.run(99), 0);
            due.is("the last of both stocks", x.state(1, 1), 0);
            due.is("one is not there yet", x.state(2, 1), 1);
            due.is("left(0)", x.left(0), 0);
            due.is("left(59)", x.left(59), 0);
            x.uses(1, 59, 2);
            x.uses(2, 59, 2);
            x.gives(3, 59, 1);
            due.is("one short of the second stock", x.run(99), 0);
            due.is("it waits", x.state(2, 1), 1);
            due.is("left(59)", x.left(59), 0);
        });
        doc.says("Term 3", "(What is given back in this minute is there; nobody waits for what an earlier one can't have.)", due -> {
            SetWorkshop x = Shops.jobs(2, 4, 9, 1);
            x.machine();
            x.stock(0, 10);
            x.needs(0, 0);
            x.uses(0, 0, 10);
            x.plan(0, 2, 1);
            x.needs(2, 0);
            x.uses(2, 0, 5);
            x.run(99);
            due.is("machine, worker and rest are there at once", x.state(2, 1), 2);
            due.is("left", x.left(0), 0);
            SetWorkshop y = Shops.crafts(2);
            y.machine();
            y.stock(0, 5);
            y.job(0, 4, 0);
            y.job(0, 4, 1);
            y.job(0, 4, 2);
            y.needs(0, 0);
            y.needs(1, 0);
            y.uses(1, 0, 5);
            y.uses(2, 0, 5);
            y.gives(2, 0, 5);
            due.is("run", y.run(99), 0);
            due.is("the later one takes the stock", y.state(2, 1), 0);
            due.is("the earlier one begins later", y.state(1, 1), 4);
        });
    }

    private void howItEnds() {
        doc.says("Term 3", "A RUN ends too when nobody is at work and nobody BEGAN in this minute: then each that is NOT BEGUN is NEVER.", due -> {
            // Both could have the stock, but not one behind the other.
            SetWorkshop x = Shops.jobs(2, 3, 3, 1);
            x.stock(0, 10);
            x.uses(0, 0, 6);
            x.uses(1, 0, 6);
            x.after(2, 1);
            due.is("run", x.run(99), 1);
            due.is("the last minute", x.count(6), 3);
            Shops.events(due, x, 0, 5, 0, 3, 1, 0, 3, 6, 1, 3, 6, 2);
            // The minute is the deadline: nobody at work, nobody who would begin.
            due.is("run(3)", x.run(3), 1);
            Shops.events(due, x, 0, 5, 0, 3, 1, 0, 3, 6, 1, 3, 6, 2);
            // Two that wait for each other's gift, in minute 0.
            SetWorkshop y = Shops.jobs(2, 1, 1);
            y.uses(0, 0, 1);
            y.gives(0, 1, 1);
            y.uses(1, 1, 1);
            y.gives(1, 0, 1);
            due.is("run", y.run(1), 1);
            Shops.events(due, y, 0, 6, 0, 0, 6, 1);
            due.is("no jobs at all", new SetWorkshop().run(1), 0);
        });
        doc.says("Term 3", "It answers 2, if somebody was INTERRUPTED,", due -> {
            SetWorkshop x = Shops.jobs(2, 3, 2);
            due.is("one is done, one interrupted", x.run(2), 2);
            x.plan(1, 1, 1);
            due.is("one failed, one interrupted", x.run(2), 2);
            due.is("nobody interrupted", x.run(3), 1);
            SetWorkshop y = Shops.crafts(1, 0);
            y.job(0, 2, 0);
            y.job(1, 2, 0);
            due.is("one never, one interrupted", y.run(1), 2);
        });
        doc.says("Term 3", "or at the DEADLINE (with nobody at work) one would BEGIN by (d);", due -> {
            SetWorkshop x = Shops.jobs(1, 2, 2, 2);
            x.after(2, 1);
            due.is("one would begin", x.run(2), 2);
            Shops.row(due, x, 1, 0, -1, -1, -1, 0, 0, 0, -1);
            Shops.row(due, x, 2, 0, -1, -1, -1, 0, 0, 0, -1);
            Shops.events(due, x, 0, 5, 0, 2, 1, 0);
            // It would not: by its stock, by its craft, by one before it that failed.
            x.uses(1, 0, 1);
            x.gives(2, 0, 1);
            due.is("it lacks its stock", x.run(2), 1);
            due.is("never", x.state(1, 0), 5);
            SetWorkshop y = Shops.jobs(1, 2, 2);
            y.after(1, 0);
            due.is("ready at the deadline", y.run(2), 2);
            y.plan(0, 2, 1);
            due.is("cancelled at the deadline", y.run(2), 1);
            due.is("state", y.state(1, 0), 3);
            // What comes back or is brought at the deadline is there.
            SetWorkshop z = Shops.jobs(2, 4, 1);
            z.stock(0, 4);
            z.uses(0, 0, 4);
            z.uses(1, 0, 2);
            z.plan(0, 2, 1);
            due.is("with the rest it would begin", z.run(2), 2);
            z.uses(1, 0, 3);
            due.is("the rest is too small", z.run(2), 1);
        });
        doc.says("Term 3", "else 0, if all JOBS are DONE, else 1.", due -> {
            due.is("no jobs", Shops.crafts(1).run(5), 0);
            SetWorkshop x = Shops.jobs(1, 2, 2);
            due.is("all done ahead of the deadline", x.run(5), 0);
            due.is("all done at the deadline", x.run(4), 0);
            x.plan(1, 2, 1);
            due.is("one failed", x.run(5), 1);
            due.is("one failed at the deadline", x.run(4), 1);
            x.clearPlan();
            x.body(1, 5, 0, 0);
            due.is("one failed by its body", x.run(5), 1);
            x.body(1, 0, 0, 0);
            x.uses(1, 0, 1);
            due.is("one never", x.run(5), 1);
        });
    }

    private void log() {
        doc.says("Term 3", "LOG: what happened, by minute, then by kind of event, then by JOB:", due -> {
            SetWorkshop x = Shops.crafts(1, 3);
            int[] craft = {1, 1, 0, 1, 0, 1};
            int[] minutes = {2, 2, 2, 2, 1, 1};
            int[] priority = {5, 0, 0, 0, 0, 0};
            for (int i = 0; i < 6; i++) {
                x.job(craft[i], minutes[i], priority[i]);
            }
            x.plan(0, 2, 1);
            x.after(5, 0);
            x.run(99);
            Shops.events(due, x, 0, 5, 0, 0, 5, 1, 0, 5, 2, 0, 5, 3,
                2, 1, 1, 2, 1, 2, 2, 1, 3, 2, 2, 0, 2, 3, 5, 2, 5, 4, 3, 1, 4);
            due.is("an empty log", Shops.crafts(1).count(5), 0);
            SetWorkshop full = Shops.crafts(32);
            for (int i = 0; i < 200; i++) {
                full.job(0, 1, 0);
            }
            full.run(99);
            due.is("two of each job", full.count(5), 400);
            due.is("the last event's job", full.log(399, 1), 199);
            due.is("the last event's minute", full.log(399, 0), 7);
            due.is("behind the last", full.log(400, 0), -1);
        });
        doc.says("Term 3", "1 ended DONE, 2 FAILED, 3 CANCELLED, 4 INTERRUPTED, 5 BEGAN, 6 NEVER (at its end, those at once in minute 0).", due -> {
            SetWorkshop x = Shops.sixStates();
            Shops.events(due, x, 0, 5, 0, 0, 5, 1, 0, 5, 3, 0, 6, 4, 2, 2, 1, 2, 3, 2, 4, 1, 0,
                10, 4, 3);
            // One that is NEVER at the end, beside one that is so at once.
            SetWorkshop y = Shops.jobs(1, 3, 1, 1);
            y.stock(0, 1);
            y.uses(0, 0, 1);
            y.uses(1, 0, 1);
            y.uses(2, 0, 2);
            y.run(99);
            Shops.events(due, y, 0, 5, 0, 0, 6, 2, 3, 1, 0, 3, 6, 1);
        });
    }
}
