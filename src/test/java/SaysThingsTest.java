import java.util.List;
import java.util.function.ToIntFunction;

/** The document's words on the object, the constants, STATUS, and Terms 1 and 4. */
public final class SaysThingsTest {
    private static final int LOW = Shops.LOW;
    private static final int HIGH = Shops.HIGH;
    private static final int[] BELOW_AND_ABOVE_JOBS = {LOW, -1, 3, HIGH};

    private final Sentences doc = new Sentences("SaysThingsTest");

    public static void main(String[] args) {
        all().end();
    }

    static Sentences all() {
        SaysThingsTest test = new SaysThingsTest();
        test.whatItIs();
        test.statusNumbers();
        test.statusRules();
        test.thingsByNumber();
        test.whatAJobHas();
        test.paths();
        return test.doc;
    }

    private void whatItIs() {
        doc.says("What it is", "A workshop for stage sets: jobs of crafts with prerequisites, machines and stock are taken by workers minute by minute in a told order; what the jobs compute may fail, and so may their plans; what depends on a failed job is cancelled, a deadline interrupts what runs, failures are gathered, books must add up.", due -> {
            SetWorkshop x = Shops.sixStates();
            for (int job = 0; job < 6; job++) {
                due.is("state of job " + job, x.state(job, 0), new int[] {1, 2, 3, 4, 5, 0}[job]);
            }
            due.is("the books add up", x.audit(), 0);
        });
        doc.says("What it is", "An object is used for at most 512 calls after it has been made; what later calls answer is free.", due -> {
            SetWorkshop x = new SetWorkshop();
            for (int call = 1; call <= 510; call++) {
                x.stock(59, 1000000);
            }
            due.is("call 511", x.stock(59, 1), 0);
            due.is("call 512", x.left(59), 510000001L);
        });
        doc.says("The constants", "The constants: `NONE = -1`: There is none.", due -> {
            due.is("NONE", SetWorkshop.NONE, -1);
            due.is("there is no first of the chain", new SetWorkshop().critical(0), SetWorkshop.NONE);
        });
    }

    /** Three jobs of four minutes, two machines; job 1 is after 0, 0 needs machine 0, 0 has a list. */
    private static SetWorkshop three() {
        SetWorkshop x = Shops.jobs(2, 4, 4, 4);
        x.machine();
        x.machine();
        x.after(1, 0);
        x.needs(0, 0);
        x.stock(0, 10);
        x.uses(0, 0, 4);
        x.body(0, 5, 0, 0);
        x.piece(0, 8);
        x.plan(2, 3, 6);
        return x;
    }

    private void statusNumbers() {
        doc.says("STATUS", "STATUS of calls where nothing else is said: 0 done;", due -> {
            SetWorkshop x = three();
            due.is("stock", x.stock(1, 1), 0);
            due.is("after", x.after(2, 1), 0);
            due.is("needs", x.needs(2, 1), 0);
            due.is("uses", x.uses(2, 1, 1), 0);
            due.is("gives", x.gives(2, 1, 1), 0);
            due.is("body", x.body(2, 1, 1, 1), 0);
            due.is("piece", x.piece(2, 1), 0);
            due.is("strip", x.strip(2), 0);
            due.is("plan", x.plan(0, 1, 1), 0);
        });
        doc.says("STATUS", "-1 a number is not that of a thing that is there;", due -> {
            SetWorkshop x = three();
            for (int n : BELOW_AND_ABOVE_JOBS) {
                due.is("after, job " + n, x.after(n, 0), -1);
                due.is("after, before " + n, x.after(0, n), -1);
                due.is("needs, job " + n, x.needs(n, 0), -1);
                due.is("uses, job " + n, x.uses(n, 0, 1), -1);
                due.is("gives, job " + n, x.gives(n, 0, 1), -1);
                due.is("body, job " + n, x.body(n, 0, 0, 0), -1);
                due.is("piece, job " + n, x.piece(n, 0), -1);
                due.is("strip, job " + n, x.strip(n), -1);
                due.is("plan, job " + n, x.plan(n, 1, 1), -1);
            }
            for (int n : new int[] {LOW, -1, 1, HIGH}) {
                due.is("job, craft " + n, x.job(n, 1, 0), -1);
            }
            for (int n : new int[] {LOW, -1, 2, 40, 64, HIGH}) {
                due.is("needs, machine " + n, x.needs(1, n), -1);
            }
            for (int n : new int[] {LOW, -1, 60, HIGH}) {
                due.is("stock, stock " + n, x.stock(n, 1), -1);
                due.is("uses, stock " + n, x.uses(0, n, 1), -1);
                due.is("gives, stock " + n, x.gives(0, n, 1), -1);
            }
        });
        doc.says("STATUS", "-2 a number is out of its range;", due -> {
            SetWorkshop x = three();
            for (int n : new int[] {LOW, -1, HIGH}) {
                due.is("craft(" + n + ")", x.craft(n), -2);
                due.is("stock, amount " + n, x.stock(0, n), -2);
                due.is("job, minutes " + n, x.job(0, n, 0), -2);
                due.is("job, priority " + n, x.job(0, 1, n), -2);
                due.is("uses, amount " + n, x.uses(0, 0, n), -2);
                due.is("gives, amount " + n, x.gives(0, 0, n), -2);
                due.is("body, kind " + n, x.body(0, n, 0, 0), -2);
                due.is("plan, minute " + n, x.plan(0, n, 1), -2);
                due.is("plan, kind " + n, x.plan(0, 1, n), -2);
                due.is("run(" + n + ")", x.run(n), -2);
            }
        });
        doc.says("STATUS", "-3 it is so already;", due -> {
            SetWorkshop x = three();
            due.is("after", x.after(1, 0), -3);
            due.is("needs", x.needs(0, 0), -3);
            due.is("strip", x.strip(1), -3);
        });
        doc.says("STATUS", "-4 it would close a ring;", due -> {
            SetWorkshop x = three();
            due.is("after itself", x.after(2, 2), -4);
            due.is("a ring of two", x.after(0, 1), -4);
            x.after(2, 1);
            due.is("a ring of three", x.after(0, 2), -4);
        });
        doc.says("STATUS", "-8 there are as many as can be;", due -> {
            SetWorkshop x = full();
            due.is("craft", x.craft(0), -8);
            due.is("machine", x.machine(), -8);
            due.is("stock", x.stock(0, 1), -8);
            due.is("job", x.job(0, 1, 0), -8);
            due.is("piece", x.piece(0, 1), -8);
        });
    }

    /** As many of everything as can be (with more than 512 calls: the stock alone takes 1000). */
    private static SetWorkshop full() {
        SetWorkshop x = Shops.crafts(4, 4, 4, 4, 4, 4, 4, 4);
        for (int i = 0; i < 40; i++) {
            x.machine();
        }
        for (int i = 0; i < 200; i++) {
            x.job(0, 5, 0);
        }
        for (int i = 0; i < 30; i++) {
            x.piece(0, 1);
        }
        for (int i = 0; i < 1000; i++) {
            x.stock(0, 1000000);
        }
        return x;
    }

    private void statusRules() {
        doc.says("STATUS", "the first of these that holds of those told.", due -> {
            SetWorkshop x = full();
            due.is("craft: -2 ahead of -8", x.craft(33), -2);
            due.is("craft: -2 ahead of -8, below", x.craft(-1), -2);
            due.is("stock: -1 ahead of -2", x.stock(60, -1), -1);
            due.is("stock: -2 ahead of -8", x.stock(0, 1000001), -2);
            due.is("stock: -2 ahead of -8, below", x.stock(0, -1), -2);
            due.is("job: -1 ahead of -2 and -8", x.job(8, 0, -1), -1);
            due.is("job: -2 ahead of -8", x.job(0, 0, 0), -2);
            due.is("job: -2 ahead of -8, priority", x.job(0, 1, 1001), -2);
            due.is("after: -1 ahead of -4", x.after(200, 200), -1);
            x.needs(0, 0);
            due.is("needs: -1 ahead of -3", x.needs(-1, 0), -1);
            due.is("uses: -1 ahead of -2, job", x.uses(200, 0, 0), -1);
            due.is("uses: -1 ahead of -2, stock", x.uses(0, 60, 0), -1);
            due.is("gives: -1 ahead of -2, job", x.gives(200, 0, 0), -1);
            due.is("gives: -1 ahead of -2, stock", x.gives(0, -1, 1000001), -1);
            due.is("body: -1 ahead of -2", x.body(-1, 6, 0, 0), -1);
            due.is("piece: -1 ahead of -8", x.piece(200, 1), -1);
            due.is("strip: -1 ahead of -3", x.strip(200), -1);
            due.is("plan: -1 ahead of -2", x.plan(200, 0, 0), -1);
        });
        doc.says("STATUS", "A call of craft() to clearPlan() that is done empties the RUN (answers are those ahead of any).", due -> {
            List<ToIntFunction<SetWorkshop>> calls = doneCalls();
            for (int i = 0; i < calls.size(); i++) {
                SetWorkshop ran = three();
                due.is("a run", ran.run(6), 2);
                SetWorkshop fresh = three();
                due.is("call " + i + " is done", calls.get(i).applyAsInt(ran) >= 0, true);
                calls.get(i).applyAsInt(fresh);
                Shops.same(due, "behind call " + i, Shops.answers(ran), Shops.answers(fresh));
                due.is("no run is left behind call " + i, ran.again(), false);
            }
            // Done is also what changes nothing: there is no plan to clear.
            SetWorkshop planless = Shops.jobs(1, 4);
            planless.run(9);
            due.is("no plans", planless.clearPlan(), 0);
            due.is("the run is emptied", planless.count(4), -1);
        });
        doc.says("STATUS", "A refused one changes nothing.", due -> {
            List<ToIntFunction<SetWorkshop>> calls = refusedCalls();
            for (int i = 0; i < calls.size(); i++) {
                SetWorkshop x = three();
                x.run(6);
                List<String> before = Shops.answers(x);
                due.is("call " + i + " is refused", calls.get(i).applyAsInt(x) < 0, true);
                Shops.same(due, "behind refused call " + i, Shops.answers(x), before);
                x.run(6);
                Shops.same(due, "run behind refused call " + i, Shops.answers(x), before);
                due.is("one plan", x.clearPlan(), 1);
            }
            SetWorkshop x = full();
            x.run(7);
            List<String> before = Shops.answers(x);
            x.craft(0);
            x.machine();
            x.stock(0, 1);
            x.job(0, 1, 0);
            x.piece(0, 1);
            Shops.same(due, "behind what is full", Shops.answers(x), before);
            SetWorkshop workers = Shops.crafts(31);
            due.is("too many workers", workers.craft(2), -8);
            due.is("workers", workers.count(1), 31);
            due.is("crafts", workers.count(0), 1);
            due.is("the last worker", workers.craft(1), 1);
        });
        doc.says("STATUS", "All memory is the workshop's own.", due -> {
            SetWorkshop one = three();
            one.run(6);
            List<String> before = Shops.answers(one);
            SetWorkshop other = full();
            other.body(0, 1, 9, 0);
            other.run(3);
            other.result(0);
            Shops.same(due, "beside another workshop", Shops.answers(one), before);
            Shops.same(due, "a new one", Shops.answers(new SetWorkshop()),
                Shops.answers(new SetWorkshop()));
            due.is("a new one has no crafts", new SetWorkshop().count(0), 0);
        });
    }

    /** Each call of craft() to clearPlan(), so that it is done on three(). */
    private static List<ToIntFunction<SetWorkshop>> doneCalls() {
        return List.of(
            x -> x.craft(0), x -> x.machine(), x -> x.stock(0, 0), x -> x.stock(0, 5),
            x -> x.job(0, 1, 0), x -> x.after(2, 0), x -> x.needs(1, 0), x -> x.uses(0, 0, 4),
            x -> x.gives(1, 0, 1), x -> x.body(0, 5, 0, 0), x -> x.piece(0, 1), x -> x.strip(0),
            x -> x.plan(2, 3, 6), x -> x.clearPlan());
    }

    /** Each way in which a call is refused on three(), run() too. */
    private static List<ToIntFunction<SetWorkshop>> refusedCalls() {
        return List.of(
            x -> x.craft(-1), x -> x.craft(33), x -> x.craft(31), x -> x.stock(-1, 1),
            x -> x.stock(60, 1), x -> x.stock(0, -1), x -> x.stock(0, 1000001),
            x -> x.job(-1, 1, 0), x -> x.job(1, 1, 0), x -> x.job(0, 0, 0),
            x -> x.job(0, 10001, 0), x -> x.job(0, 1, -1), x -> x.job(0, 1, 1001),
            x -> x.after(3, 0), x -> x.after(0, 3), x -> x.after(1, 0), x -> x.after(0, 1),
            x -> x.after(2, 2), x -> x.needs(3, 0), x -> x.needs(0, 2), x -> x.needs(0, 0),
            x -> x.uses(3, 0, 1), x -> x.uses(0, 60, 1), x -> x.uses(0, 0, 0),
            x -> x.uses(0, 0, 1000001), x -> x.gives(3, 0, 1), x -> x.gives(0, 60, 1),
            x -> x.gives(0, 0, 0), x -> x.gives(0, 0, 1000001), x -> x.body(3, 1, 1, 1),
            x -> x.body(0, -1, 1, 1), x -> x.body(0, 6, 1, 1), x -> x.piece(3, 1),
            x -> x.piece(-1, 1), x -> x.strip(3), x -> x.strip(1), x -> x.plan(3, 1, 1),
            x -> x.plan(0, 0, 1), x -> x.plan(0, 5, 1), x -> x.plan(0, 1, 0),
            x -> x.plan(2, 1, 10), x -> x.run(0), x -> x.run(1000001));
    }

    private void thingsByNumber() {
        doc.says("Term 1", "THINGS, numbered from 0 on:", due -> {
            SetWorkshop x = new SetWorkshop();
            for (int i = 0; i < 3; i++) {
                due.is("craft", x.craft(1), i);
                due.is("machine", x.machine(), i);
                due.is("job", x.job(i, 1, 0), i);
                due.is("stock " + i, x.stock(i, 1), 0);
            }
        });
        doc.says("Term 1", "CRAFTS (8 at most)", due -> {
            SetWorkshop x = new SetWorkshop();
            for (int i = 0; i < 8; i++) {
                due.is("craft " + i, x.craft(1), i);
                due.is("a job of it", x.job(i, 1, 0), i);
            }
            due.is("one more", x.craft(1), -8);
            due.is("a job of the ninth", x.job(8, 1, 0), -1);
            due.is("count(0)", x.count(0), 8);
        });
        doc.says("Term 1", "with WORKERS (32 in all; those of a CRAFT are numbered behind those of the one before),", due -> {
            SetWorkshop x = Shops.crafts(2, 0, 3);
            for (int craft : new int[] {2, 2, 2, 0, 0}) {
                x.job(craft, 1, 0);
            }
            x.run(5);
            for (int job = 0; job < 5; job++) {
                due.is("worker of job " + job, x.state(job, 3), new int[] {2, 3, 4, 0, 1}[job]);
            }
            SetWorkshop all = Shops.crafts(0, 31);
            due.is("two more than 32", all.craft(2), -8);
            due.is("the last one", all.craft(1), 2);
            due.is("one more", all.craft(1), -8);
            due.is("none more", all.craft(0), 3);
            all.job(2, 1, 0);
            for (int i = 0; i < 32; i++) {
                all.job(1, 1, 0);
            }
            all.run(9);
            due.is("the last worker", all.state(0, 3), 31);
            due.is("the last of craft 1", all.state(31, 3), 30);
            due.is("one waits", all.state(32, 1), 1);
            due.is("for the least", all.state(32, 3), 0);
        });
        doc.says("Term 1", "MACHINES (40),", due -> {
            SetWorkshop x = Shops.jobs(1, 1);
            for (int i = 0; i < 40; i++) {
                due.is("machine " + i, x.machine(), i);
                due.is("needs it", x.needs(0, i), 0);
            }
            due.is("one more", x.machine(), -8);
            due.is("needs machine 40", x.needs(0, 40), -1);
            x.run(1);
            for (int i = 0; i < 40; i++) {
                due.is("had(" + i + ")", x.had(i), 0);
            }
            due.throwsNoSuchElement("had(40)", () -> x.had(40));
        });
        doc.says("Term 1", "STOCKS (0 to 59; of each a FIRST amount, 0 at first),", due -> {
            SetWorkshop x = new SetWorkshop();
            for (int i = 0; i < 60; i++) {
                due.is("at first", x.left(i), 0);
                due.is("stock(" + i + ")", x.stock(i, i + 1), 0);
            }
            for (int i = 0; i < 60; i++) {
                due.is("left(" + i + ")", x.left(i), i + 1);
            }
            due.is("stock(60)", x.stock(60, 1), -1);
            due.is("stock(-1)", x.stock(-1, 1), -1);
            SetWorkshop y = Shops.jobs(1, 1);
            y.uses(0, 59, 1);
            due.is("a job that wants 1 of a stock of 0", y.run(5), 1);
        });
        doc.says("Term 1", "JOBS (200).", due -> {
            SetWorkshop x = Shops.crafts(32);
            for (int i = 0; i < 200; i++) {
                due.is("job " + i, x.job(0, 1, 0), i);
            }
            due.is("one more", x.job(0, 1, 0), -8);
            due.is("all are done", x.run(100), 0);
            due.is("the last one's end", x.state(199, 2), 7);
            due.throwsNoSuchElement("state(200, 0)", () -> x.state(200, 0));
        });
    }

    private void whatAJobHas() {
        doc.says("Term 1", "A JOB has a CRAFT, MINUTES (1 to 10000),", due -> {
            SetWorkshop x = Shops.crafts(1, 1);
            due.is("0 minutes", x.job(0, 0, 0), -2);
            due.is("10001 minutes", x.job(0, 10001, 0), -2);
            due.is("1 minute", x.job(0, 1, 0), 0);
            due.is("10000 minutes", x.job(1, 10000, 0), 1);
            x.run(1000000);
            Shops.row(due, x, 0, 1, 0, 1, 0);
            Shops.row(due, x, 1, 1, 0, 10000, 1);
        });
        doc.says("Term 1", "a PRIORITY (0 to 1000),", due -> {
            SetWorkshop x = Shops.crafts(1);
            due.is("-1", x.job(0, 1, -1), -2);
            due.is("1001", x.job(0, 1, 1001), -2);
            due.is("1000", x.job(0, 1, 1000), 0);
            due.is("999", x.job(0, 1, 999), 1);
            due.is("1", x.job(0, 1, 1), 2);
            due.is("0", x.job(0, 1, 0), 3);
            x.run(9);
            for (int job = 0; job < 4; job++) {
                due.is("job " + job + " began", x.state(job, 1), 3 - job);
            }
        });
        doc.says("Term 1", "JOBS that are BEFORE it (it is AFTER these),", due -> {
            SetWorkshop x = Shops.jobs(3, 2, 3, 1);
            x.after(2, 0);
            x.after(2, 1);
            x.run(9);
            due.is("behind both", x.state(2, 1), 3);
            due.is("those before do not wait", x.state(1, 1), 0);
        });
        doc.says("Term 1", "MACHINES that it NEEDS,", due -> {
            SetWorkshop x = Shops.jobs(3, 2, 3, 1);
            x.machine();
            x.machine();
            x.needs(0, 0);
            x.needs(1, 1);
            x.needs(2, 0);
            x.needs(2, 1);
            x.run(9);
            due.is("beside each other", x.state(1, 1), 0);
            due.is("behind both", x.state(2, 1), 3);
        });
        doc.says("Term 1", "of STOCKS what it USES and what it GIVES (amounts 1 to 1000000, of each STOCK one or none of both sorts),", due -> {
            SetWorkshop x = Shops.jobs(1, 1);
            for (int i = 0; i < 60; i++) {
                x.stock(i, 1000000);
                due.is("uses 1", x.uses(0, i, 1), 0);
                due.is("gives 1", x.gives(0, i, 1), 0);
            }
            due.is("uses 0", x.uses(0, 5, 0), -2);
            due.is("gives 0", x.gives(0, 5, 0), -2);
            due.is("uses 1000001", x.uses(0, 5, 1000001), -2);
            due.is("gives 1000001", x.gives(0, 5, 1000001), -2);
            due.is("uses 1000000", x.uses(0, 0, 1000000), 0);
            due.is("gives 1000000", x.gives(0, 1, 1000000), 0);
            due.is("run", x.run(1), 0);
            due.is("left(0)", x.left(0), 1);
            due.is("left(1)", x.left(1), 1999999);
            for (int i = 2; i < 60; i++) {
                due.is("left(" + i + ")", x.left(i), 1000000);
            }
        });
        doc.says("Term 1", "a BODY (a kind 0 to 5, numbers A and B; kind 0 at first),", due -> {
            SetWorkshop x = Shops.jobs(1, 1);
            due.is("no kind that could fail", x.check(0), 0);
            due.is("kind -1", x.body(0, -1, 0, 0), -2);
            due.is("kind 6", x.body(0, 6, 0, 0), -2);
            x.piece(0, 7);
            x.run(1);
            due.is("nothing is computed", x.result(0), 0);
            for (int kind = 0; kind <= 5; kind++) {
                due.is("kind " + kind, x.body(0, kind, 7, 0), 0);
                due.is("its check", x.check(0), 0);
                x.run(1);
                due.is("its result", x.result(0), new int[] {0, 1, 1, 7, 1, 8}[kind]);
            }
            due.is("numbers of any size", x.body(0, 5, LOW, HIGH), 0);
            due.is("numbers of any size", x.body(0, 5, HIGH, LOW), 0);
        });
        doc.says("Term 1", "a LIST of numbers (30 at most; none at first),", due -> {
            SetWorkshop x = Shops.jobs(1, 1);
            x.body(0, 5, 0, 0);
            due.is("none to strip", x.strip(0), -3);
            due.is("no list", x.check(0), 13);
            for (int i = 0; i < 30; i++) {
                due.is("piece " + i, x.piece(0, i + 1), 0);
            }
            due.is("one more", x.piece(0, 31), -8);
            x.run(1);
            due.is("the last one", x.part(0, 29), 30);
            due.is("their sum", x.result(0), 465);
        });
        doc.says("Term 1", "perhaps a PLAN: a minute (1 to MINUTES) and a kind (1 to 9).", due -> {
            SetWorkshop x = Shops.jobs(3, 4, 4, 4);
            due.is("minute 0", x.plan(0, 0, 1), -2);
            due.is("minute 5", x.plan(0, 5, 1), -2);
            due.is("kind 0", x.plan(0, 1, 0), -2);
            due.is("kind 10", x.plan(0, 1, 10), -2);
            due.is("minute 1, kind 9", x.plan(0, 1, 9), 0);
            due.is("minute 4, kind 1", x.plan(1, 4, 1), 0);
            x.run(9);
            Shops.row(due, x, 0, 2, 0, 1, 0, 1, 0, 9);
            Shops.row(due, x, 1, 2, 0, 4, 1, 4, 0, 1);
            Shops.row(due, x, 2, 1, 0, 4, 2, 4, 0, 0);
        });
        doc.says("Term 1", "LEANING on a JOB are those AFTER it, those AFTER these, and so on.", due -> {
            SetWorkshop x = Shops.crafts(1);
            for (int i = 0; i < 200; i++) {
                x.job(0, 1, 0);
            }
            // The odd joints first, so that parts are joined that have grown already.
            for (int i = 1; i < 199; i += 2) {
                x.after(i, i + 1);
            }
            for (int i = 0; i < 199; i += 2) {
                x.after(i, i + 1);
            }
            due.is("the next", x.leans(0, 1), true);
            due.is("the one behind it", x.leans(0, 2), true);
            due.is("the last", x.leans(0, 199), true);
            due.is("in the middle", x.leans(63, 128), true);
            due.is("not the other way", x.leans(199, 0), false);
            due.is("not on itself", x.leans(7, 7), false);
        });
    }

    /** Twenty layers of jobs of 1, 2 and 3 minutes, each after all of the layer ahead. */
    private static SetWorkshop layers() {
        SetWorkshop x = Shops.crafts(1);
        for (int job = 0; job < 60; job++) {
            x.job(0, 1 + job % 3, 0);
            int layer = job - job % 3;
            for (int before = layer - 3; before < layer; before++) {
                x.after(job, before);
            }
        }
        return x;
    }

    private void paths() {
        doc.says("Term 4", "TAIL of a JOB: its MINUTES and the greatest TAIL of those AFTER it;", due -> {
            SetWorkshop x = Shops.jobs(1, 5, 3, 4);
            due.is("alone", x.count(8), 5);
            x.after(1, 0);
            due.is("one after it", x.count(8), 8);
            x.after(2, 0);
            due.is("the greatest of two", x.count(8), 9);
            x.after(2, 1);
            due.is("in a row", x.count(8), 12);
            SetWorkshop y = Shops.crafts(1);
            for (int i = 0; i < 200; i++) {
                y.job(0, 10000, 0);
                y.after(i, i - 1);
            }
            due.is("the greatest there can be", y.count(8), 2000000);
            due.is("on a way through layers", layers().count(8), 60);
            SetWorkshop grows = Shops.crafts(1);
            for (int i = 0; i < 160; i++) {
                grows.job(0, 3, 0);
                grows.after(i, i - 1);
                due.is("with " + (i + 1) + " jobs in a row", grows.count(8), 3 * (i + 1));
            }
        });
        doc.says("Term 4", "HEAD likewise of those BEFORE it.", due -> {
            // 0 and 1 are before 2; 3 is long and alone, so that slack shows the heads.
            SetWorkshop x = Shops.jobs(1, 5, 3, 4, 100);
            due.is("alone", x.slack(2), 96);
            x.after(2, 1);
            due.is("one before it", x.slack(2), 93);
            x.after(2, 0);
            due.is("the greatest of two", x.slack(2), 91);
            x.after(0, 1);
            due.is("in a row", x.slack(2), 88);
            SetWorkshop layers = layers();
            for (int job = 0; job < 60; job++) {
                due.is("slack(" + job + ") in its layer", layers.slack(job), 2 - job % 3);
            }
        });
        doc.says("Term 4", "The CHAIN: the JOB with the greatest TAIL (of like ones the least),", due -> {
            due.is("without jobs", new SetWorkshop().critical(0), -1);
            due.is("one job", Shops.jobs(1, 5).critical(0), 0);
            due.is("the greatest", Shops.jobs(1, 5, 7, 6).critical(0), 1);
            due.is("the least of like ones", Shops.jobs(1, 5, 7, 7).critical(0), 1);
            SetWorkshop x = Shops.jobs(1, 7, 4, 4);
            x.after(1, 2);
            due.is("by tail, not by minutes", x.critical(0), 2);
        });
        doc.says("Term 4", "then, as long as there is one, of those AFTER it the one with the greatest TAIL (of like ones the least).", due -> {
            SetWorkshop x = Shops.jobs(1, 1, 1, 9, 5, 5, 4, 1);
            x.after(4, 2);
            x.after(3, 2);
            x.after(5, 2);
            x.after(6, 5);
            // 5 and 6 are five minutes together, like 3 and 4: the least of these is 3.
            int[] want = {2, 3};
            due.is("jobs of the chain", x.count(7), 2);
            for (int i = 0; i < 2; i++) {
                due.is("critical(" + i + ")", x.critical(i), want[i]);
            }
            due.is("there is none more", x.critical(2), -1);
            x.after(0, 5);
            x.after(1, 6);
            due.is("jobs of the longer chain", x.count(7), 4);
            int[] longer = {2, 5, 6, 1};
            for (int i = 0; i < 4; i++) {
                due.is("critical(" + i + ")", x.critical(i), longer[i]);
            }
            due.is("there is none more", x.critical(4), -1);
            SetWorkshop layers = layers();
            for (int i = 0; i < 20; i++) {
                due.is("critical(" + i + ") of layers", layers.critical(i), 3 * i + 2);
            }
            due.is("behind the last layer", layers.critical(20), -1);
        });
        doc.says("Term 4", "SLACK of a JOB: the greatest TAIL of all less its HEAD and TAIL, and its MINUTES more.", due -> {
            SetWorkshop x = Shops.jobs(1, 5, 3, 4, 2);
            x.after(1, 0);
            x.after(2, 1);
            x.after(3, 0);
            int[] slack = {0, 0, 0, 5};
            for (int job = 0; job < 4; job++) {
                due.is("slack(" + job + ")", x.slack(job), slack[job]);
            }
            due.is("one job alone", Shops.jobs(1, 10000).slack(0), 0);
        });
    }
}
