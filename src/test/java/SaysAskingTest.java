import java.util.List;

/** The document's words in promises 15 to 22: a run, and what is asked of its jobs and failures. */
public final class SaysAskingTest {
    private static final int LOW = Shops.LOW;
    private static final int HIGH = Shops.HIGH;
    private static final int[] NOT_0_TO_5 = {LOW, -1, 6, 64, 200, HIGH};

    private final Sentences doc = new Sentences("SaysAskingTest");

    public static void main(String[] args) {
        all().end();
    }

    static Sentences all() {
        SaysAskingTest test = new SaysAskingTest();
        test.runAndAgain();
        test.stateAndMinutes();
        test.stateOfTheRest();
        test.stateRefused();
        test.results();
        test.parts();
        test.checks();
        test.failures();
        return test.doc;
    }

    private void runAndAgain() {
        doc.says("Promise 15", "A RUN: what it answers;", due -> {
            SetWorkshop x = Shops.jobs(1, 2, 3);
            due.is("all done", x.run(5), 0);
            due.is("count(4)", x.count(4), 0);
            due.is("interrupted", x.run(4), 2);
            due.is("count(4)", x.count(4), 2);
            x.plan(0, 1, 1);
            due.is("one failed", x.run(5), 1);
            due.is("count(4)", x.count(4), 1);
            due.is("without anything", new SetWorkshop().run(1), 0);
        });
        doc.says("Promise 15", "-2: deadline is not as told.", due -> {
            SetWorkshop x = Shops.jobs(1, 2);
            for (int deadline : new int[] {LOW, -1, 0, 1000001, HIGH}) {
                due.is("run(" + deadline + ")", x.run(deadline), -2);
                due.is("there is no run", x.again(), false);
            }
            due.is("the least", x.run(1), 2);
            due.is("the greatest", x.run(1000000), 0);
            due.is("refused", x.run(0), -2);
            due.is("the run stands", x.count(4), 0);
            due.is("its job too", x.state(0, 2), 2);
            due.is("without jobs too", new SetWorkshop().run(0), -2);
        });
        doc.says("Promise 16", "The RUN is emptied:", due -> {
            SetWorkshop x = Shops.sixStates();
            x.again();
            for (int job = 0; job < 6; job++) {
                Shops.row(due, x, job, 0, -1, -1, -1, 0, 0, 0, -1);
            }
            due.is("result", x.result(0), 0);
            due.is("part", x.part(0, 0), 0);
            due.is("failures", x.failures(), 0);
            due.throwsNoSuchElement("failure(0, 0)", () -> x.failure(0, 0));
            due.is("left", x.left(0), 40);
            due.is("had", x.had(0), -1);
            due.is("idle", x.idle(0), 0);
            due.is("the answer", x.count(4), -1);
            due.is("events", x.count(5), 0);
            due.is("log(0, 0)", x.log(0, 0), -1);
            due.is("the last minute", x.count(6), 0);
            Shops.same(due, "what was told stands", runAgain(x), Shops.answers(Shops.sixStates()));
        });
        doc.says("Promise 16", "whether there was one.", due -> {
            SetWorkshop x = Shops.jobs(1, 2);
            due.is("nothing was run", x.again(), false);
            for (int deadline : new int[] {1, 2, 3}) {
                x.run(deadline);
                due.is("behind run(" + deadline + ")", x.again(), true);
                due.is("once more", x.again(), false);
            }
            x.run(3);
            x.machine();
            due.is("emptied by what was told", x.again(), false);
            x.run(0);
            due.is("behind a refused run", x.again(), false);
            x.run(3);
            x.run(0);
            due.is("a refused run empties nothing", x.again(), true);
            SetWorkshop empty = new SetWorkshop();
            empty.run(1);
            due.is("a run without jobs", empty.again(), true);
        });
    }

    private static List<String> runAgain(SetWorkshop x) {
        x.run(10);
        return Shops.answers(x);
    }

    private static void column(Due due, SetWorkshop x, int what, int... want) {
        for (int job = 0; job < want.length; job++) {
            due.is("state(" + job + ", " + what + ")", x.state(job, what), want[job]);
        }
    }

    private void stateAndMinutes() {
        doc.says("Promise 17", "Of a JOB in the RUN: 0 its state: 0 NOT BEGUN, 1 DONE, 2 FAILED, 3 CANCELLED, 4 INTERRUPTED, 5 NEVER;", due -> {
            column(due, Shops.sixStates(), 0, 1, 2, 3, 4, 5, 0);
        });
        doc.says("Promise 17", "1 the minute in which it began,", due -> {
            column(due, Shops.sixStates(), 1, 0, 0, -1, 0, -1, -1);
            column(due, oneBehindAnother(), 1, 0, 4, 6);
        });
        doc.says("Promise 17", "2 in which it ended or was INTERRUPTED,", due -> {
            column(due, Shops.sixStates(), 2, 4, 2, -1, 10, -1, -1);
            column(due, oneBehindAnother(), 2, 4, 6, 9);
        });
        doc.says("Promise 17", "3 its WORKER (1 to 3: NONE if it did not),", due -> {
            column(due, Shops.sixStates(), 3, 0, 1, -1, 2, -1, -1);
            SetWorkshop x = Shops.crafts(0, 1, 31);
            x.job(2, 1, 0);
            x.job(1, 1, 0);
            x.job(0, 1, 0);
            x.run(9);
            column(due, x, 3, 1, 0, -1);
        });
    }

    /** One worker: job 0 is done in minute 4, 1 fails in minute 6, 2 is interrupted in minute 9. */
    private static SetWorkshop oneBehindAnother() {
        SetWorkshop x = Shops.jobs(1, 4, 5, 6);
        x.plan(1, 2, 8);
        x.run(9);
        return x;
    }

    private void stateOfTheRest() {
        doc.says("Promise 17", "4 FAR (0),", due -> {
            column(due, Shops.sixStates(), 4, 4, 2, 0, 10, 0, 0);
            column(due, oneBehindAnother(), 4, 4, 2, 3);
        });
        doc.says("Promise 17", "5 how its interrupt was NOTICED (1, 2; 0 without one),", due -> {
            column(due, Shops.sixStates(), 5, 0, 0, 0, 1, 0, 0);
            SetWorkshop x = Shops.jobs(3, 20, 20, 5);
            for (int job = 0; job < 3; job++) {
                x.body(job, job, 5, 0);
                x.piece(job, 5);
            }
            x.run(9);
            column(due, x, 5, 1, 2, 0);
            x.run(10);
            column(due, x, 5, 1, 1, 0);
        });
        doc.says("Promise 17", "6 the kind by which it FAILED (0),", due -> {
            column(due, Shops.sixStates(), 6, 0, 7, 0, 0, 0, 0);
            column(due, oneBehindAnother(), 6, 0, 8, 0);
            SetWorkshop x = Shops.body(1, 9, 0, 10);
            x.run(9);
            due.is("by its body", x.state(0, 6), 20);
            x.run(2);
            due.is("interrupted ahead of that", x.state(0, 6), 0);
        });
        doc.says("Promise 17", "7 the least JOB that FAILED and that it is LEANING on, if it is CANCELLED (NONE).", due -> {
            column(due, Shops.sixStates(), 7, -1, -1, 1, -1, -1, -1);
            // 0 and 2 fail in one minute, 1 later; 3 leans on 1 and 2, 4 on all by way of 3.
            SetWorkshop x = Shops.jobs(4, 9, 9, 9, 1, 1, 1);
            x.plan(0, 5, 1);
            x.plan(1, 7, 2);
            x.plan(2, 5, 3);
            x.after(3, 2);
            x.after(3, 1);
            x.after(4, 3);
            x.after(4, 0);
            x.after(5, 2);
            x.run(99);
            column(due, x, 0, 2, 2, 2, 3, 3, 3);
            column(due, x, 7, -1, -1, -1, 1, 0, 2);
            x.run(6);
            due.is("1 did not fail so early", x.state(3, 7), 2);
            // One that leans on a failed one and is NEVER at once was not cancelled.
            SetWorkshop y = Shops.jobs(1, 1, 1);
            y.plan(0, 1, 1);
            y.after(1, 0);
            y.uses(1, 0, 1);
            y.run(9);
            column(due, y, 0, 2, 5);
            column(due, y, 7, -1, -1);
        });
    }

    private void stateRefused() {
        doc.says("Promise 17", "Ahead of any RUN: 0, NONE, NONE, NONE, 0, 0, 0, NONE.", due -> {
            SetWorkshop x = Shops.jobs(1, 4, 5);
            x.plan(0, 1, 1);
            x.after(1, 0);
            Shops.row(due, x, 0, 0, -1, -1, -1, 0, 0, 0, -1);
            Shops.row(due, x, 1, 0, -1, -1, -1, 0, 0, 0, -1);
            x.run(9);
            due.is("in a run", x.state(0, 0), 2);
            x.job(0, 1, 0);
            for (int job = 0; job < 3; job++) {
                Shops.row(due, x, job, 0, -1, -1, -1, 0, 0, 0, -1);
            }
        });
        doc.says("Promise 17", "NONE for another what.", due -> {
            SetWorkshop x = Shops.sixStates();
            for (int what : new int[] {LOW, -1, 8, 9, 256, HIGH}) {
                for (int job = 0; job < 6; job++) {
                    due.is("state(" + job + ", " + what + ")", x.state(job, what), -1);
                }
                due.is("ahead of any run", Shops.jobs(1, 1).state(0, what), -1);
            }
        });
        doc.says("Promise 17", "NoSuchElementException: there is no such JOB.", due -> {
            SetWorkshop x = Shops.sixStates();
            for (int job : NOT_0_TO_5) {
                for (int what : new int[] {LOW, -1, 0, 7, 8, HIGH}) {
                    due.throwsNoSuchElement("state(" + job + ", " + what + ")",
                        () -> x.state(job, what));
                }
            }
            due.throwsNoSuchElement("without jobs", () -> new SetWorkshop().state(0, 0));
            due.is("the last one", x.state(5, 0), 0);
        });
    }

    /** Six jobs as in sixStates, each with a body that gives 8 in one part. */
    private static SetWorkshop sixBodies() {
        SetWorkshop x = Shops.sixStates();
        for (int job = 1; job < 6; job++) {
            x.body(job, 5, 0, 0);
            x.piece(job, 8);
        }
        x.run(10);
        return x;
    }

    private void results() {
        doc.says("Promise 18", "The RESULT of a JOB's BODY, in a RUN in which it is DONE;", due -> {
            SetWorkshop x = Shops.jobs(2, 1, 9);
            x.body(0, 3, 12, 1);
            x.piece(0, 1);
            x.piece(0, 3);
            x.body(1, 5, 0, 0);
            x.piece(1, 4);
            x.run(9);
            due.is("result(0)", x.result(0), 9);
            due.is("result(1)", x.result(1), 4);
            due.is("result(0), asked again", x.result(0), 9);
            x.run(1);
            due.is("done in a run that was cut short", x.result(0), 9);
        });
        doc.says("Promise 18", "0 else.", due -> {
            SetWorkshop x = sixBodies();
            for (int job = 0; job < 6; job++) {
                due.is("result(" + job + ")", x.result(job), job == 0 ? 8 : 0);
            }
            x.again();
            due.is("without a run", x.result(0), 0);
            x.run(3);
            due.is("interrupted", x.result(0), 0);
            x.run(4);
            due.is("done", x.result(0), 8);
            x.piece(5, 1);
            due.is("behind what was told", x.result(0), 0);
        });
        doc.says("Promise 18", "NoSuchElementException likewise.", due -> {
            SetWorkshop x = sixBodies();
            for (int job : NOT_0_TO_5) {
                due.throwsNoSuchElement("result(" + job + ")", () -> x.result(job));
            }
            due.throwsNoSuchElement("without jobs", () -> new SetWorkshop().result(0));
            due.is("the last one", x.result(5), 0);
        });
    }

    private void parts() {
        doc.says("Promise 19", "PART i likewise.", due -> {
            SetWorkshop x = Shops.body(2, 10, 0, 1, 4);
            due.is("without a run", x.part(0, 1), 0);
            x.run(3);
            due.is("part(0, 0)", x.part(0, 0), 2);
            due.is("part(0, 1)", x.part(0, 1), 8);
            for (int i : new int[] {LOW, -1, 2, 29, 30, 31, HIGH}) {
                due.is("part(0, " + i + ")", x.part(0, i), 0);
            }
            x.run(2);
            due.is("interrupted", x.part(0, 1), 0);
            SetWorkshop six = sixBodies();
            for (int job = 0; job < 6; job++) {
                due.is("part(" + job + ", 0)", six.part(job, 0), job == 0 ? 8 : 0);
            }
            for (int job : NOT_0_TO_5) {
                for (int i : new int[] {LOW, -1, 0, 29, 30, HIGH}) {
                    due.throwsNoSuchElement("part(" + job + ", " + i + ")",
                        () -> six.part(job, i));
                }
            }
            due.throwsNoSuchElement("without jobs", () -> new SetWorkshop().part(0, 0));
            SetWorkshop great = Shops.body(5, 100, 0, HIGH);
            great.run(3);
            due.is("beyond 32 bits", great.part(0, 0), 4294967294L);
        });
    }

    private void checks() {
        doc.says("Promise 20", "By which kind the BODY of a JOB FAILS by itself;", due -> {
            due.is("11", Shops.body(2, 1, 0, 0).check(0), 11);
            due.is("12", Shops.body(3, 1, 1, 1).check(0), 12);
            due.is("13", Shops.body(4, 1, 0).check(0), 13);
            due.is("20", Shops.body(1, 1, 0, 2).check(0), 20);
            due.is("21", Shops.body(5, -1, 0, 2).check(0), 21);
            due.is("22", Shops.body(4, 0, 0, 2, 3).check(0), 22);
            SetWorkshop x = Shops.body(1, 1, 0, 2);
            x.plan(0, 1, 5);
            due.is("a plan is not the body's", x.check(0), 20);
            x.run(9);
            due.is("behind a run", x.check(0), 20);
            due.is("that failed by its plan", x.state(0, 6), 5);
        });
        doc.says("Promise 20", "0 if it doesn't.", due -> {
            for (int kind = 0; kind <= 5; kind++) {
                SetWorkshop x = Shops.body(kind, 9, 0, 9);
                due.is("kind " + kind, x.check(0), 0);
                x.plan(0, 1, 1);
                x.run(9);
                due.is("though its plan fails", x.check(0), 0);
            }
            due.is("no body", Shops.jobs(1, 1).check(0), 0);
        });
        doc.says("Promise 20", "NoSuchElementException likewise.", due -> {
            SetWorkshop x = sixBodies();
            for (int job : NOT_0_TO_5) {
                due.throwsNoSuchElement("check(" + job + ")", () -> x.check(job));
            }
            due.throwsNoSuchElement("without jobs", () -> new SetWorkshop().check(0));
            due.is("the last one", x.check(5), 0);
        });
    }

    /** Jobs 1, 2 and 4 fail, in minutes 6, 3 and 4; 0 is done, 3 is cancelled, 5 interrupted. */
    private static SetWorkshop threeFailures() {
        SetWorkshop x = Shops.jobs(6, 9, 9, 9, 9, 4, 99);
        x.plan(1, 6, 5);
        x.plan(2, 3, 9);
        x.after(3, 2);
        x.body(4, 5, 0, 0);
        x.run(20);
        return x;
    }

    private void failures() {
        doc.says("Promise 21", "How many JOBS FAILED in the RUN.", due -> {
            SetWorkshop x = threeFailures();
            due.is("three", x.failures(), 3);
            x.run(5);
            due.is("two so early", x.failures(), 2);
            x.run(2);
            due.is("none so early", x.failures(), 0);
            x.run(6);
            due.is("one at the deadline", x.failures(), 3);
            x.again();
            due.is("without a run", x.failures(), 0);
            due.is("without jobs", new SetWorkshop().failures(), 0);
            due.is("one of six", Shops.sixStates().failures(), 1);
            SetWorkshop all = Shops.crafts(32);
            for (int i = 0; i < 200; i++) {
                all.job(0, 1, 0);
                all.plan(i, 1, 1);
            }
            all.run(99);
            due.is("all", all.failures(), 200);
            due.is("the last of all", all.failure(199, 0), 199);
        });
        doc.says("Promise 22", "Of the i-th of them, by number:", due -> {
            SetWorkshop x = threeFailures();
            int[] number = {1, 2, 4};
            for (int i = 0; i < 3; i++) {
                due.is("failure(" + i + ", 0)", x.failure(i, 0), number[i]);
            }
            x.run(5);
            due.is("the first of two", x.failure(0, 0), 2);
            due.is("the second of two", x.failure(1, 0), 4);
        });
        doc.says("Promise 22", "0 the JOB, 1 the kind, 2 the minute,", due -> {
            SetWorkshop x = threeFailures();
            int[][] want = {{1, 5, 6}, {2, 9, 3}, {4, 13, 4}};
            for (int i = 0; i < 3; i++) {
                for (int what = 0; what < 3; what++) {
                    due.is("failure(" + i + ", " + what + ")", x.failure(i, what), want[i][what]);
                }
            }
        });
        doc.says("Promise 22", "3 the JOB of the first one, under which it is told (NONE for the first).", due -> {
            SetWorkshop x = threeFailures();
            due.is("the first", x.failure(0, 3), -1);
            due.is("the second", x.failure(1, 3), 1);
            due.is("the third", x.failure(2, 3), 1);
            x.run(5);
            due.is("the first of two", x.failure(0, 3), -1);
            due.is("the second of two", x.failure(1, 3), 2);
        });
        doc.says("Promise 22", "NONE for another what.", due -> {
            SetWorkshop x = threeFailures();
            for (int what : new int[] {LOW, -1, 4, 5, 256, HIGH}) {
                for (int i = 0; i < 3; i++) {
                    due.is("failure(" + i + ", " + what + ")", x.failure(i, what), -1);
                }
            }
        });
        doc.says("Promise 22", "NoSuchElementException: there is none such.", due -> {
            SetWorkshop x = threeFailures();
            for (int i : new int[] {LOW, -1, 3, 4, 200, HIGH}) {
                for (int what : new int[] {LOW, -1, 0, 3, 4, HIGH}) {
                    due.throwsNoSuchElement("failure(" + i + ", " + what + ")",
                        () -> x.failure(i, what));
                }
            }
            x.again();
            due.throwsNoSuchElement("without a run", () -> x.failure(0, 0));
            due.throwsNoSuchElement("without jobs", () -> new SetWorkshop().failure(0, 0));
            SetWorkshop none = Shops.jobs(1, 1);
            none.run(9);
            due.throwsNoSuchElement("a run without one", () -> none.failure(0, 0));
        });
    }
}
