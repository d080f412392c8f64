import java.util.Random;

/** The document's words in promises 23 to 31: stock, machines, hours, log, chain, books, counts. */
public final class SaysBooksTest {
    private static final int LOW = Shops.LOW;
    private static final int HIGH = Shops.HIGH;

    private final Sentences doc = new Sentences("SaysBooksTest");

    public static void main(String[] args) {
        all().end();
    }

    static Sentences all() {
        SaysBooksTest test = new SaysBooksTest();
        test.left();
        test.had();
        test.idle();
        test.log();
        test.paths();
        test.audit();
        test.countsOfThings();
        test.countsOfTheRun();
        return test.doc;
    }

    private void left() {
        doc.says("Promise 23", "What is left of a STOCK behind the RUN;", due -> {
            SetWorkshop x = Shops.jobs(1, 10, 10);
            x.stock(0, 100);
            x.stock(59, 7);
            x.uses(0, 0, 60);
            x.gives(0, 59, 3);
            x.uses(1, 0, 40);
            x.run(20);
            due.is("all of it is gone", x.left(0), 0);
            due.is("more has come", x.left(59), 10);
            due.is("another one", x.left(1), 0);
            x.run(15);
            due.is("half of the second came back", x.left(0), 20);
            x.run(5);
            due.is("half of the first came back", x.left(0), 70);
            due.is("nothing has come", x.left(59), 7);
        });
        doc.says("Promise 23", "FIRST without one.", due -> {
            SetWorkshop x = Shops.jobs(1, 1);
            due.is("at first", x.left(0), 0);
            x.stock(0, 9);
            x.uses(0, 0, 4);
            due.is("without a run", x.left(0), 9);
            x.run(9);
            due.is("behind one", x.left(0), 5);
            x.again();
            due.is("emptied", x.left(0), 9);
            x.run(9);
            x.stock(0, 1);
            due.is("behind what was told", x.left(0), 10);
        });
        doc.says("Promise 23", "NoSuchElementException: there is no such STOCK.", due -> {
            SetWorkshop x = Shops.sixStates();
            for (int stock : new int[] {LOW, -1, 60, 61, 64, HIGH}) {
                due.throwsNoSuchElement("left(" + stock + ")", () -> x.left(stock));
                due.throwsNoSuchElement("without a run", () -> new SetWorkshop().left(stock));
            }
            due.is("the last one", x.left(59), 0);
        });
    }

    private void had() {
        doc.says("Promise 24", "The JOB that had a MACHINE latest in the RUN;", due -> {
            SetWorkshop x = Shops.crafts(1);
            x.machine();
            x.machine();
            int[] priority = {2, 0, 1};
            for (int p : priority) {
                x.job(0, 5, p);
            }
            x.needs(0, 0);
            x.needs(1, 0);
            x.needs(1, 1);
            x.needs(2, 1);
            x.run(15);
            due.is("0 was the last", x.had(0), 0);
            due.is("2 was the last", x.had(1), 2);
            x.run(11);
            due.is("one that is interrupted", x.had(0), 0);
            x.run(10);
            due.is("0 did not begin", x.had(0), 1);
            x.plan(2, 1, 1);
            x.run(15);
            due.is("one that failed", x.had(1), 2);
        });
        doc.says("Promise 24", "NONE.", due -> {
            SetWorkshop x = Shops.crafts(1, 0);
            for (int i = 0; i < 40; i++) {
                due.is("machine without a run", x.had(x.machine()), -1);
            }
            x.job(0, 1, 0);
            x.job(1, 1, 0);
            x.needs(0, 39);
            x.needs(1, 1);
            x.run(9);
            due.is("nobody needs it", x.had(0), -1);
            due.is("one that is never needs it", x.had(1), -1);
            due.is("one had the last", x.had(39), 0);
            x.again();
            due.is("emptied", x.had(39), -1);
        });
        doc.says("Promise 24", "NoSuchElementException: there is no such MACHINE.", due -> {
            SetWorkshop x = Shops.sixStates();
            for (int machine : new int[] {LOW, -1, 1, 39, 40, HIGH}) {
                due.throwsNoSuchElement("had(" + machine + ")", () -> x.had(machine));
            }
            due.is("the only one", x.had(0), 3);
            due.throwsNoSuchElement("without machines", () -> new SetWorkshop().had(0));
            SetWorkshop full = new SetWorkshop();
            for (int i = 0; i < 41; i++) {
                full.machine();
            }
            due.is("had(39)", full.had(39), -1);
            due.throwsNoSuchElement("had(40)", () -> full.had(40));
        });
    }

    private void idle() {
        doc.says("Promise 25", "Minutes in which WORKERS of a CRAFT were at no work in the RUN: WORKERS times the last minute in which a JOB ended or was INTERRUPTED, less FAR of its JOBS.", due -> {
            SetWorkshop x = Shops.crafts(2, 3, 0);
            due.is("without a run", x.idle(0), 0);
            x.job(0, 4, 0);
            x.job(0, 9, 0);
            x.job(1, 20, 0);
            x.job(2, 1, 0);
            x.run(99);
            due.is("2 * 20 - 13", x.idle(0), 27);
            due.is("3 * 20 - 20", x.idle(1), 40);
            due.is("no workers", x.idle(2), 0);
            x.run(6);
            due.is("interrupted: 2 * 6 - 10", x.idle(0), 2);
            due.is("interrupted: 3 * 6 - 6", x.idle(1), 12);
            x.plan(2, 11, 1);
            x.run(99);
            due.is("failed: 2 * 11 - 13", x.idle(0), 9);
            due.is("failed: 3 * 11 - 11", x.idle(1), 22);
            // The last minute is that of the last end, not the deadline.
            SetWorkshop y = Shops.jobs(1, 3);
            y.run(1000000);
            due.is("never idle", y.idle(0), 0);
            SetWorkshop great = Shops.crafts(1, 31);
            for (int i = 0; i < 101; i++) {
                great.job(0, 10000, 0);
            }
            great.run(1000000);
            due.is("busy", great.idle(0), 0);
            due.is("31 * 1000000", great.idle(1), 31000000);
            great.again();
            due.is("emptied", great.idle(1), 0);
        });
        doc.says("Promise 25", "NoSuchElementException: there is no such CRAFT.", due -> {
            SetWorkshop x = Shops.sixStates();
            for (int craft : new int[] {LOW, -1, 2, 7, 8, HIGH}) {
                due.throwsNoSuchElement("idle(" + craft + ")", () -> x.idle(craft));
            }
            due.is("the last one", x.idle(1), 0);
            due.throwsNoSuchElement("without crafts", () -> new SetWorkshop().idle(0));
            SetWorkshop full = Shops.crafts(1, 1, 1, 1, 1, 1, 1, 1, 1);
            due.is("idle(7)", full.idle(7), 0);
            due.throwsNoSuchElement("idle(8)", () -> full.idle(8));
        });
    }

    private void log() {
        doc.says("Promise 26", "Of event i of the LOG (from 0 on):", due -> {
            SetWorkshop x = Shops.jobs(1, 3, 2);
            x.run(9);
            int[] minute = {0, 3, 3, 5};
            for (int i = 0; i < 4; i++) {
                due.is("log(" + i + ", 0)", x.log(i, 0), minute[i]);
            }
            due.is("events", x.count(5), 4);
        });
        doc.says("Promise 26", "0 the minute, 1 the JOB, 2 the kind.", due -> {
            SetWorkshop x = Shops.sixStates();
            int[] last = {10, 3, 4};
            int[] first = {0, 0, 5};
            for (int what = 0; what < 3; what++) {
                due.is("log(0, " + what + ")", x.log(0, what), first[what]);
                due.is("log(7, " + what + ")", x.log(7, what), last[what]);
            }
            SetWorkshop late = Shops.crafts(1);
            for (int i = 0; i < 101; i++) {
                late.job(0, 10000, 0);
            }
            late.run(1000000);
            // 100 jobs that began and were done; the next is not begun at the deadline.
            due.is("events", late.count(5), 200);
            due.is("the latest minute", late.log(199, 0), 1000000);
            due.is("its job", late.log(199, 1), 99);
            due.is("its kind", late.log(199, 2), 1);
        });
        doc.says("Promise 26", "NONE if there is none such, or for another what.", due -> {
            SetWorkshop x = Shops.sixStates();
            for (int what = 0; what < 3; what++) {
                for (int i : new int[] {LOW, -1, 8, 9, 399, 400, 401, HIGH}) {
                    due.is("log(" + i + ", " + what + ")", x.log(i, what), -1);
                }
                due.is("without a run", new SetWorkshop().log(0, what), -1);
            }
            for (int what : new int[] {LOW, -1, 3, 4, 256, HIGH}) {
                for (int i : new int[] {LOW, -1, 0, 7, 8, HIGH}) {
                    due.is("log(" + i + ", " + what + ")", x.log(i, what), -1);
                }
            }
            x.again();
            due.is("emptied", x.log(0, 0), -1);
        });
    }

    private void paths() {
        doc.says("Promise 27", "The i-th JOB of the CHAIN (from 0 on);", due -> {
            SetWorkshop x = Shops.jobs(1, 2, 3, 4);
            due.is("the greatest alone", x.critical(0), 2);
            x.after(0, 1);
            x.after(2, 0);
            int[] chain = {1, 0, 2};
            for (int i = 0; i < 3; i++) {
                due.is("critical(" + i + ")", x.critical(i), chain[i]);
            }
            x.run(5);
            due.is("behind a run too", x.critical(2), 2);
            due.is("a job more", x.job(0, 10, 0), 3);
            due.is("it is the chain", x.critical(0), 3);
            SetWorkshop all = Shops.crafts(1);
            for (int i = 0; i < 200; i++) {
                all.job(0, 1, 0);
                all.after(i - 1, i);
            }
            for (int i = 0; i < 200; i++) {
                due.is("of all, critical(" + i + ")", all.critical(i), 199 - i);
            }
            due.is("behind all", all.critical(200), -1);
        });
        doc.says("Promise 27", "NONE if there is none such.", due -> {
            SetWorkshop x = Shops.jobs(1, 2, 3);
            x.after(1, 0);
            for (int i : new int[] {LOW, -1, 2, 3, 199, 200, HIGH}) {
                due.is("critical(" + i + ")", x.critical(i), -1);
                due.is("without jobs", new SetWorkshop().critical(i), -1);
            }
            due.is("the last one", x.critical(1), 1);
        });
        doc.says("Promise 28", "The SLACK of a JOB.", due -> {
            // 0, then 1 beside 2, then 3; 4 alone.
            SetWorkshop x = Shops.jobs(1, 5, 7, 2, 4, 1);
            x.after(1, 0);
            x.after(2, 0);
            x.after(3, 1);
            x.after(3, 2);
            int[] slack = {0, 0, 5, 0, 15};
            for (int job = 0; job < 5; job++) {
                due.is("slack(" + job + ")", x.slack(job), slack[job]);
            }
            x.run(6);
            due.is("behind a run too", x.slack(2), 5);
            x.job(0, 20, 0);
            due.is("a longer one has come", x.slack(2), 9);
            due.is("its own", x.slack(5), 0);
        });
        doc.says("Promise 28", "NoSuchElementException: there is no such JOB.", due -> {
            SetWorkshop x = Shops.jobs(1, 5, 7);
            for (int job : new int[] {LOW, -1, 2, 3, 200, HIGH}) {
                due.throwsNoSuchElement("slack(" + job + ")", () -> x.slack(job));
            }
            due.is("the last one", x.slack(1), 0);
            due.throwsNoSuchElement("without jobs", () -> new SetWorkshop().slack(0));
        });
        doc.says("Promise 29", "Whether a JOB is LEANING on another one.", due -> {
            SetWorkshop x = Shops.jobs(1, 1, 1, 1, 1);
            x.after(1, 0);
            x.after(2, 1);
            for (int job = 0; job < 4; job++) {
                for (int on = 0; on < 4; on++) {
                    due.is("leans(" + job + ", " + on + ")", x.leans(job, on), on < job && job < 3);
                }
            }
            due.is("refused", x.after(0, 2), -4);
            due.is("it does not lean", x.leans(0, 2), false);
        });
        doc.says("Promise 29", "NoSuchElementException: there is no such JOB (one of both).", due -> {
            SetWorkshop x = Shops.jobs(1, 5, 7);
            for (int n : new int[] {LOW, -1, 2, 3, 64, 199, 200, HIGH}) {
                due.throwsNoSuchElement("leans(" + n + ", 0)", () -> x.leans(n, 0) ? 1 : 0);
                due.throwsNoSuchElement("leans(0, " + n + ")", () -> x.leans(0, n) ? 1 : 0);
                due.throwsNoSuchElement("both " + n, () -> x.leans(n, n) ? 1 : 0);
            }
            due.is("the last one", x.leans(1, 1), false);
            due.throwsNoSuchElement("without jobs", () -> new SetWorkshop().leans(0, 0) ? 1 : 0);
        });
    }

    private void audit() {
        doc.says("Promise 30", "How many minutes of the RUN (always 0) there were in which a MACHINE or WORKER had two JOBS, or a STOCK was below 0.", due -> {
            due.is("without a run", new SetWorkshop().audit(), 0);
            due.is("six states", Shops.sixStates().audit(), 0);
            Random random = new Random(30);
            for (int time = 0; time < 40; time++) {
                Crowd crowd = new Crowd(random);
                SetWorkshop x = crowd.shop;
                for (int deadline : new int[] {7, 23, 60, 1000}) {
                    x.run(deadline);
                    due.is("audit", x.audit(), 0);
                    due.is("minutes that are wrong by the states", crowd.wrongMinutes(), 0);
                }
            }
        });
    }

    /** Many jobs that want the same few workers, machines and stock. */
    private static final class Crowd {
        private static final int JOBS = 25;
        private static final int MACHINES = 3;
        private static final int FIRST = 12;

        final SetWorkshop shop = Shops.crafts(2, 1);
        private final int[] minutes = new int[JOBS];
        private final int[] machine = new int[JOBS];
        private final int[] uses = new int[JOBS];
        private final int[] gives = new int[JOBS];

        Crowd(Random random) {
            shop.stock(0, FIRST);
            for (int i = 0; i < MACHINES; i++) {
                shop.machine();
            }
            for (int job = 0; job < JOBS; job++) {
                minutes[job] = 1 + random.nextInt(9);
                machine[job] = random.nextInt(MACHINES);
                uses[job] = 1 + random.nextInt(6);
                gives[job] = 1 + random.nextInt(5);
                shop.job(random.nextInt(2), minutes[job], random.nextInt(3));
                shop.needs(job, machine[job]);
                shop.uses(job, 0, uses[job]);
                shop.gives(job, 0, gives[job]);
                if (random.nextInt(4) == 0) {
                    shop.plan(job, 1 + random.nextInt(minutes[job]), 1);
                }
            }
        }

        int wrongMinutes() {
            int wrong = 0;
            for (int minute = 0; minute <= shop.count(6); minute++) {
                if (isDoublyTaken(minute) || stockBehind(minute) < 0) {
                    wrong++;
                }
            }
            return stockBehind(shop.count(6)) == shop.left(0) ? wrong : wrong + 1;
        }

        private boolean isAtWork(int job, int minute) {
            return shop.state(job, 1) >= 0 && shop.state(job, 1) <= minute
                && shop.state(job, 2) > minute;
        }

        private boolean isDoublyTaken(int minute) {
            for (int job = 0; job < JOBS; job++) {
                for (int other = 0; other < job && isAtWork(job, minute); other++) {
                    boolean shared = machine[job] == machine[other]
                        || shop.state(job, 3) == shop.state(other, 3);
                    if (shared && isAtWork(other, minute)) {
                        return true;
                    }
                }
            }
            return false;
        }

        private long stockBehind(int minute) {
            long stock = FIRST;
            for (int job = 0; job < JOBS; job++) {
                if (shop.state(job, 1) >= 0 && shop.state(job, 1) <= minute) {
                    stock -= uses[job];
                    if (shop.state(job, 2) <= minute) {
                        stock += shop.state(job, 0) == 1 ? gives[job]
                            : uses[job] - uses[job] * shop.state(job, 4) / minutes[job];
                    }
                }
            }
            return stock;
        }
    }

    private void countsOfThings() {
        doc.says("Promise 31", "0 CRAFTS, 1 WORKERS, 2 MACHINES, 3 JOBS,", due -> {
            SetWorkshop x = new SetWorkshop();
            for (int what = 0; what <= 3; what++) {
                due.is("count(" + what + ") at first", x.count(what), 0);
            }
            x.craft(5);
            x.craft(0);
            x.craft(27);
            x.craft(1);
            for (int i = 0; i < 41; i++) {
                x.machine();
            }
            for (int i = 0; i < 201; i++) {
                x.job(0, 1, 0);
            }
            due.is("crafts", x.count(0), 3);
            due.is("workers", x.count(1), 32);
            due.is("machines", x.count(2), 40);
            due.is("jobs", x.count(3), 200);
        });
        doc.says("Promise 31", "7 JOBS of the CHAIN,", due -> {
            due.is("without jobs", new SetWorkshop().count(7), 0);
            SetWorkshop x = Shops.jobs(1, 3, 1, 1);
            due.is("one job alone", x.count(7), 1);
            x.after(2, 1);
            due.is("a shorter pair", x.count(7), 1);
            x.after(1, 0);
            due.is("three in a row", x.count(7), 3);
            x.run(1);
            due.is("behind a run too", x.count(7), 3);
        });
        doc.says("Promise 31", "8 the greatest TAIL (0 without JOBS).", due -> {
            due.is("without jobs", new SetWorkshop().count(8), 0);
            due.is("with a craft alone", Shops.crafts(1).count(8), 0);
            SetWorkshop x = Shops.jobs(1, 3, 1, 7);
            due.is("the greatest alone", x.count(8), 7);
            x.after(1, 2);
            due.is("two in a row", x.count(8), 8);
            x.run(1);
            due.is("behind a run too", x.count(8), 8);
        });
        doc.says("Promise 31", "NONE for another what.", due -> {
            for (int what : new int[] {LOW, -1, 9, 10, 256, HIGH}) {
                due.is("count(" + what + ")", Shops.sixStates().count(what), -1);
                due.is("of a new one", new SetWorkshop().count(what), -1);
            }
        });
    }

    private void countsOfTheRun() {
        doc.says("Promise 31", "4 what the RUN answered (NONE without one),", due -> {
            SetWorkshop x = Shops.jobs(1, 2, 3);
            due.is("without one", x.count(4), -1);
            x.run(5);
            due.is("all done", x.count(4), 0);
            x.run(4);
            due.is("interrupted", x.count(4), 2);
            x.run(0);
            due.is("behind a refused run", x.count(4), 2);
            x.plan(0, 1, 1);
            due.is("behind what was told", x.count(4), -1);
            x.run(5);
            due.is("one failed", x.count(4), 1);
            x.again();
            due.is("emptied", x.count(4), -1);
        });
        doc.says("Promise 31", "5 events in the LOG,", due -> {
            SetWorkshop x = Shops.jobs(1, 2, 3);
            due.is("without a run", x.count(5), 0);
            x.run(1);
            due.is("one began and was interrupted", x.count(5), 2);
            x.run(9);
            due.is("two began and were done", x.count(5), 4);
            due.is("six states", Shops.sixStates().count(5), 8);
            x.again();
            due.is("emptied", x.count(5), 0);
        });
        doc.says("Promise 31", "6 the last minute in which something happened in the RUN (0),", due -> {
            SetWorkshop x = Shops.jobs(1, 2, 3);
            due.is("without a run", x.count(6), 0);
            x.run(1000000);
            due.is("the last end", x.count(6), 5);
            x.run(4);
            due.is("interrupted", x.count(6), 4);
            x.run(2);
            due.is("one would begin at the deadline", x.count(6), 2);
            x.again();
            due.is("emptied", x.count(6), 0);
            SetWorkshop never = Shops.jobs(0, 1);
            never.run(9);
            due.is("never at once", never.count(6), 0);
            SetWorkshop empty = new SetWorkshop();
            empty.run(9);
            due.is("a run without jobs", empty.count(6), 0);
            SetWorkshop late = Shops.jobs(1, 4, 4);
            late.plan(0, 3, 1);
            late.after(1, 0);
            late.run(9);
            due.is("failed and cancelled", late.count(6), 3);
        });
    }
}
