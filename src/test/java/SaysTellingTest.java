/** The document's words in promises 1 to 14: a new object, and all that is told to it. */
public final class SaysTellingTest {
    private static final int LOW = Shops.LOW;
    private static final int HIGH = Shops.HIGH;
    private static final int[] NOT_0_TO_2 = {LOW, -1, 3, HIGH};
    private static final int[] NOT_0_TO_59 = {LOW, -1, 60, 64, HIGH};

    private final Sentences doc = new Sentences("SaysTellingTest");

    public static void main(String[] args) {
        all().end();
    }

    static Sentences all() {
        SaysTellingTest test = new SaysTellingTest();
        test.newObject();
        test.crafts();
        test.machines();
        test.stocks();
        test.jobs();
        test.afterAndNeeds();
        test.amounts();
        test.bodiesAndLists();
        test.plans();
        return test.doc;
    }

    /** Jobs 0 to 2 of four minutes. */
    private static SetWorkshop three() {
        return Shops.jobs(3, 4, 4, 4);
    }

    private void newObject() {
        doc.says("Promise 1", "No CRAFTS, MACHINES, JOBS;", due -> {
            SetWorkshop x = new SetWorkshop();
            for (int what = 0; what <= 3; what++) {
                due.is("count(" + what + ")", x.count(what), 0);
            }
            due.is("no jobs in the chain", x.count(7), 0);
            due.is("no tail", x.count(8), 0);
            due.is("job(0, 1, 0)", x.job(0, 1, 0), -1);
            due.is("after(0, 0)", x.after(0, 0), -1);
            due.is("needs(0, 0)", x.needs(0, 0), -1);
            due.throwsNoSuchElement("state(0, 0)", () -> x.state(0, 0));
            due.throwsNoSuchElement("had(0)", () -> x.had(0));
            due.throwsNoSuchElement("idle(0)", () -> x.idle(0));
            for (int stock = 0; stock < 60; stock++) {
                due.is("left(" + stock + ")", x.left(stock), 0);
            }
        });
        doc.says("Promise 1", "nothing was run.", due -> {
            SetWorkshop x = new SetWorkshop();
            due.is("answer", x.count(4), -1);
            due.is("events", x.count(5), 0);
            due.is("last minute", x.count(6), 0);
            due.is("log(0, 0)", x.log(0, 0), -1);
            due.is("failures", x.failures(), 0);
            due.is("audit", x.audit(), 0);
            due.is("again", x.again(), false);
        });
    }

    private void crafts() {
        doc.says("Promise 2", "One more CRAFT: its number;", due -> {
            SetWorkshop x = new SetWorkshop();
            for (int i = 0; i < 8; i++) {
                due.is("craft(" + i + ")", x.craft(i % 4), i);
                due.is("crafts", x.count(0), i + 1);
            }
            due.is("workers", x.count(1), 12);
        });
        doc.says("Promise 2", "-2: workers is not 0 to 32;", due -> {
            SetWorkshop x = new SetWorkshop();
            for (int workers : new int[] {LOW, -1, 33, 34, HIGH}) {
                due.is("craft(" + workers + ")", x.craft(workers), -2);
            }
            due.is("none was made", x.count(0), 0);
            due.is("craft(0)", x.craft(0), 0);
            due.is("craft(32)", x.craft(32), 1);
        });
        doc.says("Promise 2", "-8: there are 8, or there would be more than 32 WORKERS.", due -> {
            SetWorkshop eight = Shops.crafts(0, 0, 0, 0, 0, 0, 0);
            due.is("the eighth", eight.craft(0), 7);
            due.is("a ninth", eight.craft(0), -8);
            due.is("a ninth with workers", eight.craft(32), -8);
            SetWorkshop x = Shops.crafts(20);
            due.is("33 in all", x.craft(13), -8);
            due.is("52 in all", x.craft(32), -8);
            due.is("32 in all", x.craft(12), 1);
            due.is("one more", x.craft(1), -8);
            due.is("none more", x.craft(0), 2);
        });
    }

    private void machines() {
        doc.says("Promise 3", "One more MACHINE: its number;", due -> {
            SetWorkshop x = new SetWorkshop();
            for (int i = 0; i < 40; i++) {
                due.is("machine", x.machine(), i);
                due.is("machines", x.count(2), i + 1);
                due.is("nobody had it", x.had(i), -1);
            }
        });
        doc.says("Promise 3", "-8: there are 40.", due -> {
            SetWorkshop x = new SetWorkshop();
            for (int i = 0; i < 39; i++) {
                x.machine();
            }
            due.is("the fortieth", x.machine(), 39);
            due.is("one more", x.machine(), -8);
            due.is("and again", x.machine(), -8);
            due.is("machines", x.count(2), 40);
        });
    }

    private void stocks() {
        doc.says("Promise 4", "FIRST of a STOCK is more by an amount: 0;", due -> {
            SetWorkshop x = new SetWorkshop();
            due.is("stock(3, 5)", x.stock(3, 5), 0);
            due.is("stock(3, 7)", x.stock(3, 7), 0);
            due.is("left(3)", x.left(3), 12);
            due.is("stock(3, 0)", x.stock(3, 0), 0);
            due.is("left(3)", x.left(3), 12);
            due.is("left(2)", x.left(2), 0);
            due.is("left(4)", x.left(4), 0);
        });
        doc.says("Promise 4", "-1: stock is not 0 to 59;", due -> {
            SetWorkshop x = new SetWorkshop();
            for (int stock : NOT_0_TO_59) {
                due.is("stock(" + stock + ", 1)", x.stock(stock, 1), -1);
            }
            due.is("stock(0, 1)", x.stock(0, 1), 0);
            due.is("stock(59, 1)", x.stock(59, 1), 0);
        });
        doc.says("Promise 4", "-2: amount is not 0 to 1000000;", due -> {
            SetWorkshop x = new SetWorkshop();
            for (int amount : new int[] {LOW, -1, 1000001, HIGH}) {
                due.is("stock(0, " + amount + ")", x.stock(0, amount), -2);
            }
            due.is("nothing came", x.left(0), 0);
            due.is("0", x.stock(0, 0), 0);
            due.is("1000000", x.stock(0, 1000000), 0);
        });
        doc.says("Promise 4", "-8: it would be above 1000000000.", due -> {
            // Beyond 512 calls: no object comes so far, but it holds there too.
            SetWorkshop x = new SetWorkshop();
            for (int i = 0; i < 999; i++) {
                x.stock(9, 1000000);
            }
            x.stock(9, 1);
            due.is("one too many", x.stock(9, 1000000), -8);
            due.is("left", x.left(9), 999000001L);
            due.is("just so", x.stock(9, 999999), 0);
            due.is("left", x.left(9), 1000000000L);
            due.is("one more", x.stock(9, 1), -8);
            due.is("none more", x.stock(9, 0), 0);
            due.is("another stock", x.stock(8, 1000000), 0);
        });
    }

    private void jobs() {
        doc.says("Promise 5", "One more JOB: its number;", due -> {
            SetWorkshop x = Shops.crafts(1, 2);
            for (int i = 0; i < 10; i++) {
                due.is("job", x.job(i % 2, i + 1, i), i);
                due.is("jobs", x.count(3), i + 1);
            }
            due.is("run", x.run(99), 0);
            Shops.row(due, x, 0, 1, 0, 1, 0, 1);
        });
        doc.says("Promise 5", "-1: there is no such CRAFT;", due -> {
            SetWorkshop x = Shops.crafts(1, 1, 0);
            for (int craft : NOT_0_TO_2) {
                due.is("job(" + craft + ", 1, 0)", x.job(craft, 1, 0), -1);
            }
            due.is("craft 8", x.job(8, 1, 0), -1);
            due.is("none was made", x.count(3), 0);
            due.is("the last craft", x.job(2, 1, 0), 0);
        });
        doc.says("Promise 5", "-2: minutes or priority is not as told;", due -> {
            SetWorkshop x = Shops.crafts(1);
            for (int minutes : new int[] {LOW, -1, 0, 10001, HIGH}) {
                due.is("minutes " + minutes, x.job(0, minutes, 0), -2);
            }
            for (int priority : new int[] {LOW, -1, 1001, HIGH}) {
                due.is("priority " + priority, x.job(0, 1, priority), -2);
            }
            due.is("none was made", x.count(3), 0);
            due.is("the least", x.job(0, 1, 0), 0);
            due.is("the greatest", x.job(0, 10000, 1000), 1);
        });
        doc.says("Promise 5", "-8: there are 200.", due -> {
            SetWorkshop x = Shops.crafts(1);
            for (int i = 0; i < 199; i++) {
                x.job(0, 1, 0);
            }
            due.is("the last", x.job(0, 1, 0), 199);
            due.is("one more", x.job(0, 1, 0), -8);
            due.is("jobs", x.count(3), 200);
        });
    }

    private void afterAndNeeds() {
        doc.says("Promise 6", "The JOB is AFTER another one:", due -> {
            SetWorkshop x = three();
            due.is("after(0, 2)", x.after(0, 2), 0);
            due.is("leans(0, 2)", x.leans(0, 2), true);
            due.is("leans(2, 0)", x.leans(2, 0), false);
            x.run(99);
            due.is("0 began", x.state(0, 1), 4);
            due.is("2 began", x.state(2, 1), 0);
        });
        doc.says("Promise 6", "-1 (job or before);", due -> {
            SetWorkshop x = three();
            for (int n : NOT_0_TO_2) {
                due.is("after(" + n + ", 0)", x.after(n, 0), -1);
                due.is("after(0, " + n + ")", x.after(0, n), -1);
                due.is("after(" + n + ", " + n + ")", x.after(n, n), -1);
            }
            due.is("the last one", x.after(2, 0), 0);
        });
        doc.says("Promise 6", "-3;", due -> {
            SetWorkshop x = three();
            x.after(1, 0);
            due.is("once more", x.after(1, 0), -3);
            x.after(2, 1);
            due.is("so far by way of 1 alone: done", x.after(2, 0), 0);
            due.is("now it is so", x.after(2, 0), -3);
        });
        doc.says("Promise 6", "-4.", due -> {
            SetWorkshop x = Shops.jobs(1, 1, 1, 1, 1);
            due.is("itself", x.after(0, 0), -4);
            x.after(1, 0);
            due.is("a ring of two", x.after(0, 1), -4);
            x.after(3, 2);
            x.after(2, 1);
            due.is("a ring of four", x.after(0, 3), -4);
            due.is("a ring of three", x.after(1, 3), -4);
            due.is("no ring", x.after(3, 0), 0);
            SetWorkshop y = Shops.crafts(1);
            for (int i = 0; i < 200; i++) {
                y.job(0, 1, 0);
                y.after(i, i - 1);
            }
            due.is("a ring of all", y.after(0, 199), -4);
            due.is("no ring", y.after(199, 0), 0);
        });
        doc.says("Promise 7", "The JOB NEEDS a MACHINE:", due -> {
            SetWorkshop x = three();
            x.machine();
            due.is("needs(0, 0)", x.needs(0, 0), 0);
            due.is("needs(2, 0)", x.needs(2, 0), 0);
            x.run(99);
            due.is("the first", x.state(0, 1), 0);
            due.is("one that does not need it", x.state(1, 1), 0);
            due.is("the second", x.state(2, 1), 4);
        });
        doc.says("Promise 7", "-1 (job or machine);", due -> {
            SetWorkshop x = three();
            due.is("without machines", x.needs(0, 0), -1);
            x.machine();
            x.machine();
            for (int n : NOT_0_TO_2) {
                due.is("needs(" + n + ", 0)", x.needs(n, 0), -1);
            }
            // 64 is machine 0 to a shift of 64 bits.
            for (int n : new int[] {LOW, -1, 2, 40, 63, 64, 65, HIGH}) {
                due.is("needs(0, " + n + ")", x.needs(0, n), -1);
            }
            due.is("the last of both", x.needs(2, 1), 0);
        });
        doc.says("Promise 7", "-3.", due -> {
            SetWorkshop x = three();
            for (int i = 0; i < 40; i++) {
                x.machine();
                due.is("needs(0, " + i + ")", x.needs(0, i), 0);
            }
            for (int i = 0; i < 40; i++) {
                due.is("once more", x.needs(0, i), -3);
            }
            due.is("another job", x.needs(1, 39), 0);
        });
    }

    private static int amount(SetWorkshop x, boolean uses, int job, int stock, int amount) {
        return uses ? x.uses(job, stock, amount) : x.gives(job, stock, amount);
    }

    private static void unknownInAmounts(Due due, boolean uses) {
        SetWorkshop x = three();
        for (int n : NOT_0_TO_2) {
            due.is("job " + n, amount(x, uses, n, 0, 1), -1);
        }
        for (int n : NOT_0_TO_59) {
            due.is("stock " + n, amount(x, uses, 0, n, 1), -1);
        }
        due.is("the first of both", amount(x, uses, 0, 0, 1), 0);
        due.is("the last of both", amount(x, uses, 2, 59, 1), 0);
    }

    private static void rangeOfAmounts(Due due, boolean uses) {
        SetWorkshop x = three();
        for (int n : new int[] {LOW, -1, 0, 1000001, HIGH}) {
            due.is("amount " + n, amount(x, uses, 0, 0, n), -2);
        }
        due.is("amount 1", amount(x, uses, 0, 0, 1), 0);
        due.is("amount 1000000", amount(x, uses, 0, 0, 1000000), 0);
    }

    private void amounts() {
        doc.says("Promise 8", "What the JOB USES of a STOCK is this (in place of what it was):", due -> {
            SetWorkshop x = Shops.jobs(1, 1);
            x.stock(5, 100);
            x.stock(6, 100);
            due.is("uses(0, 5, 90)", x.uses(0, 5, 90), 0);
            due.is("uses(0, 6, 1)", x.uses(0, 6, 1), 0);
            due.is("uses(0, 5, 30)", x.uses(0, 5, 30), 0);
            x.run(9);
            due.is("left(5)", x.left(5), 70);
            due.is("left(6)", x.left(6), 99);
            due.is("the same once more is done", x.uses(0, 5, 30), 0);
            x.uses(0, 5, 100);
            x.run(9);
            due.is("all of it", x.left(5), 0);
        });
        doc.says("Promise 8", "-1 (job or stock);", due -> unknownInAmounts(due, true));
        doc.says("Promise 8", "-2.", due -> rangeOfAmounts(due, true));
        doc.says("Promise 9", "What the JOB GIVES of a STOCK is this:", due -> {
            SetWorkshop x = Shops.jobs(1, 1);
            due.is("gives(0, 5, 90)", x.gives(0, 5, 90), 0);
            due.is("gives(0, 6, 1)", x.gives(0, 6, 1), 0);
            x.run(9);
            due.is("left(5)", x.left(5), 90);
            due.is("left(6)", x.left(6), 1);
            due.is("left(7)", x.left(7), 0);
        });
        doc.says("Promise 9", "likewise.", due -> {
            unknownInAmounts(due, false);
            rangeOfAmounts(due, false);
            SetWorkshop x = Shops.jobs(1, 1);
            x.gives(0, 5, 90);
            due.is("in place of what it was", x.gives(0, 5, 30), 0);
            x.run(9);
            due.is("left(5)", x.left(5), 30);
        });
    }

    private void bodiesAndLists() {
        doc.says("Promise 10", "The BODY of a JOB:", due -> {
            SetWorkshop x = Shops.jobs(1, 1, 1);
            x.piece(0, 10);
            due.is("body(0, 5, 50, 9)", x.body(0, 5, 50, 9), 0);
            x.run(9);
            due.is("kind 5", x.result(0), 15);
            due.is("another in its place", x.body(0, 3, 7, 0), 0);
            x.run(9);
            due.is("kind 3", x.result(0), 7);
            due.is("its B", x.body(0, 3, 7, 1), 0);
            due.is("there is no number 1", x.check(0), 12);
            due.is("kind 0 once more", x.body(0, 0, 7, 1), 0);
            due.is("nothing fails", x.check(0), 0);
            due.is("the other job has none", x.check(1), 0);
        });
        doc.says("Promise 10", "-1;", due -> {
            SetWorkshop x = three();
            for (int n : NOT_0_TO_2) {
                due.is("body(" + n + ", 1, 1, 1)", x.body(n, 1, 1, 1), -1);
            }
            due.is("the last one", x.body(2, 1, 1, 1), 0);
        });
        doc.says("Promise 10", "-2: kind is not 0 to 5.", due -> {
            SetWorkshop x = three();
            for (int kind : new int[] {LOW, -1, 6, HIGH}) {
                due.is("kind " + kind, x.body(0, kind, 1, 1), -2);
            }
            due.is("the body is as it was", x.check(0), 0);
            due.is("kind 0", x.body(0, 0, LOW, HIGH), 0);
            due.is("kind 5", x.body(0, 5, HIGH, LOW), 0);
        });
        doc.says("Promise 11", "One more number of the LIST of a JOB:", due -> {
            SetWorkshop x = Shops.jobs(1, 1, 1);
            x.body(0, 5, 0, 0);
            x.body(1, 5, 0, 0);
            due.is("piece(0, 4)", x.piece(0, 4), 0);
            due.is("piece(0, 4)", x.piece(0, 4), 0);
            due.is("piece(0, HIGH)", x.piece(0, HIGH), 0);
            due.is("the other has no list", x.check(1), 13);
            x.run(9);
            due.is("part 0", x.part(0, 0), 4);
            due.is("part 1", x.part(0, 1), 4);
            due.is("part 2", x.part(0, 2), HIGH);
            due.is("piece(0, LOW)", x.piece(0, LOW), 0);
            due.is("a number below 0", x.check(0), 21);
        });
        doc.says("Promise 11", "-1;", due -> {
            SetWorkshop x = three();
            for (int n : NOT_0_TO_2) {
                due.is("piece(" + n + ", 1)", x.piece(n, 1), -1);
            }
            due.is("the last one", x.piece(2, 1), 0);
        });
        doc.says("Promise 11", "-8.", due -> {
            SetWorkshop x = three();
            for (int i = 0; i < 29; i++) {
                x.piece(1, i);
            }
            due.is("the thirtieth", x.piece(1, 1), 0);
            due.is("one more", x.piece(1, 1), -8);
            due.is("of another job", x.piece(0, 1), 0);
            x.strip(1);
            for (int i = 0; i < 30; i++) {
                due.is("behind strip", x.piece(1, i), 0);
            }
            due.is("one more", x.piece(1, 1), -8);
        });
        doc.says("Promise 12", "The LIST of a JOB is there no more:", due -> {
            SetWorkshop x = Shops.body(5, 0, 0, 6, 7, 8);
            due.is("strip", x.strip(0), 0);
            due.is("no list", x.check(0), 13);
            x.piece(0, 9);
            x.run(9);
            due.is("a new one", x.result(0), 9);
            due.is("nothing of the old one", x.part(0, 1), 0);
        });
        doc.says("Promise 12", "-1;", due -> {
            SetWorkshop x = three();
            x.piece(2, 1);
            for (int n : NOT_0_TO_2) {
                due.is("strip(" + n + ")", x.strip(n), -1);
            }
            due.is("the last one", x.strip(2), 0);
        });
        doc.says("Promise 12", "-3: there is none.", due -> {
            SetWorkshop x = three();
            due.is("none at first", x.strip(0), -3);
            x.piece(0, 0);
            due.is("a list of one", x.strip(0), 0);
            due.is("none any more", x.strip(0), -3);
            due.is("none of another job", x.strip(1), -3);
        });
    }

    private void plans() {
        doc.says("Promise 13", "The PLAN of a JOB:", due -> {
            SetWorkshop x = three();
            due.is("plan(1, 4, 9)", x.plan(1, 4, 9), 0);
            due.is("another in its place", x.plan(1, 2, 3), 0);
            x.run(99);
            Shops.row(due, x, 0, 1, 0, 4, 0, 4, 0, 0);
            Shops.row(due, x, 1, 2, 0, 2, 1, 2, 0, 3);
        });
        doc.says("Promise 13", "-1;", due -> {
            SetWorkshop x = three();
            for (int n : NOT_0_TO_2) {
                due.is("plan(" + n + ", 1, 1)", x.plan(n, 1, 1), -1);
            }
            due.is("the last one", x.plan(2, 1, 1), 0);
        });
        doc.says("Promise 13", "-2: minute is not 1 to its MINUTES, or kind not 1 to 9.", due -> {
            SetWorkshop x = Shops.jobs(1, 4, 10000, 1);
            for (int minute : new int[] {LOW, -1, 0, 5, HIGH}) {
                due.is("minute " + minute, x.plan(0, minute, 1), -2);
            }
            for (int kind : new int[] {LOW, -1, 0, 10, 13, HIGH}) {
                due.is("kind " + kind, x.plan(0, 1, kind), -2);
            }
            due.is("there is none", x.clearPlan(), 0);
            due.is("minute 1", x.plan(0, 1, 1), 0);
            due.is("minute 4", x.plan(0, 4, 9), 0);
            due.is("10000 of 10000", x.plan(1, 10000, 1), 0);
            due.is("10001 of 10000", x.plan(1, 10001, 1), -2);
            due.is("1 of 1", x.plan(2, 1, 1), 0);
            due.is("2 of 1", x.plan(2, 2, 1), -2);
        });
        doc.says("Promise 14", "No JOB has a PLAN any more:", due -> {
            SetWorkshop x = three();
            x.plan(0, 1, 1);
            x.plan(2, 1, 1);
            due.is("they fail", x.run(99), 1);
            x.clearPlan();
            due.is("nobody fails", x.run(99), 0);
            due.is("failures", x.failures(), 0);
        });
        doc.says("Promise 14", "how many had one.", due -> {
            due.is("without jobs", new SetWorkshop().clearPlan(), 0);
            SetWorkshop x = three();
            due.is("none", x.clearPlan(), 0);
            x.plan(0, 1, 1);
            x.plan(2, 1, 1);
            x.plan(2, 4, 9);
            due.is("two", x.clearPlan(), 2);
            x.run(9);
            due.is("none any more", x.clearPlan(), 0);
            due.is("the run is emptied all the same", x.again(), false);
            SetWorkshop all = Shops.crafts(1);
            for (int i = 0; i < 200; i++) {
                all.job(0, 1, 0);
                all.plan(i, 1, 1);
            }
            due.is("all", all.clearPlan(), 200);
        });
    }
}
