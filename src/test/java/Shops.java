import java.util.ArrayList;
import java.util.List;
import java.util.NoSuchElementException;
import java.util.function.LongSupplier;

/** Workshops for the tests, and what is often asked of them. */
final class Shops {
    static final int LOW = Integer.MIN_VALUE;
    static final int HIGH = Integer.MAX_VALUE;

    private Shops() {
    }

    static SetWorkshop crafts(int... workers) {
        SetWorkshop x = new SetWorkshop();
        for (int w : workers) {
            x.craft(w);
        }
        return x;
    }

    /** One craft, and jobs of it with these minutes and priority 0. */
    static SetWorkshop jobs(int workers, int... minutes) {
        SetWorkshop x = crafts(workers);
        for (int m : minutes) {
            x.job(0, m, 0);
        }
        return x;
    }

    /** One job of three minutes with this body and list. */
    static SetWorkshop body(int kind, int a, int b, int... numbers) {
        SetWorkshop x = jobs(1, 3);
        x.body(0, kind, a, b);
        for (int v : numbers) {
            x.piece(0, v);
        }
        return x;
    }

    /** A run up to minute 10: DONE, FAILED, CANCELLED, INTERRUPTED, NEVER, NOT BEGUN are jobs 0 to 5. */
    static SetWorkshop sixStates() {
        SetWorkshop x = crafts(3, 0);
        int[] craftOf = {0, 0, 0, 0, 1, 0};
        int[] minutes = {4, 5, 1, 20, 1, 1};
        for (int i = 0; i < 6; i++) {
            x.job(craftOf[i], minutes[i], 0);
        }
        x.plan(1, 2, 7);
        x.after(2, 1);
        x.after(5, 3);
        x.machine();
        x.needs(3, 0);
        x.stock(0, 40);
        x.uses(3, 0, 40);
        x.body(0, 5, 0, 0);
        x.piece(0, 8);
        x.run(10);
        return x;
    }

    static void row(Due due, SetWorkshop x, int job, int... want) {
        for (int i = 0; i < want.length; i++) {
            due.is("state(" + job + ", " + i + ")", x.state(job, i), want[i]);
        }
    }

    /** All events of the log, each as minute, kind, job. */
    static void events(Due due, SetWorkshop x, int... want) {
        due.is("count(5)", x.count(5), want.length / 3);
        for (int i = 0; i < want.length / 3; i++) {
            due.is("minute of event " + i, x.log(i, 0), want[3 * i]);
            due.is("kind of event " + i, x.log(i, 2), want[3 * i + 1]);
            due.is("job of event " + i, x.log(i, 1), want[3 * i + 2]);
        }
    }

    /** Every answer that can be asked for without a change, a line each. */
    static List<String> answers(SetWorkshop x) {
        List<String> all = new ArrayList<>();
        for (int i = -1; i <= 9; i++) {
            int what = i;
            add(all, "count", i, 0, () -> x.count(what));
        }
        add(all, "failures", 0, 0, x::failures);
        add(all, "audit", 0, 0, x::audit);
        for (int i = -1; i <= 60; i++) {
            int n = i;
            add(all, "left", n, 0, () -> x.left(n));
            add(all, "had", n, 0, () -> x.had(n));
            add(all, "idle", n, 0, () -> x.idle(n));
            add(all, "critical", n, 0, () -> x.critical(n));
            for (int w = -1; w <= 4; w++) {
                int what = w;
                add(all, "failure", n, what, () -> x.failure(n, what));
                add(all, "log", n, what, () -> x.log(n, what));
            }
        }
        for (int i = -1; i <= x.count(3); i++) {
            addJob(all, x, i);
        }
        return all;
    }

    private static void addJob(List<String> all, SetWorkshop x, int job) {
        for (int i = -1; i <= 30; i++) {
            int n = i;
            add(all, "state", job, n, () -> x.state(job, n));
            add(all, "part", job, n, () -> x.part(job, n));
            add(all, "leans", job, n, () -> x.leans(job, n) ? 1 : 0);
        }
        add(all, "result", job, 0, () -> x.result(job));
        add(all, "check", job, 0, () -> x.check(job));
        add(all, "slack", job, 0, () -> x.slack(job));
    }

    private static void add(List<String> all, String call, int a, int b, LongSupplier asked) {
        String answer;
        try {
            answer = String.valueOf(asked.getAsLong());
        } catch (NoSuchElementException e) {
            answer = "NoSuchElementException";
        }
        all.add(call + "(" + a + ", " + b + ") = " + answer);
    }

    /** Both lists of answers are the same; the first difference is told. */
    static void same(Due due, String name, List<String> got, List<String> want) {
        for (int i = 0; i < Math.min(got.size(), want.size()); i++) {
            if (!got.get(i).equals(want.get(i))) {
                due.tell(name + ": " + got.get(i) + ", due is " + want.get(i));
                return;
            }
        }
        due.is(name + ": answers", got.size(), want.size());
    }
}
