import java.util.NoSuchElementException;
import java.util.Random;
import java.util.function.LongSupplier;

/** Random runs of calls, each answer beside that of the plain model (all promises). */
public final class RandomRunsTest {
    private static final int RUNS = 4000;
    private static final int CALLS = 90;
    private static final long THREW = Long.MIN_VALUE;

    private final Due due;
    private final Random random;
    private final int run;
    private final SetWorkshop x = new SetWorkshop();
    private final Model m = new Model();
    private final StringBuilder told = new StringBuilder();
    private final int span;
    private final int edges;

    private RandomRunsTest(Due due, int run) {
        this.due = due;
        this.run = run;
        random = new Random(run);
        span = 1 + random.nextInt(12);
        edges = random.nextInt(4);
    }

    public static void main(String[] args) {
        Due due = new Due("RandomRunsTest");
        int[] seen = new int[3];
        for (int run = 0; run < RUNS && due.allRight(); run++) {
            new RandomRunsTest(due, run).go(seen);
        }
        for (int i = 0; i < seen.length; i++) {
            due.is("runs that answer " + i + " are met often", seen[i] > RUNS / 10, true);
        }
        due.end();
    }

    private void go(int[] seen) {
        int crafts = 1 + random.nextInt(3);
        for (int i = 0; i < crafts; i++) {
            int w = random.nextInt(6) == 0 ? 0 : 1 + random.nextInt(3);
            same("craft(" + w + ")", () -> x.craft(w), () -> m.craft(w));
        }
        for (int i = 0; i < CALLS && due.allRight(); i++) {
            change();
            if (random.nextInt(25) == 0 || i == CALLS - 1) {
                int deadline = random.nextInt(4) == 0 ? 1000 : 1 + random.nextInt(4 * span);
                same("run(" + deadline + ")", () -> x.run(deadline), () -> m.run(deadline));
                seen[m.answer]++;
                askAll();
            }
            if (random.nextInt(60) == 0) {
                askAll();
            }
        }
    }

    private int job() {
        return random.nextInt(m.jobs.size() + 2) - (random.nextInt(8) == 0 ? 1 : 0);
    }

    private int number() {
        switch (random.nextInt(30)) {
            case 0: return Integer.MAX_VALUE;
            case 1: return Integer.MIN_VALUE;
            case 2: return 0;
            case 3: return -1 - random.nextInt(3);
            default: return 1 + random.nextInt(20);
        }
    }

    private void change() {
        int j = job();
        int s = random.nextInt(30) == 0 ? 60 - random.nextInt(2) * 61 : random.nextInt(3);
        int v = random.nextInt(30) == 0 ? 0 : 1 + random.nextInt(10);
        switch (random.nextInt(20)) {
            case 0: case 1: case 2: case 3: case 4: {
                int c = random.nextInt(m.crafts.size() + (random.nextInt(9) == 0 ? 1 : 0));
                int t = random.nextInt(20) == 0 ? 0 : 1 + random.nextInt(span);
                int p = random.nextInt(3);
                same("job(" + c + ", " + t + ", " + p + ")", () -> x.job(c, t, p), () -> m.job(c, t, p));
                break;
            }
            case 5: case 6: case 7: {
                int b = job();
                if (random.nextInt(4) < edges || edges == 0) {
                    same("after(" + j + ", " + b + ")", () -> x.after(j, b), () -> m.after(j, b));
                }
                break;
            }
            case 8: same("machine()", x::machine, m::machine);
                break;
            case 9: case 10: {
                int machine = random.nextInt(m.machines + 1);
                same("needs(" + j + ", " + machine + ")", () -> x.needs(j, machine), () -> m.needs(j, machine));
                break;
            }
            case 11:
                same("stock(" + s + ", " + v + ")", () -> x.stock(s, v), () -> m.stock(s, v));
                break;
            case 12: case 13:
                same("uses(" + j + ", " + s + ", " + v + ")", () -> x.uses(j, s, v), () -> m.amount(true, j, s, v));
                break;
            case 14:
                same("gives(" + j + ", " + s + ", " + v + ")", () -> x.gives(j, s, v), () -> m.amount(false, j, s, v));
                break;
            case 15: {
                int kind = random.nextInt(20) == 0 ? 6 : random.nextInt(6);
                int a = number() * (random.nextBoolean() ? 1 : 3);
                int b = random.nextInt(4) == 0 ? number() : random.nextInt(3);
                same("body(" + j + ", " + kind + ", " + a + ", " + b + ")", () -> x.body(j, kind, a, b), () -> m.body(j, kind, a, b));
                break;
            }
            case 16: case 17: {
                int times = 1 + random.nextInt(4);
                for (int i = 0; i < times; i++) {
                    int n = number();
                    same("piece(" + j + ", " + n + ")", () -> x.piece(j, n), () -> m.piece(j, n));
                }
                break;
            }
            case 18: {
                int minute = random.nextInt(span + 2);
                int kind = random.nextInt(11);
                if (random.nextInt(2) == 0) {
                    same("plan(" + j + ", " + minute + ", " + kind + ")", () -> x.plan(j, minute, kind), () -> m.plan(j, minute, kind));
                }
                break;
            }
            default:
                seldom(j);
        }
    }

    private void seldom(int j) {
        switch (random.nextInt(4)) {
            case 0: same("strip(" + j + ")", () -> x.strip(j), () -> m.strip(j));
                break;
            case 1: same("clearPlan()", x::clearPlan, m::clearPlan);
                break;
            case 2: same("again()", () -> x.again() ? 1 : 0, () -> m.empty() ? 1 : 0);
                break;
            default: {
                int w = random.nextInt(3);
                same("craft(" + w + ")", () -> x.craft(w), () -> m.craft(w));
            }
        }
    }

    private void askAll() {
        for (int j = -1; j <= m.jobs.size(); j++) {
            int job = j;
            for (int w = -1; w <= 8; w++) {
                int what = w;
                same("state(" + job + ", " + what + ")", () -> x.state(job, what), () -> m.state(job, what));
            }
            for (int i = -1; i <= 30; i++) {
                int part = i;
                same("part(" + job + ", " + part + ")", () -> x.part(job, part), () -> m.part(job, part));
            }
            same("result(" + job + ")", () -> x.result(job), () -> m.result(job));
            same("check(" + job + ")", () -> x.check(job), () -> m.check(job));
            same("slack(" + job + ")", () -> x.slack(job), () -> m.slack(job));
            same("critical(" + job + ")", () -> x.critical(job), () -> job < 0 || job >= m.chain().size() ? -1 : m.chain().get(job));
            for (int o = -1; o <= m.jobs.size(); o++) {
                int on = o;
                same("leans(" + job + ", " + on + ")", () -> x.leans(job, on) ? 1 : 0, () -> m.leans(job, on) ? 1 : 0);
            }
        }
        same("failures()", x::failures, m::failures);
        for (int i = -1; i <= m.failures(); i++) {
            for (int w = -1; w <= 4; w++) {
                int n = i;
                int what = w;
                same("failure(" + n + ", " + what + ")", () -> x.failure(n, what), () -> m.failure(n, what));
            }
        }
        for (int i = -1; i <= m.log.size(); i++) {
            for (int w = -1; w <= 3; w++) {
                int n = i;
                int what = w;
                same("log(" + n + ", " + what + ")", () -> x.log(n, what), () -> m.log(n, what));
            }
        }
        askThings();
    }

    private void askThings() {
        for (int i = -1; i <= 60; i++) {
            int n = i;
            same("left(" + n + ")", () -> x.left(n), () -> m.left(n));
            same("had(" + n + ")", () -> x.had(n), () -> m.hadBy(n));
            same("idle(" + n + ")", () -> x.idle(n), () -> m.idle(n));
            same("count(" + n + ")", () -> x.count(n), () -> m.count(n));
        }
        same("audit()", x::audit, () -> 0);
    }

    private void same(String call, LongSupplier got, LongSupplier want) {
        long g = answer(got);
        long w = answer(want);
        boolean wasRight = due.allRight();
        due.is("run " + run + ": " + call, g, w);
        if (!call.startsWith("part") && !call.startsWith("leans")) {
            told.append(call).append(" = ").append(w == THREW ? "throws" : w).append('\n');
        }
        if (wasRight && !due.allRight()) {
            System.out.println(told);
        }
    }

    private static long answer(LongSupplier asked) {
        try {
            return asked.getAsLong();
        } catch (NoSuchElementException e) {
            return THREW;
        }
    }
}
