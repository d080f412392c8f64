/** Term 2 and promises 18 to 20: what the bodies compute, and how they fail by themselves. */
public final class BodiesTest {
    private static final int LOW = Integer.MIN_VALUE;
    private static final int HIGH = Integer.MAX_VALUE;
    private static final Due due = new Due("BodiesTest");

    public static void main(String[] args) {
        nothing();
        cut();
        mix();
        load();
        pairs();
        countUp();
        onlyWhenDone();
        noSuchJob();
        due.end();
    }

    private static SetWorkshop of(int kind, int a, int b, int... numbers) {
        SetWorkshop x = new SetWorkshop();
        x.craft(1);
        x.job(0, 3, 0);
        x.body(0, kind, a, b);
        for (int v : numbers) {
            x.piece(0, v);
        }
        return x;
    }

    private static void computes(String name, SetWorkshop x, int result, long... parts) {
        due.is(name + " check", x.check(0), 0);
        due.is(name + " run", x.run(3), 0);
        due.is(name + " result", x.result(0), result);
        for (int i = 0; i < 32; i++) {
            due.is(name + " part " + i, x.part(0, i), i < parts.length ? parts[i] : 0);
        }
        due.is(name + " part -1", x.part(0, -1), 0);
        due.is(name + " part HIGH", x.part(0, HIGH), 0);
        due.is(name + " part LOW", x.part(0, LOW), 0);
    }

    private static void fails(String name, SetWorkshop x, int kind) {
        due.is(name + " check", x.check(0), kind);
        due.is(name + " run", x.run(3), 1);
        due.is(name + " check behind the run", x.check(0), kind);
        due.is(name + " state", x.state(0, 0), 2);
        due.is(name + " kind", x.state(0, 6), kind);
        due.is(name + " minute", x.state(0, 2), 3);
        due.is(name + " result", x.result(0), 0);
        due.is(name + " part", x.part(0, 0), 0);
    }

    private static void nothing() {
        computes("nothing", of(0, 5, 5), 0);
        computes("nothing with a list", of(0, 5, 5, -1, 7), 0);
    }

    private static void cut() {
        computes("cut one", of(1, 10, 0, 10), 1, 0);
        computes("cut like ones", of(1, 10, 0, 5, 5, 5), 2, 0, 0, 1);
        computes("cut with a saw", of(1, 10, 1, 5, 5, 4), 2, 0, 1, 0);
        computes("cut: the first board with room", of(1, 10, 0, 6, 7, 3, 4, 1), 3, 1, 0, 0, 1, 2);
        computes("cut: greatest numbers", of(1, HIGH, HIGH, HIGH, HIGH, 1), 3, 0, 1, 2);
        int[] ones = new int[30];
        java.util.Arrays.fill(ones, 1);
        long[] boards = new long[30];
        for (int i = 0; i < 30; i++) {
            boards[i] = i;
        }
        computes("cut: thirty boards", of(1, 1, 0, ones), 30, boards);
        fails("cut: no list", of(1, 10, 0), 13);
        fails("cut: no list, saw below 0", of(1, 10, -1), 13);
        fails("cut: saw below 0", of(1, 10, -1, 5), 20);
        fails("cut: number 0", of(1, 10, 0, 5, 0), 20);
        fails("cut: number above A", of(1, 10, 0, 5, 11), 20);
        fails("cut: number below 0", of(1, 10, 0, LOW), 20);
        fails("cut: board below 0", of(1, -5, 0, 1), 20);
    }

    private static void mix() {
        computes("mix even", of(2, 10, 0, 1, 1), 2, 5, 5);
        computes("mix: like rests, the first", of(2, 10, 0, 1, 1, 1), 3, 4, 3, 3);
        computes("mix: the greatest rest", of(2, 10, 0, 5, 1, 6), 3, 4, 1, 5);
        computes("mix: rests 2 of 7, 6 of 7, 6 of 7", of(2, 10, 0, 3, 2, 2), 3, 4, 3, 3);
        computes("mix: a zero", of(2, 3, 0, 0, 2), 1, 0, 3);
        computes("mix: nothing to share", of(2, 0, 0, 1, 2), 0);
        computes("mix: great", of(2, HIGH, 0, HIGH, HIGH, HIGH), 3, 715827883L, 715827882L, 715827882L);
        computes("mix: B is free", of(2, 4, LOW, 1), 1, 4);
        fails("mix: no list", of(2, 10, 0), 13);
        fails("mix: A below 0", of(2, -1, 0, 1), 21);
        fails("mix: a number below 0", of(2, 1, 0, 5, -1), 21);
        fails("mix: sum 0", of(2, 1, 0, 0, 0), 11);
        fails("mix: sum 0 with one below 0", of(2, 1, 0, 1, -1), 21);
        fails("mix: sum 0 and A below 0", of(2, -1, 0, 0), 21);
    }

    private static void load() {
        computes("load", of(3, 11, 2, 1, 1, 1), 3, 4, 4, 3);
        computes("load: from the first on, zero shares too", of(3, 5, 0, 0, 1, 1), 1, 1, 2, 2);
        computes("load: result of the last", of(3, 10, 1, 1, 2), 6, 4, 6);
        computes("load: great", of(3, HIGH, 0, HIGH), HIGH, HIGH);
        fails("load: no list", of(3, 10, -1), 13);
        fails("load: A below 0", of(3, -1, 9, 1), 21);
        fails("load: a number below 0", of(3, 1, 9, -1), 21);
        fails("load: sum 0", of(3, 1, 9, 0), 11);
        fails("load: no number B", of(3, 1, 1, 1), 12);
        fails("load: no number below 0", of(3, 1, -1, 1), 12);
    }

    private static void pairs() {
        computes("pairs", of(4, 2, 0, 5, 7, 3, 3), 2);
        computes("pairs: a last one", of(4, 0, 0, 5, 5, 9), 2);
        computes("pairs: one alone", of(4, 0, 0, -9), 1);
        computes("pairs: wide", of(4, HIGH, 0, 0, HIGH), 1);
        fails("pairs: no list", of(4, 1, 0), 13);
        fails("pairs: too wide", of(4, 1, 0, 5, 7), 22);
        fails("pairs: too narrow", of(4, 1, 0, 5, 4), 22);
        fails("pairs: the second", of(4, 1, 0, 5, 5, 5, 4), 22);
        fails("pairs: beyond 32 bits", of(4, HIGH, 0, LOW, HIGH), 22);
        fails("pairs: beyond 32 bits the other way", of(4, HIGH, 0, HIGH, LOW), 22);
        fails("pairs: A below 0", of(4, -1, 0, 5), 22);
    }

    private static void countUp() {
        computes("count", of(5, 0, 0, 3, 4), 7, 3, 4);
        computes("count: rounded up", of(5, 10, 0, 1, 10, 11, 0), 26, 2, 11, 13, 0);
        computes("count: the lowest 32 bits", of(5, 100, 0, HIGH, 1), 0, 4294967294L, 2);
        // 2147483647 * 2147483747 / 100, rounded up
        computes("count: great", of(5, HIGH, 0, HIGH), (int) 46116862288807854L, 46116862288807854L);
        fails("count: no list", of(5, -1, 0), 13);
        fails("count: A below 0", of(5, -1, 0, 1), 21);
        fails("count: a number below 0", of(5, 1, 0, 1, -1), 21);
    }

    private static void onlyWhenDone() {
        SetWorkshop x = of(5, 0, 0, 8);
        due.is("result ahead of a run", x.result(0), 0);
        due.is("part ahead of a run", x.part(0, 0), 0);
        x.plan(0, 1, 4);
        x.run(9);
        due.is("result of one that failed by plan", x.result(0), 0);
        due.is("part of one that failed by plan", x.part(0, 0), 0);
        x.clearPlan();
        x.run(2);
        due.is("result of an interrupted one", x.result(0), 0);
        due.is("part of an interrupted one", x.part(0, 0), 0);
        x.run(3);
        due.is("result", x.result(0), 8);
        x.again();
        due.is("result behind again", x.result(0), 0);
        // A plan that fails comes ahead of a body that would.
        x.body(0, 1, 1, 0);
        x.plan(0, 3, 5);
        x.run(9);
        due.is("kind of the plan", x.state(0, 6), 5);
        due.is("check looks at the body alone", x.check(0), 20);
    }

    private static void noSuchJob() {
        SetWorkshop x = of(5, 0, 0, 8);
        for (int job : new int[] {-1, 1, LOW, HIGH}) {
            due.throwsNoSuchElement("result", () -> x.result(job));
            due.throwsNoSuchElement("part", () -> x.part(job, 0));
            due.throwsNoSuchElement("check", () -> x.check(job));
        }
    }
}
