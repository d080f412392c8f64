/** Term 4 and promises 27 to 29: the chain, slack, and who is leaning on whom. */
public final class PathsTest {
    private static final Due due = new Due("PathsTest");

    public static void main(String[] args) {
        chainAndSlack();
        likeOnes();
        changesAreSeen();
        longChain();
        leaning();
        due.end();
    }

    private static SetWorkshop jobs(int... minutes) {
        SetWorkshop x = new SetWorkshop();
        x.craft(1);
        for (int m : minutes) {
            x.job(0, m, 0);
        }
        return x;
    }

    private static void chain(String name, SetWorkshop x, int tail, int... want) {
        due.is(name + ": count(7)", x.count(7), want.length);
        due.is(name + ": count(8)", x.count(8), tail);
        for (int i = 0; i < want.length; i++) {
            due.is(name + ": critical(" + i + ")", x.critical(i), want[i]);
        }
        due.is(name + ": critical behind", x.critical(want.length), -1);
        due.is(name + ": critical(-1)", x.critical(-1), -1);
        due.is(name + ": critical(HIGH)", x.critical(Integer.MAX_VALUE), -1);
    }

    private static void chainAndSlack() {
        SetWorkshop x = jobs(3, 2, 8, 4, 1);
        // 4 -> 1 -> 0 and 4 -> 3 -> 0, 2 alone
        x.after(0, 1);
        x.after(1, 4);
        x.after(0, 3);
        x.after(3, 4);
        chain("two ways", x, 8, 2);
        int[] slack = {0, 2, 0, 0, 0};
        for (int i = 0; i < 5; i++) {
            due.is("slack(" + i + ")", x.slack(i), slack[i]);
        }
        due.throwsNoSuchElement("slack(5)", () -> x.slack(5));
        due.throwsNoSuchElement("slack(-1)", () -> x.slack(-1));
    }

    private static void likeOnes() {
        SetWorkshop x = jobs(1, 5, 5, 4, 4);
        // The least of like ones, though it was joined last.
        x.after(4, 1);
        x.after(3, 1);
        x.after(4, 2);
        chain("like ones", x, 9, 1, 3);
        due.is("slack(0)", x.slack(0), 8);
        due.is("slack(2)", x.slack(2), 0);
    }

    private static void changesAreSeen() {
        SetWorkshop x = jobs(2);
        chain("one", x, 2, 0);
        x.job(0, 3, 0);
        chain("two", x, 3, 1);
        x.after(0, 1);
        chain("joined", x, 5, 1, 0);
        x.run(1);
        chain("behind a run", x, 5, 1, 0);
        due.is("slack", x.slack(0), 0);
    }

    private static void longChain() {
        SetWorkshop x = new SetWorkshop();
        x.craft(1);
        for (int i = 0; i < 200; i++) {
            x.job(0, 10000, 0);
        }
        int[] want = new int[200];
        for (int i = 0; i < 200; i++) {
            want[i] = 199 - i;
            if (i > 0) {
                due.is("after", x.after(i - 1, i), 0);
            }
        }
        chain("all in one", x, 2000000, want);
        due.is("leans end to end", x.leans(0, 199), true);
        due.is("a ring of all", x.after(199, 0), -4);
        due.is("cut at the greatest deadline", x.run(1000000), 2);
        due.is("a hundred are done", x.state(100, 0), 1);
        due.is("the next is not begun", x.state(99, 0), 0);
    }

    private static void leaning() {
        SetWorkshop x = jobs(1, 1, 1, 1);
        x.after(2, 1);
        x.after(1, 0);
        due.is("leans(2, 0)", x.leans(2, 0), true);
        due.is("leans(2, 1)", x.leans(2, 1), true);
        due.is("leans(0, 2)", x.leans(0, 2), false);
        due.is("leans(1, 1)", x.leans(1, 1), false);
        due.is("leans(3, 0)", x.leans(3, 0), false);
        for (int n : new int[] {-1, 4, Integer.MIN_VALUE, Integer.MAX_VALUE}) {
            due.throwsNoSuchElement("leans(n, 0)", () -> x.leans(n, 0) ? 1 : 0);
            due.throwsNoSuchElement("leans(0, n)", () -> x.leans(0, n) ? 1 : 0);
        }
    }
}
