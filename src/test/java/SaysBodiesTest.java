import java.util.Arrays;

/** The document's words in Term 2: what the bodies compute, and by which kind they fail. */
public final class SaysBodiesTest {
    private static final int LOW = Shops.LOW;
    private static final int HIGH = Shops.HIGH;

    private final Sentences doc = new Sentences("SaysBodiesTest");

    public static void main(String[] args) {
        all().end();
    }

    static Sentences all() {
        SaysBodiesTest test = new SaysBodiesTest();
        test.allBodies();
        test.cut();
        test.mix();
        test.load();
        test.pairs();
        test.countUp();
        test.wide();
        return test.doc;
    }

    private static void computes(Due due, SetWorkshop x, int result, long... parts) {
        due.is("check", x.check(0), 0);
        due.is("run", x.run(3), 0);
        due.is("result", x.result(0), result);
        for (int i = 0; i < 31; i++) {
            due.is("part " + i, x.part(0, i), i < parts.length ? parts[i] : 0);
        }
    }

    private static void fails(Due due, SetWorkshop x, int kind) {
        due.is("check", x.check(0), kind);
        due.is("run", x.run(3), 1);
        due.is("kind by which it failed", x.state(0, 6), kind);
        due.is("result", x.result(0), 0);
        due.is("part", x.part(0, 0), 0);
    }

    private static int[] thirty(int number) {
        int[] all = new int[30];
        Arrays.fill(all, number);
        return all;
    }

    private void allBodies() {
        doc.says("Term 2", "BODIES compute a RESULT, and PARTS for the numbers of the LIST (0 behind them),", due -> {
            for (int kind = 1; kind <= 5; kind++) {
                // Two numbers, then one alone: nothing is left over from the longer list.
                SetWorkshop x = Shops.body(kind, 9, 0, 9, 9);
                x.run(3);
                x.part(0, 1);
                x.strip(0);
                x.piece(0, 9);
                x.run(3);
                due.is("a result of kind " + kind, x.result(0) > 0, true);
                for (int i : new int[] {1, 2, 29, 30, 31, HIGH, -1, LOW}) {
                    due.is("kind " + kind + ", part " + i, x.part(0, i), 0);
                }
            }
            SetWorkshop full = Shops.body(5, 0, 0, thirty(7));
            full.run(3);
            due.is("the last of thirty", full.part(0, 29), 7);
            due.is("behind thirty", full.part(0, 30), 0);
        });
        doc.says("Term 2", "or FAIL by themselves, with a kind: 13 there is no LIST (kinds 1 to 5);", due -> {
            for (int kind = 0; kind <= 5; kind++) {
                SetWorkshop x = Shops.body(kind, 9, 0);
                due.is("kind " + kind, x.check(0), kind == 0 ? 0 : 13);
                due.is("run", x.run(3), kind == 0 ? 0 : 1);
                due.is("failed by", x.state(0, 6), kind == 0 ? 0 : 13);
                x.piece(0, 9);
                due.is("with a list", x.check(0), 0);
                x.strip(0);
                due.is("stripped", x.check(0), kind == 0 ? 0 : 13);
            }
        });
        doc.says("Term 2", "else as told, the first that is met:", due -> {
            for (int kind = 1; kind <= 5; kind++) {
                fails(due, Shops.body(kind, -1, -1), 13);
            }
            fails(due, Shops.body(2, -1, 0, 0, 0), 21);
            fails(due, Shops.body(2, 1, 0, 1, -1), 21);
            fails(due, Shops.body(3, -1, 9, 0), 21);
            fails(due, Shops.body(3, 1, 9, 1, -1), 21);
            fails(due, Shops.body(3, 1, 9, 0), 11);
        });
        doc.says("Term 2", "0: RESULT 0, no PARTS.", due -> {
            computes(due, Shops.body(0, 9, 9), 0);
            computes(due, Shops.body(0, 9, 0, 9, 3), 0);
            computes(due, Shops.body(0, -1, -1, -1, LOW, HIGH), 0);
            nothingOfAnother(due, 0);
        });
    }

    /** A body without parts shows none, though another job's parts were computed just ahead. */
    private static void nothingOfAnother(Due due, int kind) {
        SetWorkshop x = Shops.jobs(2, 1, 1);
        for (int job = 0; job < 2; job++) {
            x.body(job, job == 0 ? 5 : kind, 0, 0);
            x.piece(job, 6);
            x.piece(job, 6);
        }
        x.run(1);
        for (int i = 0; i < 2; i++) {
            due.is("the other's part " + i, x.part(0, i), 6);
            due.is("its own part " + i, x.part(1, i), 0);
        }
        due.is("the other's result", x.result(0), 12);
        due.is("its own result", x.result(1), kind == 0 ? 0 : 1);
    }

    private void cut() {
        doc.says("Term 2", "1 CUT: boards of length A, saws B wide:", due -> {
            computes(due, Shops.body(1, 10, 2, 4, 4), 1, 0, 0);
            computes(due, Shops.body(1, 9, 2, 4, 4), 2, 0, 1);
            computes(due, Shops.body(1, 10, 3, 4, 4), 2, 0, 1);
        });
        doc.says("Term 2", "the numbers, the greatest first (of like ones the first),", due -> {
            computes(due, Shops.body(1, 10, 0, 3, 7, 6, 4), 2, 0, 0, 1, 1);
            computes(due, Shops.body(1, 10, 0, 6, 6, 6), 3, 0, 1, 2);
            computes(due, Shops.body(1, 10, 0, 2, 5, 5, 5), 2, 1, 0, 0, 1);
        });
        doc.says("Term 2", "go each to the first board with room for it, a new one if none has:", due -> {
            // 7 and 6 open boards; 3 fills the first, 4 the second; nothing has room for 1.
            computes(due, Shops.body(1, 10, 0, 7, 6, 4, 3, 1), 3, 0, 1, 1, 0, 2);
            // Both have room: the first takes it.
            computes(due, Shops.body(1, 10, 0, 7, 6, 2, 2), 2, 0, 1, 0, 1);
            // The first that has room takes 1, not the one that it would fill (10 and 9 and 1).
            computes(due, Shops.body(1, 20, 0, 12, 10, 9, 1), 2, 0, 1, 1, 0);
            long[] boards = new long[30];
            for (int i = 0; i < 30; i++) {
                boards[i] = i;
            }
            computes(due, Shops.body(1, 5, 0, thirty(5)), 30, boards);
            computes(due, Shops.body(1, 30, 0, thirty(1)), 1);
        });
        doc.says("Term 2", "a piece takes its length, and B if it is not the first on its board;", due -> {
            computes(due, Shops.body(1, 10, HIGH, 10), 1, 0);
            computes(due, Shops.body(1, 10, 1, 5, 4), 1, 0, 0);
            computes(due, Shops.body(1, 10, 1, 5, 5), 2, 0, 1);
            computes(due, Shops.body(1, 10, 1, 4, 3, 1), 1, 0, 0, 0);
            computes(due, Shops.body(1, 10, 1, 4, 3, 2), 2, 0, 0, 1);
        });
        doc.says("Term 2", "20: the first number in the LIST that is below 1 or above A, or B below 0.", due -> {
            computes(due, Shops.body(1, 10, 0, 1, 10), 2, 1, 0);
            computes(due, Shops.body(1, 1, 0, 1), 1, 0);
            for (int number : new int[] {0, -1, LOW, 11, HIGH}) {
                fails(due, Shops.body(1, 10, 0, number), 20);
                fails(due, Shops.body(1, 10, 0, 5, 5, number), 20);
            }
            fails(due, Shops.body(1, 10, -1, 5), 20);
            fails(due, Shops.body(1, 10, LOW, 5), 20);
            fails(due, Shops.body(1, 0, 0, 1), 20);
            fails(due, Shops.body(1, LOW, 0, 1), 20);
        });
        doc.says("Term 2", "RESULT: boards; PART i: the board (from 0 on) of number i.", due -> {
            computes(due, Shops.body(1, 10, 0, 10), 1, 0);
            computes(due, Shops.body(1, 10, 0, 8, 10, 9), 3, 2, 0, 1);
        });
    }

    private void mix() {
        doc.says("Term 2", "2 MIX: A (tenths) in parts as the numbers: each A * number / sum (cut);", due -> {
            computes(due, Shops.body(2, 100, 0, 1, 3), 2, 25, 75);
            computes(due, Shops.body(2, 7, 0, 5), 1, 7);
            computes(due, Shops.body(2, 0, 0, 5, 6), 0);
        });
        doc.says("Term 2", "what is left of A, one each, to those with the greatest rest of that division (of like ones the first).", due -> {
            // 10 * 3, 2, 2 / 7: rests 2, 6, 6; two are left.
            computes(due, Shops.body(2, 10, 0, 3, 2, 2), 3, 4, 3, 3);
            // 10 / 3 each: one is left, rests are like.
            computes(due, Shops.body(2, 10, 0, 1, 1, 1), 3, 4, 3, 3);
            // 1 * 1, 1, 2 / 4: the last has the greatest rest.
            computes(due, Shops.body(2, 1, 0, 1, 1, 2), 1, 0, 0, 1);
            // 29 on thirty like ones: each but the last has one.
            long[] parts = new long[29];
            Arrays.fill(parts, 1);
            computes(due, Shops.body(2, 29, 0, thirty(1)), 29, parts);
        });
        doc.says("Term 2", "21: a number is below 0, or A is;", due -> {
            computes(due, Shops.body(2, 1, 0, 0, 1), 1, 0, 1);
            computes(due, Shops.body(2, 0, 0, 1), 0);
            fails(due, Shops.body(2, 1, 0, 5, -1), 21);
            fails(due, Shops.body(2, 1, 0, LOW), 21);
            fails(due, Shops.body(2, -1, 0, 5), 21);
            fails(due, Shops.body(2, LOW, 0, 5), 21);
        });
        doc.says("Term 2", "11: the sum is 0.", due -> {
            fails(due, Shops.body(2, 1, 0, 0), 11);
            fails(due, Shops.body(2, 0, 0, thirty(0)), 11);
            // 2147483647 * 2 + 2 is 0 in 32 bits, but not in 64.
            computes(due, Shops.body(2, 8, 0, HIGH, HIGH, 2), 2, 4, 4, 0);
        });
        doc.says("Term 2", "RESULT: how many PARTS are above 0; PART i its amount.", due -> {
            computes(due, Shops.body(2, 2, 0, 5, 0, 5, 0), 2, 1, 0, 1, 0);
            computes(due, Shops.body(2, 1, 0, 5, 5), 1, 1, 0);
            computes(due, Shops.body(2, 0, 0, 5, 5), 0, 0, 0);
        });
    }

    private void load() {
        doc.says("Term 2", "3 LOAD: A (grams) on points by shares: each A * number / sum (cut),", due -> {
            computes(due, Shops.body(3, 100, 0, 1, 3), 25, 25, 75);
            computes(due, Shops.body(3, 7, 0, 5), 7, 7);
            computes(due, Shops.body(3, 0, 1, 5, 6), 0);
        });
        doc.says("Term 2", "then what is left one each from the first on, round and round.", due -> {
            computes(due, Shops.body(3, 11, 0, 1, 1, 1), 4, 4, 4, 3);
            // 10 * 3, 2, 2 / 7 are 4, 2, 2: two are left, and the greatest rests do not matter.
            computes(due, Shops.body(3, 10, 0, 3, 2, 2), 5, 5, 3, 2);
            // A point without a share takes its turn too.
            computes(due, Shops.body(3, 5, 0, 0, 1, 1), 1, 1, 2, 2);
            long[] parts = new long[29];
            Arrays.fill(parts, 1);
            computes(due, Shops.body(3, 29, 29, thirty(1)), 0, parts);
        });
        doc.says("Term 2", "21 and 11 as in MIX;", due -> {
            computes(due, Shops.body(3, 1, 1, 0, 1), 1, 0, 1);
            fails(due, Shops.body(3, 1, 0, 5, -1), 21);
            fails(due, Shops.body(3, 1, 0, LOW), 21);
            fails(due, Shops.body(3, -1, 0, 5), 21);
            fails(due, Shops.body(3, LOW, 0, 5), 21);
            fails(due, Shops.body(3, 1, 0, 0), 11);
            fails(due, Shops.body(3, 0, 0, thirty(0)), 11);
            computes(due, Shops.body(3, 8, 0, HIGH, HIGH, 2), 4, 4, 4, 0);
        });
        doc.says("Term 2", "12: there is no number B.", due -> {
            for (int b : new int[] {2, 30, HIGH, -1, LOW}) {
                fails(due, Shops.body(3, 10, b, 1, 1), 12);
            }
            computes(due, Shops.body(3, 10, 1, 1, 1), 5, 5, 5);
            fails(due, Shops.body(3, 10, 30, thirty(1)), 12);
            due.is("number 29 of thirty", Shops.body(3, 10, 29, thirty(1)).check(0), 0);
            due.is("MIX does not ask for it", Shops.body(2, 10, 9, 1, 1).check(0), 0);
        });
        doc.says("Term 2", "RESULT: what PART B has.", due -> {
            for (int b = 0; b < 3; b++) {
                computes(due, Shops.body(3, 12, b, 1, 2, 3), new int[] {2, 4, 6}[b], 2, 4, 6);
            }
        });
    }

    private void pairs() {
        doc.says("Term 2", "4 CHECK: numbers two by two, a piece and its frame (a last one without a frame is its own):", due -> {
            computes(due, Shops.body(4, 2, 0, 5, 7, 3, 4), 2);
            // By threes or in another pairing 7 and 3 would not fit.
            fails(due, Shops.body(4, 2, 0, 1, 5, 7, 7), 22);
            computes(due, Shops.body(4, 0, 0, 5, 5, HIGH), 2);
            computes(due, Shops.body(4, 0, 0, LOW), 1);
            // It is looked at like every other pair: 0 is not 0 to a number below 0.
            fails(due, Shops.body(4, -1, 0, 5), 22);
            computes(due, Shops.body(4, 0, 0, thirty(-3)), 15);
        });
        doc.says("Term 2", "the frame less the piece must be 0 to A:", due -> {
            computes(due, Shops.body(4, 3, 0, 5, 5), 1);
            computes(due, Shops.body(4, 3, 0, 5, 8), 1);
            fails(due, Shops.body(4, 3, 0, 5, 4), 22);
            fails(due, Shops.body(4, 3, 0, 5, 9), 22);
            computes(due, Shops.body(4, 0, 0, 5, 5), 1);
            fails(due, Shops.body(4, 0, 0, 5, 6), 22);
            // 0 to a number below 0: nothing fits, not even a number that is its own frame.
            fails(due, Shops.body(4, -1, 0, 5, 5), 22);
            fails(due, Shops.body(4, -1, 0, 5), 22);
            // Beyond 32 bits either way.
            computes(due, Shops.body(4, HIGH, 0, 0, HIGH), 1);
            computes(due, Shops.body(4, HIGH, 0, LOW, -1), 1);
            fails(due, Shops.body(4, HIGH, 0, LOW, 0), 22);
            fails(due, Shops.body(4, HIGH, 0, LOW, HIGH), 22);
            fails(due, Shops.body(4, HIGH, 0, HIGH, LOW), 22);
        });
        doc.says("Term 2", "22 for the first pair where it is not.", due -> {
            fails(due, Shops.body(4, 1, 0, 5, 4, 5, 5, 5, 5), 22);
            fails(due, Shops.body(4, 1, 0, 5, 5, 5, 4, 5, 5), 22);
            fails(due, Shops.body(4, 1, 0, 5, 5, 5, 5, 5, 4), 22);
            int[] last = thirty(1);
            last[29] = 3;
            fails(due, Shops.body(4, 1, 0, last), 22);
        });
        doc.says("Term 2", "RESULT: how many pairs.", due -> {
            nothingOfAnother(due, 4);
            for (int n = 1; n <= 30; n++) {
                computes(due, Shops.body(4, 0, 0, Arrays.copyOf(thirty(6), n)), (n + 1) / 2);
            }
        });
    }

    private void countUp() {
        doc.says("Term 2", "5 COUNT: PART i is number * (100 + A) / 100, rounded up to a whole number;", due -> {
            computes(due, Shops.body(5, 0, 0, 3, 0), 3, 3, 0);
            computes(due, Shops.body(5, 1, 0, 99, 100, 101, 1), 100 + 101 + 103 + 2, 100, 101, 103, 2);
            computes(due, Shops.body(5, 50, 0, 1, 2, 3), 2 + 3 + 5, 2, 3, 5);
            computes(due, Shops.body(5, 100, 0, 7), 14, 14);
        });
        doc.says("Term 2", "21: a number or A is below 0.", due -> {
            computes(due, Shops.body(5, 0, 0, 0), 0);
            fails(due, Shops.body(5, -1, 0, 5), 21);
            fails(due, Shops.body(5, LOW, 0, 5), 21);
            fails(due, Shops.body(5, 0, 0, -1), 21);
            fails(due, Shops.body(5, 0, 0, 5, 5, LOW), 21);
            due.is("B is free", Shops.body(5, 0, LOW, 5).check(0), 0);
        });
        doc.says("Term 2", "RESULT: the sum of PARTS, the lowest 32 bits.", due -> {
            computes(due, Shops.body(5, 0, 0, 3, 4, 5), 12, 3, 4, 5);
            computes(due, Shops.body(5, 0, 0, HIGH, 1), LOW, HIGH, 1);
            computes(due, Shops.body(5, 100, 0, HIGH, 1), 0, 4294967294L, 2);
            computes(due, Shops.body(5, 100, 0, HIGH, 2), 2, 4294967294L, 4);
        });
    }

    private void wide() {
        doc.says("Term 2", "(All is reckoned with 64 bits; numbers of a LIST and A, B are ints.)", due -> {
            // In 32 bits two boards' worth and the saw would come back round and fit.
            computes(due, Shops.body(1, HIGH, HIGH, HIGH, HIGH, 1), 3, 0, 1, 2);
            computes(due, Shops.body(1, HIGH, 0, HIGH, HIGH), 2, 0, 1);
            computes(due, Shops.body(2, HIGH, 0, HIGH, HIGH, HIGH), 3,
                715827883L, 715827882L, 715827882L);
            computes(due, Shops.body(3, HIGH, 0, HIGH), HIGH, HIGH);
            computes(due, Shops.body(3, HIGH, 1, 1, HIGH), HIGH - 1, 1, HIGH - 1L);
            // 2147483647 * 2147483747 / 100, rounded up
            computes(due, Shops.body(5, HIGH, 0, HIGH), (int) 46116862288807854L, 46116862288807854L);
            long[] parts = new long[30];
            Arrays.fill(parts, 46116862288807854L);
            computes(due, Shops.body(5, HIGH, 0, thirty(HIGH)), (int) (30 * 46116862288807854L), parts);
            computes(due, Shops.body(4, HIGH, 0, LOW, LOW, HIGH, HIGH), 2);
        });
    }
}
