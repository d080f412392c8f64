import java.math.BigInteger;
import java.util.ArrayList;
import java.util.Arrays;
import java.util.Comparator;
import java.util.HashSet;
import java.util.List;
import java.util.Map;
import java.util.NoSuchElementException;
import java.util.Set;
import java.util.TreeMap;
import java.util.TreeSet;

/**
 * The document once more, in the slowest and plainest way: every minute is looked at, every path
 * is walked. It serves the random runs as the answer that is due.
 */
final class Model {
    static final class J {
        int n;
        int craft;
        int minutes;
        int priority;
        Set<Integer> before = new TreeSet<>();
        Set<Integer> machines = new TreeSet<>();
        Map<Integer, Integer> uses = new TreeMap<>();
        Map<Integer, Integer> gives = new TreeMap<>();
        int kind;
        int a;
        int b;
        List<Integer> list = new ArrayList<>();
        int[] plan;
        // the run
        int state;
        int began = -1;
        int ended = -1;
        int worker = -1;
        int far;
        int noticed;
        int failKind;
        boolean working;
    }

    final List<Integer> crafts = new ArrayList<>();
    int machines;
    final long[] first = new long[60];
    final List<J> jobs = new ArrayList<>();
    boolean ran;
    int answer;
    int minute;
    long[] store;
    int[] had;
    List<int[]> log = new ArrayList<>();

    int workers() {
        return crafts.stream().mapToInt(Integer::intValue).sum();
    }

    boolean empty() {
        boolean was = ran;
        ran = false;
        log = new ArrayList<>();
        for (J j : jobs) {
            j.state = 0;
            j.began = j.ended = j.worker = -1;
            j.far = j.noticed = j.failKind = 0;
            j.working = false;
        }
        return was;
    }

    private int done(int answer) {
        empty();
        return answer;
    }

    private boolean noJob(int j) {
        return j < 0 || j >= jobs.size();
    }

    int craft(int w) {
        if (w < 0 || w > 32) return -2;
        if (crafts.size() == 8 || workers() + w > 32) return -8;
        crafts.add(w);
        return done(crafts.size() - 1);
    }

    int machine() {
        return machines == 40 ? -8 : done(machines++);
    }

    int stock(int s, int v) {
        if (s < 0 || s > 59) return -1;
        if (v < 0 || v > 1000000) return -2;
        if (first[s] + v > 1000000000) return -8;
        first[s] += v;
        return done(0);
    }

    int job(int c, int m, int p) {
        if (c < 0 || c >= crafts.size()) return -1;
        if (m < 1 || m > 10000 || p < 0 || p > 1000) return -2;
        if (jobs.size() == 200) return -8;
        J j = new J();
        j.n = jobs.size();
        j.craft = c;
        j.minutes = m;
        j.priority = p;
        jobs.add(j);
        return done(j.n);
    }

    Set<Integer> leaningOn(int j) {
        Set<Integer> seen = new HashSet<>();
        walk(j, seen);
        return seen;
    }

    private void walk(int j, Set<Integer> seen) {
        for (int b : jobs.get(j).before) {
            if (seen.add(b)) walk(b, seen);
        }
    }

    int after(int j, int b) {
        if (noJob(j) || noJob(b)) return -1;
        if (jobs.get(j).before.contains(b)) return -3;
        if (j == b || leaningOn(b).contains(j)) return -4;
        jobs.get(j).before.add(b);
        return done(0);
    }

    int needs(int j, int m) {
        if (noJob(j) || m < 0 || m >= machines) return -1;
        if (!jobs.get(j).machines.add(m)) return -3;
        return done(0);
    }

    int amount(boolean uses, int j, int s, int v) {
        if (noJob(j) || s < 0 || s > 59) return -1;
        if (v < 1 || v > 1000000) return -2;
        (uses ? jobs.get(j).uses : jobs.get(j).gives).put(s, v);
        return done(0);
    }

    int body(int j, int kind, int a, int b) {
        if (noJob(j)) return -1;
        if (kind < 0 || kind > 5) return -2;
        jobs.get(j).kind = kind;
        jobs.get(j).a = a;
        jobs.get(j).b = b;
        return done(0);
    }

    int piece(int j, int v) {
        if (noJob(j)) return -1;
        if (jobs.get(j).list.size() == 30) return -8;
        jobs.get(j).list.add(v);
        return done(0);
    }

    int strip(int j) {
        if (noJob(j)) return -1;
        if (jobs.get(j).list.isEmpty()) return -3;
        jobs.get(j).list.clear();
        return done(0);
    }

    int plan(int j, int minute, int kind) {
        if (noJob(j)) return -1;
        if (minute < 1 || minute > jobs.get(j).minutes || kind < 1 || kind > 9) return -2;
        jobs.get(j).plan = new int[] {minute, kind};
        return done(0);
    }

    int clearPlan() {
        int n = 0;
        for (J j : jobs) {
            if (j.plan != null) n++;
            j.plan = null;
        }
        return done(n);
    }

    // Bodies: big numbers, so that nothing can run over.

    int check(int job) {
        J j = at(job);
        List<Integer> l = j.list;
        if (j.kind == 0) return 0;
        if (l.isEmpty()) return 13;
        boolean below = j.a < 0 || l.stream().anyMatch(v -> v < 0);
        boolean allZero = l.stream().allMatch(v -> v == 0);
        switch (j.kind) {
            case 1:
                return j.b < 0 || l.stream().anyMatch(v -> v < 1 || v > j.a) ? 20 : 0;
            case 2:
                return below ? 21 : allZero ? 11 : 0;
            case 3:
                return below ? 21 : allZero ? 11 : j.b < 0 || j.b >= l.size() ? 12 : 0;
            case 4:
                for (int i = 0; i < l.size(); i += 2) {
                    long d = (i + 1 == l.size() ? (long) l.get(i) : (long) l.get(i + 1)) - l.get(i);
                    if (!(0 <= d && d <= j.a)) return 22;
                }
                return 0;
            default:
                return below ? 21 : 0;
        }
    }

    /** PARTS, and behind them RESULT. */
    long[] compute(J j) {
        int n = j.list.size();
        long[] out = new long[31];
        if (j.kind == 0 || check(j.n) != 0) return out;
        Integer[] byOrder = new Integer[n];
        for (int i = 0; i < n; i++) byOrder[i] = i;
        if (j.kind == 1) {
            Arrays.sort(byOrder, Comparator.comparingInt(i -> -j.list.get(i)));
            List<List<Long>> boards = new ArrayList<>();
            for (int i : byOrder) {
                long v = j.list.get(i);
                int k = 0;
                while (k < boards.size() && length(boards.get(k), j.b) + j.b + v > j.a) k++;
                if (k == boards.size()) boards.add(new ArrayList<>());
                boards.get(k).add(v);
                out[i] = k;
            }
            out[30] = boards.size();
        } else if (j.kind == 2 || j.kind == 3) {
            BigInteger sum = BigInteger.ZERO;
            for (int v : j.list) sum = sum.add(BigInteger.valueOf(v));
            BigInteger[] rest = new BigInteger[n];
            long given = 0;
            for (int i = 0; i < n; i++) {
                BigInteger[] q = BigInteger.valueOf(j.a).multiply(BigInteger.valueOf(j.list.get(i)))
                    .divideAndRemainder(sum);
                out[i] = q[0].longValueExact();
                rest[i] = q[1];
                given += out[i];
            }
            if (j.kind == 2) {
                Arrays.sort(byOrder, (x, y) -> rest[y].compareTo(rest[x]));
            }
            for (int k = 0; given < j.a; k = (k + 1) % n) {
                out[byOrder[k]]++;
                given++;
            }
            if (j.kind == 3) {
                out[30] = out[j.b];
            } else {
                for (int i = 0; i < n; i++) {
                    if (out[i] > 0) out[30]++;
                }
            }
        } else if (j.kind == 4) {
            out[30] = n / 2 + n % 2;
        } else {
            BigInteger sum = BigInteger.ZERO;
            for (int i = 0; i < n; i++) {
                BigInteger[] q = BigInteger.valueOf(j.list.get(i))
                    .multiply(BigInteger.valueOf(100L + j.a))
                    .divideAndRemainder(BigInteger.valueOf(100));
                BigInteger up = q[1].signum() == 0 ? q[0] : q[0].add(BigInteger.ONE);
                out[i] = up.longValueExact();
                sum = sum.add(up);
            }
            out[30] = sum.intValue();
        }
        return out;
    }

    private static long length(List<Long> board, long saw) {
        long sum = saw * (board.size() - 1);
        for (long v : board) sum += v;
        return sum;
    }

    // The run, every minute looked at.

    int run(int deadline) {
        if (deadline < 1 || deadline > 1000000) return -2;
        empty();
        ran = true;
        store = first.clone();
        had = new int[40];
        Arrays.fill(had, -1);
        neverAtOnce();
        boolean over = false;
        boolean cut = false;
        for (int now = 0; !over; now++) {
            Set<Integer> failed = new HashSet<>();
            for (J j : jobs) {
                if (j.working && now == j.began + (j.plan != null ? j.plan[0] : j.minutes)) {
                    int kind = j.plan != null ? j.plan[1] : check(j.n);
                    stop(j, now, kind == 0 ? 1 : 2);
                    j.failKind = kind;
                    if (kind == 0) {
                        j.gives.forEach((s, v) -> store[s] += v);
                    } else {
                        failed.add(j.n);
                    }
                }
            }
            for (J j : jobs) {
                Set<Integer> on = leaningOn(j.n);
                on.retainAll(failed);
                if (j.state == 0 && !j.working && !on.isEmpty()) event(now, 3, j, 3);
            }
            if (now == deadline) {
                over = true;
                for (J j : jobs) {
                    if (j.working) {
                        stop(j, now, 4);
                        j.noticed = j.kind != 0 && j.far < j.minutes / 2 ? 2 : 1;
                        cut = true;
                    }
                }
                cut |= jobs.stream().anyMatch(this::mayBegin);
                if (!cut) rest(now);
            } else {
                begin(now);
                if (jobs.stream().noneMatch(j -> j.working)) {
                    over = true;
                    rest(now);
                }
            }
        }
        log.sort(Comparator.<int[]>comparingInt(e -> e[0]).thenComparingInt(e -> e[2])
            .thenComparingInt(e -> e[1]));
        minute = log.isEmpty() ? 0 : log.get(log.size() - 1)[0];
        answer = cut ? 2 : jobs.stream().allMatch(j -> j.state == 1) ? 0 : 1;
        return answer;
    }

    private void neverAtOnce() {
        Set<Integer> hopeless = new HashSet<>();
        for (J j : jobs) {
            if (crafts.get(j.craft) == 0) hopeless.add(j.n);
            for (int s : j.uses.keySet()) {
                long all = first[s];
                for (J o : jobs) {
                    if (o != j) all += o.gives.getOrDefault(s, 0);
                }
                if (j.uses.get(s) > all) hopeless.add(j.n);
            }
        }
        for (J j : jobs) {
            Set<Integer> on = leaningOn(j.n);
            on.add(j.n);
            on.retainAll(hopeless);
            if (!on.isEmpty()) event(0, 6, j, 5);
        }
    }

    private void event(int now, int kind, J j, int state) {
        j.state = state;
        log.add(new int[] {now, j.n, kind});
    }

    private void rest(int now) {
        for (J j : jobs) {
            if (j.state == 0) event(now, 6, j, 5);
        }
    }

    private void stop(J j, int now, int state) {
        event(now, state, j, state);
        j.working = false;
        j.ended = now;
        j.far = now - j.began;
        if (state != 1) {
            j.uses.forEach((s, v) -> store[s] += v - (long) v * j.far / j.minutes);
        }
    }

    private boolean mayBegin(J j) {
        if (j.state != 0 || j.working || freeWorker(j.craft) < 0) return false;
        for (int b : j.before) {
            if (jobs.get(b).state != 1) return false;
        }
        for (J o : jobs) {
            if (o.working && o.machines.stream().anyMatch(j.machines::contains)) return false;
        }
        return j.uses.entrySet().stream().allMatch(e -> store[e.getKey()] >= e.getValue());
    }

    private int freeWorker(int craft) {
        int from = crafts.subList(0, craft).stream().mapToInt(Integer::intValue).sum();
        for (int w = from; w < from + crafts.get(craft); w++) {
            int worker = w;
            if (jobs.stream().noneMatch(o -> o.working && o.worker == worker)) return w;
        }
        return -1;
    }

    private void begin(int now) {
        List<J> order = new ArrayList<>(jobs);
        order.sort(Comparator.<J>comparingInt(j -> j.craft).thenComparingInt(j -> j.priority)
            .thenComparingInt(j -> j.n));
        for (J j : order) {
            if (mayBegin(j)) {
                j.worker = freeWorker(j.craft);
                j.working = true;
                j.began = now;
                j.machines.forEach(m -> had[m] = j.n);
                j.uses.forEach((s, v) -> store[s] -= v);
                log.add(new int[] {now, j.n, 5});
            }
        }
    }

    // What is asked.

    private J at(int j) {
        if (noJob(j)) throw new NoSuchElementException();
        return jobs.get(j);
    }

    int state(int job, int what) {
        J j = at(job);
        int[] row = {j.state, j.began, j.ended, j.worker, j.far, j.noticed, j.failKind, -1};
        if (j.state == 3) {
            row[7] = leaningOn(job).stream().filter(o -> jobs.get(o).state == 2)
                .mapToInt(Integer::intValue).min().orElse(-1);
        }
        return what < 0 || what > 7 ? -1 : row[what];
    }

    int result(int job) {
        return at(job).state == 1 ? (int) compute(at(job))[30] : 0;
    }

    long part(int job, int i) {
        return at(job).state == 1 && i >= 0 && i < 30 ? compute(at(job))[i] : 0;
    }

    private List<J> failed() {
        return jobs.stream().filter(j -> j.state == 2).toList();
    }

    int failures() {
        return failed().size();
    }

    int failure(int i, int what) {
        List<J> f = failed();
        if (i < 0 || i >= f.size()) throw new NoSuchElementException();
        J j = f.get(i);
        int[] row = {j.n, j.failKind, j.ended, i == 0 ? -1 : f.get(0).n};
        return what < 0 || what > 3 ? -1 : row[what];
    }

    long left(int s) {
        if (s < 0 || s > 59) throw new NoSuchElementException();
        return ran ? store[s] : first[s];
    }

    int hadBy(int m) {
        if (m < 0 || m >= machines) throw new NoSuchElementException();
        return ran ? had[m] : -1;
    }

    long idle(int c) {
        if (c < 0 || c >= crafts.size()) throw new NoSuchElementException();
        long last = Math.max(0, jobs.stream().mapToInt(j -> j.ended).max().orElse(0));
        return crafts.get(c) * last
            - jobs.stream().filter(j -> j.craft == c).mapToInt(j -> j.far).sum();
    }

    int log(int i, int what) {
        return i < 0 || i >= log.size() || what < 0 || what > 2 ? -1 : log.get(i)[what];
    }

    private int tail(int j) {
        int most = 0;
        for (J o : jobs) {
            if (o.before.contains(j)) most = Math.max(most, tail(o.n));
        }
        return jobs.get(j).minutes + most;
    }

    private int head(int j) {
        int most = 0;
        for (int b : jobs.get(j).before) most = Math.max(most, head(b));
        return jobs.get(j).minutes + most;
    }

    int longest() {
        return jobs.stream().mapToInt(j -> tail(j.n)).max().orElse(0);
    }

    List<Integer> chain() {
        List<Integer> chain = new ArrayList<>();
        List<J> from = jobs;
        while (!from.isEmpty()) {
            J best = from.get(0);
            for (J j : from) {
                if (tail(j.n) > tail(best.n)) best = j;
            }
            chain.add(best.n);
            int last = best.n;
            from = jobs.stream().filter(j -> j.before.contains(last)).toList();
        }
        return chain;
    }

    int slack(int job) {
        at(job);
        return longest() - (head(job) + tail(job)) + jobs.get(job).minutes;
    }

    boolean leans(int job, int on) {
        at(job);
        at(on);
        return leaningOn(job).contains(on);
    }

    int count(int what) {
        switch (what) {
            case 0: return crafts.size();
            case 1: return workers();
            case 2: return machines;
            case 3: return jobs.size();
            case 4: return ran ? answer : -1;
            case 5: return log.size();
            case 6: return ran ? minute : 0;
            case 7: return chain().size();
            case 8: return longest();
            default: return -1;
        }
    }
}
