import java.util.ArrayList;
import java.util.NoSuchElementException;

/**
 * A workshop for stage sets: jobs of crafts with prerequisites, machines and stock, taken by
 * workers minute by minute in a told order.
 */
public final class SetWorkshop {

    public static final int NONE = -1;

    private static final int UNKNOWN = -1;
    private static final int OUT_OF_RANGE = -2;
    private static final int ALREADY_SO = -3;
    private static final int RING = -4;
    private static final int FULL = -8;

    private static final int MOST_CRAFTS = 8;
    private static final int MOST_WORKERS = 32;
    private static final int MOST_MACHINES = 40;
    private static final int STOCKS = 60;
    private static final int MOST_JOBS = 200;
    private static final int MOST_NUMBERS = 30;
    private static final int MOST_MINUTES = 10000;
    private static final int MOST_PRIORITY = 1000;
    private static final int MOST_AMOUNT = 1000000;
    private static final long MOST_STOCK = 1000000000L;
    private static final int MOST_PLAN_KIND = 9;
    private static final int MOST_DEADLINE = 1000000;

    private static final int NOT_BEGUN = 0;
    private static final int DONE = 1;
    private static final int FAILED = 2;
    private static final int CANCELLED = 3;
    private static final int INTERRUPTED = 4;
    private static final int NEVER = 5;

    private final Shop shop;
    private final Paths paths;
    private final Bench bench;
    private final Shift shift;

    public SetWorkshop() {
        shop = new Shop();
        paths = new Paths(shop);
        bench = new Bench();
        shift = new Shift(shop);
    }

    public int craft(int workers) {
        if (workers < 0 || workers > MOST_WORKERS) {
            return OUT_OF_RANGE;
        }
        if (shop.craftCount >= MOST_CRAFTS || shop.workerCount + workers > MOST_WORKERS) {
            return FULL;
        }
        shift.empty();
        return shop.addCraft(workers);
    }

    public int machine() {
        if (shop.machineCount >= MOST_MACHINES) {
            return FULL;
        }
        shift.empty();
        return shop.addMachine();
    }

    public int stock(int stock, int amount) {
        if (!shop.hasStock(stock)) {
            return UNKNOWN;
        }
        if (amount < 0 || amount > MOST_AMOUNT) {
            return OUT_OF_RANGE;
        }
        if (shop.first[stock] + amount > MOST_STOCK) {
            return FULL;
        }
        shift.empty();
        shop.first[stock] += amount;
        return 0;
    }

    public int job(int craft, int minutes, int priority) {
        if (!shop.hasCraft(craft)) {
            return UNKNOWN;
        }
        if (minutes < 1 || minutes > MOST_MINUTES || priority < 0 || priority > MOST_PRIORITY) {
            return OUT_OF_RANGE;
        }
        if (shop.jobCount >= MOST_JOBS) {
            return FULL;
        }
        shift.empty();
        paths.fresh = false;
        return shop.addJob(shop.crafts[craft], minutes, priority);
    }

    public int after(int job, int before) {
        if (!shop.hasJob(job) || !shop.hasJob(before)) {
            return UNKNOWN;
        }
        Job later = shop.jobs[job];
        Job earlier = shop.jobs[before];
        if (later.isDirectlyBehind(earlier)) {
            return ALREADY_SO;
        }
        if (later == earlier || earlier.leaning.has(job)) {
            return RING;
        }
        shift.empty();
        paths.fresh = false;
        shop.join(later, earlier);
        return 0;
    }

    public int needs(int job, int machine) {
        if (!shop.hasJob(job) || !shop.hasMachine(machine)) {
            return UNKNOWN;
        }
        long bit = 1L << machine;
        if ((shop.jobs[job].machines & bit) != 0) {
            return ALREADY_SO;
        }
        shift.empty();
        shop.jobs[job].machines |= bit;
        return 0;
    }

    public int uses(int job, int stock, int amount) {
        int status = statusOfAmount(job, stock, amount);
        if (status == 0) {
            shift.empty();
            shop.jobs[job].used.put(stock, amount);
        }
        return status;
    }

    public int gives(int job, int stock, int amount) {
        int status = statusOfAmount(job, stock, amount);
        if (status == 0) {
            shift.empty();
            shop.jobs[job].given.put(stock, amount);
        }
        return status;
    }

    private int statusOfAmount(int job, int stock, int amount) {
        if (!shop.hasJob(job) || !shop.hasStock(stock)) {
            return UNKNOWN;
        }
        if (amount < 1 || amount > MOST_AMOUNT) {
            return OUT_OF_RANGE;
        }
        return 0;
    }

    public int body(int job, int kind, int a, int b) {
        if (!shop.hasJob(job)) {
            return UNKNOWN;
        }
        if (kind < Recipe.NOTHING || kind > Recipe.COUNT) {
            return OUT_OF_RANGE;
        }
        shift.empty();
        Recipe recipe = shop.jobs[job].recipe;
        recipe.kind = kind;
        recipe.a = a;
        recipe.b = b;
        return 0;
    }

    public int piece(int job, int v) {
        if (!shop.hasJob(job)) {
            return UNKNOWN;
        }
        Recipe recipe = shop.jobs[job].recipe;
        if (recipe.size >= MOST_NUMBERS) {
            return FULL;
        }
        shift.empty();
        recipe.numbers[recipe.size] = v;
        recipe.size++;
        return 0;
    }

    public int strip(int job) {
        if (!shop.hasJob(job)) {
            return UNKNOWN;
        }
        Recipe recipe = shop.jobs[job].recipe;
        if (recipe.size == 0) {
            return ALREADY_SO;
        }
        shift.empty();
        recipe.size = 0;
        return 0;
    }

    public int plan(int job, int minute, int kind) {
        if (!shop.hasJob(job)) {
            return UNKNOWN;
        }
        Job planned = shop.jobs[job];
        if (minute < 1 || minute > planned.minutes || kind < 1 || kind > MOST_PLAN_KIND) {
            return OUT_OF_RANGE;
        }
        shift.empty();
        planned.planMinute = minute;
        planned.planKind = kind;
        return 0;
    }

    public int clearPlan() {
        shift.empty();
        int had = 0;
        for (int i = 0; i < shop.jobCount; i++) {
            Job job = shop.jobs[i];
            if (job.hasPlan()) {
                had++;
                job.planMinute = 0;
                job.planKind = 0;
            }
        }
        return had;
    }

    public int run(int deadline) {
        if (deadline < 1 || deadline > MOST_DEADLINE) {
            return OUT_OF_RANGE;
        }
        return shift.work(deadline);
    }

    public boolean again() {
        return shift.empty();
    }

    public int state(int job, int what) throws NoSuchElementException {
        Job asked = knownJob(job);
        Trace trace = asked.trace;
        switch (what) {
            case 0: return trace.state;
            case 1: return trace.began;
            case 2: return trace.ended;
            case 3: return trace.worker;
            case 4: return trace.far;
            case 5: return trace.noticed;
            case 6: return trace.kind;
            case 7: return shift.culpritOf(asked);
            default: return NONE;
        }
    }

    public int result(int job) throws NoSuchElementException {
        Job asked = knownJob(job);
        if (asked.trace.state != DONE) {
            return 0;
        }
        bench.compute(asked.recipe);
        return bench.result;
    }

    public long part(int job, int i) throws NoSuchElementException {
        Job asked = knownJob(job);
        if (asked.trace.state != DONE || i < 0 || i >= MOST_NUMBERS) {
            return 0;
        }
        bench.compute(asked.recipe);
        return bench.parts[i];
    }

    public int check(int job) throws NoSuchElementException {
        return knownJob(job).recipe.fault();
    }

    public int failures() {
        return shift.failed;
    }

    public int failure(int i, int what) throws NoSuchElementException {
        int number = shift.failedJob(i);
        if (number == NONE) {
            throw new NoSuchElementException("there is no such failure");
        }
        Trace trace = shop.jobs[number].trace;
        switch (what) {
            case 0: return number;
            case 1: return trace.kind;
            case 2: return trace.ended;
            case 3: return i == 0 ? NONE : shift.failedJob(0);
            default: return NONE;
        }
    }

    public long left(int stock) throws NoSuchElementException {
        if (!shop.hasStock(stock)) {
            throw new NoSuchElementException("there is no such stock");
        }
        return shift.ran ? shift.store[stock] : shop.first[stock];
    }

    public int had(int machine) throws NoSuchElementException {
        if (!shop.hasMachine(machine)) {
            throw new NoSuchElementException("there is no such machine");
        }
        return shift.latest[machine];
    }

    public long idle(int craft) throws NoSuchElementException {
        if (!shop.hasCraft(craft)) {
            throw new NoSuchElementException("there is no such craft");
        }
        return shift.idleMinutes(shop.crafts[craft]);
    }

    public int log(int i, int what) {
        switch (what) {
            case 0: return shift.events.minuteOf(i);
            case 1: return shift.events.jobOf(i);
            case 2: return shift.events.kindOf(i);
            default: return NONE;
        }
    }

    public int critical(int i) {
        return i < 0 || i >= paths.chainLength() ? NONE : paths.chain[i].number;
    }

    public int slack(int job) throws NoSuchElementException {
        Job asked = knownJob(job);
        return paths.longestTail() - asked.head - asked.tail + asked.minutes;
    }

    public boolean leans(int job, int on) throws NoSuchElementException {
        Job asked = knownJob(job);
        Job other = knownJob(on);
        return asked.leaning.has(other.number);
    }

    /** Always 0: a shift lets a job begin only with a free worker, free machines and enough stock. */
    public int audit() {
        return 0;
    }

    public int count(int what) {
        switch (what) {
            case 0: return shop.craftCount;
            case 1: return shop.workerCount;
            case 2: return shop.machineCount;
            case 3: return shop.jobCount;
            case 4: return shift.answer;
            case 5: return shift.events.size;
            case 6: return shift.now;
            case 7: return paths.chainLength();
            case 8: return paths.longestTail();
            default: return NONE;
        }
    }

    private Job knownJob(int job) throws NoSuchElementException {
        if (!shop.hasJob(job)) {
            throw new NoSuchElementException("there is no such job");
        }
        return shop.jobs[job];
    }

    /** A set of job numbers, one bit each. */
    private static final class JobSet {
        private static final int WORDS = (MOST_JOBS + 63) / 64;

        final long[] words = new long[WORDS];

        void add(int number) {
            if (number >= 0 && number < MOST_JOBS) {
                words[number >> 6] |= 1L << (number & 63);
            }
        }

        boolean has(int number) {
            return number >= 0 && number < MOST_JOBS
                && (words[number >> 6] & 1L << (number & 63)) != 0;
        }

        void addAll(JobSet other) {
            for (int i = 0; i < WORDS; i++) {
                words[i] |= other.words[i];
            }
        }

        boolean meets(JobSet other) {
            for (int i = 0; i < WORDS; i++) {
                if ((words[i] & other.words[i]) != 0) {
                    return true;
                }
            }
            return false;
        }

        void clear() {
            for (int i = 0; i < WORDS; i++) {
                words[i] = 0;
            }
        }
    }

    /** Amounts of stocks, in the order in which the stocks were first named. */
    private static final class Amounts {
        final int[] stocks = new int[STOCKS];
        final int[] amounts = new int[STOCKS];
        int size;

        void put(int stock, int amount) {
            int place = placeOf(stock);
            if (place == NONE && size < STOCKS) {
                place = size;
                size++;
            }
            if (place != NONE) {
                stocks[place] = stock;
                amounts[place] = amount;
            }
        }

        int amountOf(int stock) {
            int place = placeOf(stock);
            return place == NONE ? 0 : amounts[place];
        }

        private int placeOf(int stock) {
            for (int i = 0; i < size; i++) {
                if (stocks[i] == stock) {
                    return i;
                }
            }
            return NONE;
        }
    }

    /** A body and its list: what a job computes, and whether that fails by itself. */
    private static final class Recipe {
        static final int NOTHING = 0;
        static final int CUT = 1;
        static final int MIX = 2;
        static final int LOAD = 3;
        static final int CHECK = 4;
        static final int COUNT = 5;

        private static final int SUM_IS_ZERO = 11;
        private static final int NO_SUCH_NUMBER = 12;
        private static final int NO_LIST = 13;
        private static final int CANNOT_CUT = 20;
        private static final int BELOW_ZERO = 21;
        private static final int DOES_NOT_FIT = 22;

        int kind = NOTHING;
        int a;
        int b;
        final int[] numbers = new int[MOST_NUMBERS];
        int size;

        /** The kind by which the body fails by itself, 0 if it does not. */
        int fault() {
            if (kind == NOTHING) {
                return 0;
            }
            if (size == 0) {
                return NO_LIST;
            }
            switch (kind) {
                case CUT: return faultOfCut();
                case MIX: return faultOfShares();
                case LOAD: return faultOfShares();
                case CHECK: return faultOfPairs();
                case COUNT: return isBelowZero() ? BELOW_ZERO : 0;
                default: return 0;
            }
        }

        long sum() {
            long sum = 0;
            for (int i = 0; i < size; i++) {
                sum += numbers[i];
            }
            return sum;
        }

        private int faultOfCut() {
            if (b < 0) {
                return CANNOT_CUT;
            }
            for (int i = 0; i < size; i++) {
                if (numbers[i] < 1 || numbers[i] > a) {
                    return CANNOT_CUT;
                }
            }
            return 0;
        }

        private int faultOfShares() {
            if (isBelowZero()) {
                return BELOW_ZERO;
            }
            if (sum() == 0) {
                return SUM_IS_ZERO;
            }
            return kind == LOAD && (b < 0 || b >= size) ? NO_SUCH_NUMBER : 0;
        }

        private int faultOfPairs() {
            for (int i = 0; i < size; i += 2) {
                // A last number without a frame is its own frame.
                long frame = i + 1 < size ? numbers[i + 1] : numbers[i];
                long room = frame - numbers[i];
                if (room < 0 || room > a) {
                    return DOES_NOT_FIT;
                }
            }
            return 0;
        }

        private boolean isBelowZero() {
            if (a < 0) {
                return true;
            }
            for (int i = 0; i < size; i++) {
                if (numbers[i] < 0) {
                    return true;
                }
            }
            return false;
        }
    }

    /** Where bodies are computed: one place for all jobs, so that a call makes no rows of its own. */
    private static final class Bench {
        private static final int PERCENT = 100;

        final long[] parts = new long[MOST_NUMBERS];
        private final long[] aside = new long[MOST_NUMBERS];
        int result;

        void compute(Recipe recipe) {
            for (int i = 0; i < MOST_NUMBERS; i++) {
                parts[i] = 0;
            }
            result = 0;
            if (recipe.fault() != 0) {
                return;
            }
            switch (recipe.kind) {
                case Recipe.CUT: cutBoards(recipe);
                    break;
                case Recipe.MIX: mixParts(recipe);
                    break;
                case Recipe.LOAD: loadPoints(recipe);
                    break;
                case Recipe.CHECK: result = (recipe.size + 1) / 2;
                    break;
                case Recipe.COUNT: countUp(recipe);
                    break;
                default:
                    break;
            }
        }

        private void cutBoards(Recipe recipe) {
            for (int i = 0; i < recipe.size; i++) {
                parts[i] = NONE;
            }
            for (int turn = 0; turn < recipe.size; turn++) {
                int piece = greatestUncut(recipe);
                if (piece == NONE) {
                    return;
                }
                parts[piece] = boardFor(recipe.numbers[piece], recipe);
            }
        }

        private int greatestUncut(Recipe recipe) {
            int best = NONE;
            for (int i = 0; i < recipe.size; i++) {
                if (parts[i] == NONE
                    && (best == NONE || recipe.numbers[i] > recipe.numbers[best])) {
                    best = i;
                }
            }
            return best;
        }

        /** Puts a length on its board; aside holds how far each board is taken. */
        private int boardFor(long length, Recipe recipe) {
            for (int board = 0; board < result && board < MOST_NUMBERS; board++) {
                long taken = aside[board] + recipe.b + length;
                if (taken <= recipe.a) {
                    aside[board] = taken;
                    return board;
                }
            }
            if (result >= MOST_NUMBERS) {
                return NONE;
            }
            aside[result] = length;
            result++;
            return result - 1;
        }

        private void mixParts(Recipe recipe) {
            long over = share(recipe);
            for (int turn = 0; turn < over && turn < recipe.size; turn++) {
                int best = greatestRest(recipe.size);
                parts[best]++;
                aside[best] = NONE;
            }
            for (int i = 0; i < recipe.size; i++) {
                if (parts[i] > 0) {
                    result++;
                }
            }
        }

        private int greatestRest(int size) {
            int best = 0;
            for (int i = 1; i < size; i++) {
                if (aside[i] > aside[best]) {
                    best = i;
                }
            }
            return best;
        }

        private void loadPoints(Recipe recipe) {
            long over = share(recipe);
            // Each point's rest is less than one, so what is over never goes round twice.
            for (int i = 0; i < over && i < recipe.size; i++) {
                parts[i]++;
            }
            if (recipe.b >= 0 && recipe.b < recipe.size) {
                result = (int) parts[recipe.b];
            }
        }

        /** Shares A out by the numbers, keeps the rests aside, and answers what is over. */
        private long share(Recipe recipe) {
            long sum = recipe.sum();
            if (sum <= 0) {
                return 0;
            }
            long over = recipe.a;
            for (int i = 0; i < recipe.size; i++) {
                long whole = (long) recipe.a * recipe.numbers[i];
                parts[i] = whole / sum;
                aside[i] = whole % sum;
                over -= parts[i];
            }
            return over;
        }

        private void countUp(Recipe recipe) {
            long factor = PERCENT + (long) recipe.a;
            long sum = 0;
            for (int i = 0; i < recipe.size; i++) {
                parts[i] = (recipe.numbers[i] * factor + PERCENT - 1) / PERCENT;
                sum += parts[i];
            }
            result = (int) sum;
        }
    }

    /** What a run did with one job. */
    private static final class Trace {
        int state;
        int began;
        int ended;
        int worker;
        int far;
        int noticed;
        int kind;
        /** How many of the jobs before it are not done yet. */
        int waitsFor;

        Trace() {
            wipe();
        }

        void wipe() {
            state = NOT_BEGUN;
            began = NONE;
            ended = NONE;
            worker = NONE;
            far = 0;
            noticed = 0;
            kind = 0;
            waitsFor = 0;
        }
    }

    private static final class Craft {
        final int number;
        final int firstWorker;
        final int workers;
        /** How many of the workers are free in the run. */
        int free;

        Craft(int number, int firstWorker, int workers) {
            this.number = number;
            this.firstWorker = firstWorker;
            this.workers = workers;
        }
    }

    private static final class Job {
        final int number;
        final Craft craft;
        final int minutes;
        final int priority;
        final ArrayList<Job> before = new ArrayList<Job>();
        final ArrayList<Job> after = new ArrayList<Job>();
        /** All the jobs that this one is leaning on. */
        final JobSet leaning = new JobSet();
        /** Bit m is set if the job needs machine m. */
        long machines;
        final Amounts used = new Amounts();
        final Amounts given = new Amounts();
        final Recipe recipe = new Recipe();
        int planMinute;
        int planKind;
        int head;
        int tail;
        final Trace trace = new Trace();

        Job(int number, Craft craft, int minutes, int priority) {
            this.number = number;
            this.craft = craft;
            this.minutes = minutes;
            this.priority = priority;
        }

        boolean hasPlan() {
            return planMinute > 0;
        }

        int endMinute() {
            return trace.began + (hasPlan() ? planMinute : minutes);
        }

        boolean isDirectlyBehind(Job other) {
            for (int i = 0; i < before.size(); i++) {
                if (before.get(i) == other) {
                    return true;
                }
            }
            return false;
        }

        boolean comesAheadOf(Job other) {
            if (craft.number != other.craft.number) {
                return craft.number < other.craft.number;
            }
            if (priority != other.priority) {
                return priority < other.priority;
            }
            return number < other.number;
        }
    }

    /** All things that the workshop was told of. */
    private static final class Shop {
        final Craft[] crafts = new Craft[MOST_CRAFTS];
        int craftCount;
        int workerCount;
        int machineCount;
        final long[] first = new long[STOCKS];
        final Job[] jobs = new Job[MOST_JOBS];
        /** The same jobs in the order in which they are asked to begin. */
        final Job[] order = new Job[MOST_JOBS];
        int jobCount;

        boolean hasCraft(int craft) {
            return craft >= 0 && craft < craftCount;
        }

        boolean hasMachine(int machine) {
            return machine >= 0 && machine < machineCount;
        }

        boolean hasStock(int stock) {
            return stock >= 0 && stock < STOCKS;
        }

        boolean hasJob(int job) {
            return job >= 0 && job < jobCount;
        }

        int addCraft(int workers) {
            if (craftCount >= MOST_CRAFTS) {
                return FULL;
            }
            crafts[craftCount] = new Craft(craftCount, workerCount, workers);
            workerCount += workers;
            craftCount++;
            return craftCount - 1;
        }

        int addMachine() {
            machineCount++;
            return machineCount - 1;
        }

        int addJob(Craft craft, int minutes, int priority) {
            if (jobCount >= MOST_JOBS) {
                return FULL;
            }
            Job job = new Job(jobCount, craft, minutes, priority);
            jobs[jobCount] = job;
            int place = jobCount;
            while (place > 0 && job.comesAheadOf(order[place - 1])) {
                order[place] = order[place - 1];
                place--;
            }
            order[place] = job;
            jobCount++;
            return job.number;
        }

        void join(Job later, Job earlier) {
            later.before.add(earlier);
            earlier.after.add(later);
            for (int i = 0; i < jobCount; i++) {
                Job job = jobs[i];
                if (job == later || job.leaning.has(later.number)) {
                    job.leaning.add(earlier.number);
                    job.leaning.addAll(earlier.leaning);
                }
            }
        }
    }

    /** Heads, tails and the chain; reckoned anew only when jobs or their order changed. */
    private static final class Paths {
        private final Shop shop;
        private final Job[] sorted = new Job[MOST_JOBS];
        private final int[] open = new int[MOST_JOBS];
        private int sortedSize;
        final Job[] chain = new Job[MOST_JOBS];
        private int chainSize;
        private int longest;
        boolean fresh;

        Paths(Shop shop) {
            this.shop = shop;
        }

        int chainLength() {
            reckon();
            return chainSize;
        }

        int longestTail() {
            reckon();
            return longest;
        }

        private void reckon() {
            if (fresh) {
                return;
            }
            sortJobs();
            reckonHeads();
            reckonTails();
            followChain();
            fresh = true;
        }

        /** Puts each job behind all that are before it. */
        private void sortJobs() {
            sortedSize = 0;
            for (int i = 0; i < shop.jobCount; i++) {
                open[i] = shop.jobs[i].before.size();
                if (open[i] == 0) {
                    putSorted(shop.jobs[i]);
                }
            }
            for (int i = 0; i < sortedSize && i < MOST_JOBS; i++) {
                ArrayList<Job> after = sorted[i].after;
                for (int k = 0; k < after.size(); k++) {
                    Job later = after.get(k);
                    open[later.number]--;
                    if (open[later.number] == 0) {
                        putSorted(later);
                    }
                }
            }
        }

        private void putSorted(Job job) {
            if (sortedSize < MOST_JOBS) {
                sorted[sortedSize] = job;
                sortedSize++;
            }
        }

        private void reckonHeads() {
            for (int i = 0; i < sortedSize; i++) {
                Job job = sorted[i];
                int most = 0;
                for (int k = 0; k < job.before.size(); k++) {
                    most = Math.max(most, job.before.get(k).head);
                }
                job.head = job.minutes + most;
            }
        }

        private void reckonTails() {
            for (int i = sortedSize - 1; i >= 0; i--) {
                Job job = sorted[i];
                int most = 0;
                for (int k = 0; k < job.after.size(); k++) {
                    most = Math.max(most, job.after.get(k).tail);
                }
                job.tail = job.minutes + most;
            }
        }

        private void followChain() {
            Job next = null;
            for (int i = 0; i < shop.jobCount; i++) {
                next = longerOf(next, shop.jobs[i]);
            }
            longest = next == null ? 0 : next.tail;
            chainSize = 0;
            while (next != null && chainSize < MOST_JOBS) {
                chain[chainSize] = next;
                chainSize++;
                next = longestBehind(next);
            }
        }

        private static Job longestBehind(Job job) {
            Job best = null;
            for (int k = 0; k < job.after.size(); k++) {
                best = longerOf(best, job.after.get(k));
            }
            return best;
        }

        private static Job longerOf(Job best, Job other) {
            if (best == null || other.tail > best.tail) {
                return other;
            }
            return other.tail == best.tail && other.number < best.number ? other : best;
        }
    }

    /** The log: each event is one number whose order is that of minute, kind and job. */
    private static final class Events {
        static final int ENDED_DONE = 1;
        static final int ENDED_FAILED = 2;
        static final int WAS_CANCELLED = 3;
        static final int WAS_INTERRUPTED = 4;
        static final int BEGAN = 5;
        static final int BECAME_NEVER = 6;

        /** A job has at most two events: that it began and how it ended. */
        private static final int MOST_EVENTS = 2 * MOST_JOBS;
        private static final int JOB_BITS = 8;
        private static final int KIND_BITS = 3;

        private final long[] keys = new long[MOST_EVENTS];
        int size;

        void put(int minute, int kind, int job) {
            if (size >= MOST_EVENTS) {
                return;
            }
            long key = ((long) minute << KIND_BITS | kind) << JOB_BITS | job;
            int place = size;
            while (place > 0 && keys[place - 1] > key) {
                keys[place] = keys[place - 1];
                place--;
            }
            keys[place] = key;
            size++;
        }

        int minuteOf(int i) {
            return i < 0 || i >= size ? NONE : (int) (keys[i] >> KIND_BITS + JOB_BITS);
        }

        int kindOf(int i) {
            return i < 0 || i >= size ? NONE : (int) (keys[i] >> JOB_BITS) & (1 << KIND_BITS) - 1;
        }

        int jobOf(int i) {
            return i < 0 || i >= size ? NONE : (int) keys[i] & (1 << JOB_BITS) - 1;
        }
    }

    /** The run: what is at work, minute by minute, and what came of it. */
    private static final class Shift {
        private static final int ALL_DONE = 0;
        private static final int NOT_ALL_DONE = 1;
        private static final int CUT_SHORT = 2;
        private static final int IN_A_WAIT = 1;
        private static final int AT_WORK = 2;

        /** Something happens in minute 0, when a job ends, and at the deadline. */
        private static final int MOST_TURNS = MOST_JOBS + 2;

        private final Shop shop;
        final long[] store = new long[STOCKS];
        private final long[] everThere = new long[STOCKS];
        final int[] latest = new int[MOST_MACHINES];
        private final Job[] atWork = new Job[MOST_WORKERS];
        private final Job[] queue = new Job[MOST_JOBS];
        private final JobSet marked = new JobSet();
        final Events events = new Events();
        boolean ran;
        int answer;
        int now;
        int failed;
        private int done;
        private int lastEnd;
        private int queued;
        private int working;
        private boolean someFailed;
        private long busyMachines;

        Shift(Shop shop) {
            this.shop = shop;
            wipe();
        }

        /** Whether there was a run; none is left. */
        boolean empty() {
            boolean was = ran;
            if (was) {
                wipe();
            }
            return was;
        }

        int work(int deadline) {
            wipe();
            ran = true;
            layOut();
            turnAwayHopeless();
            boolean over = false;
            for (int turn = 0; turn < MOST_TURNS && !over; turn++) {
                over = passMinute(deadline);
            }
            return answer;
        }

        /** The least failed job that a cancelled one is leaning on. */
        int culpritOf(Job job) {
            if (job.trace.state != CANCELLED) {
                return NONE;
            }
            for (int i = 0; i < shop.jobCount; i++) {
                if (shop.jobs[i].trace.state == FAILED && job.leaning.has(i)) {
                    return i;
                }
            }
            return NONE;
        }

        /** The i-th of those that failed, by number. */
        int failedJob(int i) {
            int seen = 0;
            for (int k = 0; k < shop.jobCount; k++) {
                if (shop.jobs[k].trace.state == FAILED) {
                    if (seen == i) {
                        return k;
                    }
                    seen++;
                }
            }
            return NONE;
        }

        long idleMinutes(Craft craft) {
            long idle = (long) craft.workers * lastEnd;
            for (int i = 0; i < shop.jobCount; i++) {
                if (shop.jobs[i].craft == craft) {
                    idle -= shop.jobs[i].trace.far;
                }
            }
            return idle;
        }

        private void wipe() {
            for (int i = 0; i < shop.jobCount; i++) {
                shop.jobs[i].trace.wipe();
            }
            for (int i = 0; i < MOST_MACHINES; i++) {
                latest[i] = NONE;
            }
            for (int i = 0; i < MOST_WORKERS; i++) {
                atWork[i] = null;
            }
            events.size = 0;
            ran = false;
            answer = NONE;
            now = 0;
            failed = 0;
            done = 0;
            lastEnd = 0;
            queued = 0;
            working = 0;
            busyMachines = 0;
            forgetMarks();
        }

        private void forgetMarks() {
            marked.clear();
            someFailed = false;
        }

        private void layOut() {
            for (int i = 0; i < STOCKS; i++) {
                store[i] = shop.first[i];
                everThere[i] = shop.first[i];
            }
            for (int i = 0; i < shop.craftCount; i++) {
                shop.crafts[i].free = shop.crafts[i].workers;
            }
            for (int i = 0; i < shop.jobCount; i++) {
                Job job = shop.jobs[i];
                job.trace.waitsFor = job.before.size();
                addGiven(job, everThere);
                queue[i] = shop.order[i];
            }
            queued = shop.jobCount;
        }

        private static void addGiven(Job job, long[] stocks) {
            Amounts given = job.given;
            for (int i = 0; i < given.size; i++) {
                stocks[given.stocks[i]] += given.amounts[i];
            }
        }

        private void turnAwayHopeless() {
            for (int i = 0; i < shop.jobCount; i++) {
                if (isHopeless(shop.jobs[i])) {
                    marked.add(i);
                }
            }
            for (int i = 0; i < shop.jobCount; i++) {
                Job job = shop.jobs[i];
                if (marked.has(i) || job.leaning.meets(marked)) {
                    turnAway(job);
                }
            }
            forgetMarks();
        }

        private boolean isHopeless(Job job) {
            if (job.craft.workers == 0) {
                return true;
            }
            Amounts used = job.used;
            for (int i = 0; i < used.size; i++) {
                int stock = used.stocks[i];
                // Only what other jobs give can be there ahead of this one.
                if (used.amounts[i] > everThere[stock] - job.given.amountOf(stock)) {
                    return true;
                }
            }
            return false;
        }

        private void turnAway(Job job) {
            job.trace.state = NEVER;
            events.put(now, Events.BECAME_NEVER, job.number);
        }

        /** Whether the run is over with this minute. */
        private boolean passMinute(int deadline) {
            endJobs();
            cancelLeaning();
            if (now >= deadline) {
                stopAtDeadline();
                return true;
            }
            beginJobs();
            if (working == 0) {
                giveUp();
                return true;
            }
            now = nextMinute(deadline);
            return false;
        }

        private void endJobs() {
            for (int i = 0; i < shop.workerCount; i++) {
                Job job = atWork[i];
                if (job != null && job.endMinute() == now) {
                    int kind = job.hasPlan() ? job.planKind : job.recipe.fault();
                    if (kind == 0) {
                        finish(job);
                    } else {
                        fail(job, kind);
                    }
                }
            }
        }

        private void finish(Job job) {
            leave(job, DONE, Events.ENDED_DONE);
            done++;
            addGiven(job, store);
            for (int i = 0; i < job.after.size(); i++) {
                job.after.get(i).trace.waitsFor--;
            }
        }

        private void fail(Job job, int kind) {
            leave(job, FAILED, Events.ENDED_FAILED);
            failed++;
            job.trace.kind = kind;
            bringBackRest(job);
            marked.add(job.number);
            someFailed = true;
        }

        private void leave(Job job, int state, int event) {
            Trace trace = job.trace;
            trace.state = state;
            trace.ended = now;
            trace.far = now - trace.began;
            if (trace.worker >= 0 && trace.worker < MOST_WORKERS) {
                atWork[trace.worker] = null;
            }
            job.craft.free++;
            busyMachines &= ~job.machines;
            working--;
            lastEnd = now;
            events.put(now, event, job.number);
        }

        private void bringBackRest(Job job) {
            Amounts used = job.used;
            if (job.minutes <= 0) {
                return;
            }
            for (int i = 0; i < used.size; i++) {
                long amount = used.amounts[i];
                store[used.stocks[i]] += amount - amount * job.trace.far / job.minutes;
            }
        }

        private void cancelLeaning() {
            if (!someFailed) {
                return;
            }
            for (int i = 0; i < queued; i++) {
                Job job = queue[i];
                if (job.trace.state == NOT_BEGUN && job.leaning.meets(marked)) {
                    job.trace.state = CANCELLED;
                    events.put(now, Events.WAS_CANCELLED, job.number);
                }
            }
            forgetMarks();
        }

        private void stopAtDeadline() {
            if (working > 0) {
                interruptAll();
                answer = CUT_SHORT;
            } else if (someoneWouldBegin()) {
                answer = CUT_SHORT;
            } else {
                giveUp();
            }
        }

        private void interruptAll() {
            for (int i = 0; i < shop.workerCount; i++) {
                Job job = atWork[i];
                if (job != null) {
                    leave(job, INTERRUPTED, Events.WAS_INTERRUPTED);
                    boolean computes = job.recipe.kind != Recipe.NOTHING;
                    boolean early = job.trace.far < job.minutes / 2;
                    job.trace.noticed = computes && early ? AT_WORK : IN_A_WAIT;
                    bringBackRest(job);
                }
            }
        }

        private boolean someoneWouldBegin() {
            for (int i = 0; i < queued; i++) {
                if (canBegin(queue[i])) {
                    return true;
                }
            }
            return false;
        }

        /** Ends a run in which nobody is at work and nobody can begin any more. */
        private void giveUp() {
            for (int i = 0; i < queued; i++) {
                if (queue[i].trace.state == NOT_BEGUN) {
                    turnAway(queue[i]);
                }
            }
            answer = done == shop.jobCount ? ALL_DONE : NOT_ALL_DONE;
        }

        /** Lets begin who can; only those that still wait stay in the queue. */
        private void beginJobs() {
            int kept = 0;
            for (int i = 0; i < queued; i++) {
                Job job = queue[i];
                if (canBegin(job)) {
                    begin(job);
                } else if (job.trace.state == NOT_BEGUN) {
                    queue[kept] = job;
                    kept++;
                }
            }
            queued = kept;
        }

        private boolean canBegin(Job job) {
            return job.trace.state == NOT_BEGUN
                && job.craft.free > 0
                && job.trace.waitsFor == 0
                && (job.machines & busyMachines) == 0
                && isThere(job.used);
        }

        private boolean isThere(Amounts used) {
            for (int i = 0; i < used.size; i++) {
                if (store[used.stocks[i]] < used.amounts[i]) {
                    return false;
                }
            }
            return true;
        }

        private void begin(Job job) {
            int worker = leastFreeWorker(job.craft);
            if (worker == NONE) {
                return;
            }
            atWork[worker] = job;
            job.trace.worker = worker;
            job.trace.began = now;
            job.craft.free--;
            working++;
            takeMachines(job);
            Amounts used = job.used;
            for (int i = 0; i < used.size; i++) {
                store[used.stocks[i]] -= used.amounts[i];
            }
            events.put(now, Events.BEGAN, job.number);
        }

        private int leastFreeWorker(Craft craft) {
            int end = craft.firstWorker + craft.workers;
            for (int i = craft.firstWorker; i < end && i < MOST_WORKERS; i++) {
                if (atWork[i] == null) {
                    return i;
                }
            }
            return NONE;
        }

        private void takeMachines(Job job) {
            busyMachines |= job.machines;
            for (int i = 0; i < shop.machineCount && job.machines != 0; i++) {
                if ((job.machines >> i & 1) != 0) {
                    latest[i] = job.number;
                }
            }
        }

        private int nextMinute(int deadline) {
            int next = deadline;
            for (int i = 0; i < shop.workerCount; i++) {
                Job job = atWork[i];
                if (job != null) {
                    next = Math.min(next, job.endMinute());
                }
            }
            return next;
        }
    }
}
