/** Every sentence of promises 21 to 27, and of the terms that they go by, that names an edge. */
public final class EdgesWeeksTest {
    private static final Due due = new Due();

    public static void main(String[] args) {
        workers();
        workInWhatWeek();
        workOnWhat();
        piecesOfWork();
        minutesOfWork();
        workNeedsARateThen();
        worksFindingsInOrder();
        workAtMost();
        waitInWhatWeek();
        waitOfWhat();
        minutesOfWaiting();
        waitAtMost();
        earnedByWhatRow();
        earnedIsCut();
        spoiltOnesThatArePaid();
        freeHundredthsAreCut();
        rateInForceInItsWeek();
        learnerOfWhat();
        learnerWasTold();
        learnersWeeks();
        learnersWeekIsTheLast();
        neverIsNoWeek();
        aLearnerIsOneOnOneJob();
        theMoreIsCut();
        payOfWhat();
        payWithoutRows();
        waitHundredthsTogether();
        sureHundredthsTogether();
        sureAtLeast();
        causes();
        poolOfWhat();
        theWorkerIsOfIt();
        poolNone();
        poolOfOne();
        leftOver();
        leftOverPassesThoseWithoutMinutes();
        poolOfNothing();
        poolGivesAll();
        theGreatestPool();
        due.end();
    }

    /** JOB 0 with a RATE of 100 from WEEK 0 on; the WEEK is as told. */
    private static BenchTimes inWeek(int week) {
        BenchTimes x = Due.withRate(100);
        x.week(week);
        return x;
    }

    private static void workers() {
        due.by("WORKERS are 0 .. 7.");
        due.range("learner", 0, 7, v -> Due.withJobs(1).learner(v, 0, 0));
        due.range("pay", 0, 7, v -> Due.withJobs(1).pay(v, 0, 0));
        due.range("wait", 0, 7, v -> Due.withJobs(1).wait(0, v, 0, 1));
        due.range("pool", 0, 7, v -> Due.withJobs(1).pool(255, 0, v));
        due.range("efficiency", 0, 7, v -> Due.withJobs(1).efficiency(v, 0));
        due.range("slow", 0, 7, v -> Due.withJobs(1).slow(v, 0));
        due.range("work on the last of eight", 70, 77, v -> Due.withJobs(8).work(0, v, 1000, 1));
    }

    private static void workInWhatWeek() {
        due.by("in a WEEK (not behind the WEEK)");
        due.range("week of 0", 0, 0, v -> inWeek(0).work(v, 0, 1000, 10));
        due.range("week of 5", 0, 5, v -> inWeek(5).work(v, 0, 1000, 10));
        due.range("week of 500", 0, 500, v -> inWeek(500).work(v, 0, 1000, 10));
        BenchTimes x = inWeek(5);
        due.is("the next WEEK", Due.BEYOND, x.work(6, 0, 1000, 10));
        x.week(6);
        due.is("when it is there", 0, x.work(6, 0, 1000, 10));
    }

    private static void workOnWhat() {
        due.by("BEYOND: there is no such JOB, WORKER, WEEK (not behind the WEEK), or pieces, minutes aren't as told.");
        int[] right = {0, 7, 10, 17, 20, 27};
        for (int on : right) {
            due.is("on " + on, 0, Due.withJobs(3).work(0, on, 1000, 10));
        }
        int[] wrong = {8, 9, 18, 19, 28, 29, 30, 37, 80, 100, -1, -2, -7, -8, -10, -20, Integer.MIN_VALUE,
            Integer.MIN_VALUE + 8, Integer.MAX_VALUE, Integer.MAX_VALUE - 7};
        for (int on : wrong) {
            due.is("on " + on, Due.BEYOND, Due.withJobs(3).work(0, on, 1000, 10));
        }
        due.is("the last WORKER on the last JOB", 0, Due.withJobs(8).work(0, 77, 1000, 10));
        due.is("no WORKER 8", Due.BEYOND, Due.withJobs(8).work(0, 78, 1000, 10));
        due.is("no JOB 8", Due.BEYOND, Due.withJobs(8).work(0, 80, 1000, 10));
        due.is("no JOB at all", Due.BEYOND, new BenchTimes().work(0, 0, 1000, 10));
    }

    private static void piecesOfWork() {
        due.by("GOOD and SPOILT pieces (0 .. 999 each)");
        due.range("pieces", 0, 999999, v -> inWeek(0).work(0, 0, v, 10));
        int[][] pieces = {{0, 0}, {1, 0}, {999, 0}, {1000, 1}, {1999, 2}, {999000, 999}, {999999, 1998}};
        for (int[] row : pieces) {
            BenchTimes x = inWeek(0);
            due.reads(x, "free 100;", 1);
            x.work(0, 0, row[0], 10);
            due.is("paid of " + row[0], row[1], x.earned(0));
        }
    }

    private static void minutesOfWork() {
        due.by("MINUTES (1 .. 3000), WATCHED or not");
        int[] wrong = {0, 3001, -3001, Integer.MIN_VALUE, Integer.MIN_VALUE + 1, Integer.MAX_VALUE};
        for (int minutes : wrong) {
            due.is("minutes " + minutes, Due.BEYOND, inWeek(0).work(0, 0, 1000, minutes));
        }
        int[] right = {1, 3000, -1, -3000};
        for (int minutes : right) {
            BenchTimes x = inWeek(0);
            due.is("minutes " + minutes, 0, x.work(0, 0, 1000, minutes));
            due.is("as many", Math.abs(minutes), x.pay(0, 0, 3));
        }
    }

    private static void workNeedsARateThen() {
        due.by("NONE: no RATE is IN FORCE then.");
        BenchTimes x = new BenchTimes();
        x.element(0);
        x.cycle(0, 0, 100, 100);
        x.job();
        due.is("without PARTS", Due.NONE, x.work(0, 0, 1000, 10));
        x.part(0, 0, 1);
        due.is("without a RATE", Due.NONE, x.work(0, 0, 1000, 10));
        x.week(7);
        x.set(0);
        due.is("the WEEK ahead of it", Due.NONE, x.work(6, 0, 1000, 10));
        due.is("its WEEK", 0, x.work(7, 0, 1000, 10));
        x.week(8);
        due.is("the WEEK behind it", 1, x.work(8, 0, 1000, 10));
        due.is("two rows", 2, x.count(6));
    }

    private static void worksFindingsInOrder() {
        due.by("NONE: no RATE is IN FORCE then. FULL.");
        BenchTimes x = Due.withJobs(1);
        x.job();
        due.is("no minutes, and no RATE", Due.BEYOND, x.work(0, 10, 1000, 0));
        due.is("no RATE", Due.NONE, x.work(0, 10, 1000, 10));
        for (int rows = 0; rows < 100; rows++) {
            x.work(0, 0, 1000, 10);
        }
        due.is("no minutes, and no RATE, and full", Due.BEYOND, x.work(0, 10, 1000, 0));
        due.is("no RATE, and full", Due.NONE, x.work(0, 10, 1000, 10));
        due.is("no minutes, and full", Due.BEYOND, x.work(0, 0, 1000, 0));
        due.is("full", Due.FULL, x.work(0, 0, 1000, 10));
    }

    private static void workAtMost() {
        due.by("WORK, at most 100 rows");
        BenchTimes x = Due.withRate(100);
        for (int row = 0; row < 100; row++) {
            due.is("row", row, x.work(0, 0, 1000, 1));
        }
        due.is("one more", Due.FULL, x.work(0, 0, 999000, 3000));
        due.is("of another WORKER", Due.FULL, x.work(0, 1, 1000, 1));
        due.is("they stay hundred", 100, x.count(6));
        due.is("what they EARNED", 100, x.pay(0, 0, 1));
        due.is("their MINUTES", 100, x.pay(0, 0, 3));
        due.is("the other WORKER has none", 0, x.pay(1, 0, 3));
    }

    private static void waitInWhatWeek() {
        due.by("in a WEEK (not behind the WEEK, either)");
        due.range("week of 0", 0, 0, v -> inWeek(0).wait(v, 0, 0, 10));
        due.range("week of 5", 0, 5, v -> inWeek(5).wait(v, 0, 0, 10));
        due.range("week of 500", 0, 500, v -> inWeek(500).wait(v, 0, 0, 10));
    }

    private static void waitOfWhat() {
        due.by("WAITING: how many rows. BEYOND. FULL.");
        due.range("worker", 0, 7, v -> new BenchTimes().wait(0, v, 0, 10));
        due.range("cause", 0, 3, v -> new BenchTimes().wait(0, 0, v, 10));
    }

    private static void minutesOfWaiting() {
        due.by("a CAUSE (0 .. 3), MINUTES (1 .. 3000)");
        due.range("minutes", 1, 3000, v -> new BenchTimes().wait(0, 0, 0, v));
        due.is("none is WATCHED", Due.BEYOND, new BenchTimes().wait(0, 0, 0, -1));
    }

    private static void waitAtMost() {
        due.by("WAITING, at most 60");
        BenchTimes x = new BenchTimes();
        for (int rows = 1; rows <= 60; rows++) {
            due.is("rows", rows, x.wait(0, 0, 0, 1));
        }
        due.is("one more", Due.FULL, x.wait(0, 0, 0, 3000));
        due.is("of another WORKER", Due.FULL, x.wait(0, 7, 3, 1));
        due.is("BEYOND is asked first", Due.BEYOND, x.wait(0, 0, 4, 1));
        due.is("they stay sixty", 60, x.count(7));
        due.is("their MINUTES", 60, x.pay(0, 0, 4));
        due.is("of that CAUSE", 60, x.cause(0));
        due.is("of the other CAUSE", 0, x.cause(3));
    }

    private static void earnedByWhatRow() {
        due.by("EARNED by a row. BEYOND.");
        due.is("there is none", Due.BEYOND, Due.withJobs(1).earned(0));
        due.range("row of two", 0, 1, v -> withWork(2).earned(v));
        due.range("row of hundred", 0, 99, v -> withWork(100).earned(v));
    }

    private static BenchTimes withWork(int rows) {
        BenchTimes x = Due.withRate(100);
        for (int row = 0; row < rows; row++) {
            x.work(0, 0, 1000, 1);
        }
        return x;
    }

    private static void earnedIsCut() {
        due.by("pieces that are paid times the RATE IN FORCE in its WEEK, by 100");
        int[][] rows = {{1, 99, 0}, {1, 100, 1}, {1, 199, 1}, {1, 200, 2}, {99, 1, 0}, {99, 2, 1}, {999, 999, 9980}};
        for (int[] row : rows) {
            BenchTimes x = Due.withRate(row[0]);
            due.reads(x, "free 0;", 1);
            x.work(0, 0, 1000 * row[1], 1);
            due.is(row[1] + " pieces at " + row[0], row[2], x.earned(0));
        }
        BenchTimes x = new BenchTimes();
        x.element(0);
        x.cycle(0, 0, 50, 1);
        x.job();
        x.part(0, 0, 1);
        x.set(0);
        due.is("a RATE of 0 is one", 0, x.work(0, 0, 999999, 1));
        due.is("nothing is EARNED by it", 0, x.earned(0));
    }

    private static void spoiltOnesThatArePaid() {
        due.by("GOOD ones, and of SPOILT ones no more than FREE hundredths (cut) of GOOD");
        int[][] rows = {{100002, 102}, {100003, 103}, {100004, 103}, {100999, 103}, {100000, 100}, {999, 0}, {0, 0}};
        for (int[] row : rows) {
            BenchTimes x = Due.withRate(100);
            x.work(0, 0, row[0], 1);
            due.is("paid of " + row[0], row[1], x.earned(0));
        }
    }

    private static void freeHundredthsAreCut() {
        due.by("GOOD ones, and of SPOILT ones no more than FREE hundredths (cut) of GOOD");
        int[][] rows = {{3, 33, 0}, {3, 34, 1}, {3, 66, 1}, {3, 67, 2}, {0, 999, 0}, {1, 99, 0}, {1, 100, 1},
            {99, 1, 0}, {100, 1, 1}, {100, 999, 999}, {99, 999, 989}};
        for (int[] row : rows) {
            BenchTimes x = Due.withRate(100);
            due.reads(x, "free " + row[0] + ";", 1);
            x.work(0, 0, 1000 * row[1] + 999, 1);
            due.is(row[0] + " hundredths of " + row[1], row[1] + row[2], x.earned(0));
        }
    }

    private static void rateInForceInItsWeek() {
        due.by("times the RATE IN FORCE in its WEEK");
        BenchTimes x = inWeek(2);
        x.allow(50, 0);
        x.change(0);
        x.move(0);
        x.week(7);
        x.work(5, 0, 10000, 1);
        x.work(6, 0, 10000, 1);
        due.is("the WEEK ahead of the new one", 10, x.earned(0));
        due.is("the new one's WEEK", 15, x.earned(1));
    }

    private static void learnerOfWhat() {
        due.by("A WORKER began on a JOB in a WEEK (-1: never): what was told. BEYOND.");
        due.range("worker", 0, 7, v -> Due.withJobs(2).learner(v, 0, 0));
        due.range("job of two", 0, 1, v -> Due.withJobs(2).learner(0, v, 0));
        due.range("job of eight", 0, 7, v -> Due.withJobs(8).learner(0, v, 0));
        due.range("week", -1, 500, v -> Due.withJobs(2).learner(0, 0, v));
        due.is("no JOB", Due.BEYOND, new BenchTimes().learner(0, 0, 0));
    }

    private static void learnerWasTold() {
        due.by("A WORKER began on a JOB in a WEEK (-1: never): what was told.");
        BenchTimes x = Due.withJobs(8);
        for (int worker = 0; worker < 8; worker++) {
            for (int job = 0; job < 8; job++) {
                due.is("never told", -1, x.learner(worker, job, 50 * worker + job));
            }
        }
        due.is("a WEEK too late", Due.BEYOND, x.learner(7, 7, 501));
        due.is("a WEEK too early", Due.BEYOND, x.learner(7, 7, -2));
        for (int worker = 0; worker < 8; worker++) {
            for (int job = 0; job < 8; job++) {
                due.is("of each on each", 50 * worker + job, x.learner(worker, job, -1));
            }
        }
        due.is("never was told", -1, x.learner(7, 7, 500));
        due.is("the last WEEK was told", 500, x.learner(7, 7, 0));
        due.is("WEEK 0 was told", 0, x.learner(7, 7, -1));
    }

    /** What 100 GOOD pieces at a RATE of 100 in a WEEK are worth to one who began in another. */
    private static int learned(int began, int week) {
        BenchTimes x = inWeek(500);
        x.learner(0, 0, began);
        x.work(week, 0, 100000, 1);
        return x.earned(0);
    }

    private static void learnersWeeks() {
        due.by("in that WEEK is half as much again, in the 3 WEEKS behind it a quarter as much again");
        int[] want = {100, 150, 125, 125, 125, 100};
        for (int i = 0; i < want.length; i++) {
            due.is("WEEK " + (i - 1) + " behind it", want[i], learned(10, 9 + i));
        }
        due.is("WEEK 0", 150, learned(0, 0));
        due.is("3 behind 0", 125, learned(0, 3));
        due.is("4 behind 0", 100, learned(0, 4));
        due.is("all WEEKS behind 0", 100, learned(0, 500));
    }

    private static void learnersWeekIsTheLast() {
        due.by("in that WEEK is half as much again, in the 3 WEEKS behind it a quarter as much again");
        due.is("the last WEEK", 150, learned(500, 500));
        due.is("the one ahead", 100, learned(500, 499));
        due.is("3 ahead of the last", 125, learned(497, 500));
        due.is("4 ahead of the last", 100, learned(496, 500));
    }

    private static void neverIsNoWeek() {
        due.by("in a WEEK (-1: never)");
        for (int week = 0; week <= 3; week++) {
            due.is("never told, WEEK " + week, 100, learned(-1, week));
        }
        BenchTimes x = inWeek(2);
        x.work(2, 0, 100000, 1);
        due.is("nothing told", 100, x.earned(0));
        x.learner(0, 0, 2);
        due.is("told", 150, x.earned(0));
        x.learner(0, 0, -1);
        due.is("told never", 100, x.earned(0));
    }

    private static void aLearnerIsOneOnOneJob() {
        due.by("LEARNER: a WORKER who began on a JOB in a told WEEK");
        for (int began = 0; began < 64; began += 7) {
            BenchTimes x = Due.withJobs(8);
            for (int row = 0; row < 64; row++) {
                x.work(0, 10 * (row % 8) + row / 8, 100000, 1);
            }
            x.learner(began / 8, began % 8, 0);
            for (int row = 0; row < 64; row++) {
                due.is("row " + row + " of " + began, row == began ? 165 : 110, x.earned(row));
            }
        }
    }

    private static void theMoreIsCut() {
        due.by("a quarter as much again (the more is cut)");
        int[][] rows = {{0, 0, 0}, {1, 1, 1}, {2, 3, 2}, {3, 4, 3}, {4, 6, 5}, {7, 10, 8}, {8, 12, 10}};
        for (int[] row : rows) {
            BenchTimes x = inWeek(1);
            x.work(0, 0, 1000 * row[0], 1);
            x.work(1, 0, 1000 * row[0], 1);
            x.learner(0, 0, 0);
            due.is("half of " + row[0], row[1], x.earned(0));
            due.is("a quarter of " + row[0], row[2], x.earned(1));
        }
    }

    private static void payOfWhat() {
        due.by("BEYOND: there is no such WORKER, WEEK, or another what.");
        due.range("worker", 0, 7, v -> new BenchTimes().pay(v, 0, 0));
        due.range("week", 0, 500, v -> new BenchTimes().pay(0, v, 0));
        due.range("what", 0, 4, v -> new BenchTimes().pay(0, 0, v));
    }

    private static void payWithoutRows() {
        due.by("PAY: what 0 all, 1 EARNED, 2 for WAITING, 3 MINUTES of WORK, 4 of WAITING.");
        BenchTimes x = inWeek(2);
        x.work(1, 3, 1000, 5);
        x.wait(1, 3, 0, 5);
        for (int what = 0; what <= 4; what++) {
            due.is("another WEEK, what " + what, 0, x.pay(3, 2, what));
            due.is("another WEEK, what " + what, 0, x.pay(3, 0, what));
            due.is("another WORKER, what " + what, 0, x.pay(4, 1, what));
        }
    }

    private static void waitHundredthsTogether() {
        due.by("WAIT hundredths of its WAITING MINUTES (cut, of all together)");
        BenchTimes x = new BenchTimes();
        int[] want = {0, 1, 1, 2};
        for (int i = 0; i < want.length; i++) {
            x.wait(0, 0, i, 1);
            due.is("half of " + (i + 1), want[i], x.pay(0, 0, 2));
        }
        due.reads(x, "wait 99;", 1);
        due.is("99 hundredths of 4", 3, x.pay(0, 0, 2));
        due.reads(x, "wait 100;", 1);
        due.is("all of 4", 4, x.pay(0, 0, 2));
        due.reads(x, "wait 0;", 1);
        due.is("none of 4", 0, x.pay(0, 0, 2));
    }

    private static void sureHundredthsTogether() {
        due.by("SURE hundredths of all its MINUTES (of WORK and WAITING, cut) at least");
        BenchTimes x = Due.withRate(100);
        due.reads(x, "wait 0;", 1);
        x.work(0, 0, 0, 1);
        due.is("80 hundredths of 1", 0, x.pay(0, 0, 0));
        x.wait(0, 0, 0, 1);
        due.is("80 hundredths of 1 and 1", 1, x.pay(0, 0, 0));
        x.work(0, 0, 0, -3);
        due.is("80 hundredths of 4 and 1", 4, x.pay(0, 0, 0));
        due.reads(x, "sure 100;", 1);
        due.is("all of 5", 5, x.pay(0, 0, 0));
        due.reads(x, "sure 0;", 1);
        due.is("none of 5", 0, x.pay(0, 0, 0));
    }

    private static void sureAtLeast() {
        due.by("SURE hundredths of all its MINUTES (of WORK and WAITING, cut) at least");
        int[][] rows = {{79, 80}, {80, 80}, {81, 81}};
        for (int[] row : rows) {
            BenchTimes x = Due.withRate(100);
            x.work(0, 0, 1000 * row[0], 100);
            due.is(row[0] + " EARNED", row[1], x.pay(0, 0, 0));
            due.is("EARNED alone", row[0], x.pay(0, 0, 1));
        }
        BenchTimes x = Due.withRate(100);
        x.work(0, 0, 30000, 1);
        x.wait(0, 0, 0, 99);
        due.is("30 and 49 are less than 80 hundredths of 100", 80, x.pay(0, 0, 0));
        x.work(0, 0, 1000, 1);
        due.is("31 and 49 are as many as 80 hundredths of 101", 80, x.pay(0, 0, 0));
        x.work(0, 0, 2000, 1);
        due.is("33 and 49 are more than 80 hundredths of 102", 82, x.pay(0, 0, 0));
    }

    private static void causes() {
        due.by("All WAITING MINUTES of a CAUSE. BEYOND.");
        due.range("cause", 0, 3, v -> new BenchTimes().cause(v));
        BenchTimes x = new BenchTimes();
        for (int rows = 0; rows < 60; rows++) {
            x.wait(0, rows % 8, 3, 3000);
        }
        due.is("the most", 180000, x.cause(3));
        due.is("none", 0, x.cause(2));
    }

    private static void poolOfWhat() {
        due.by("BEYOND: workers isn't 1 .. 255, there is no such WEEK, or the WORKER isn't of it.");
        due.range("workers", 1, 255, v -> withWork(1).pool(v, 0, Integer.numberOfTrailingZeros(v)));
        int[] wrong = {0, -1, 256, 257, 511, -255, Integer.MIN_VALUE, Integer.MIN_VALUE + 1, Integer.MAX_VALUE};
        for (int workers : wrong) {
            due.is("workers " + workers, Due.BEYOND, withWork(1).pool(workers, 0, 0));
        }
        due.range("week", 0, 500, v -> withWork(1).pool(1, v, 0));
    }

    private static void theWorkerIsOfIt() {
        due.by("or the WORKER isn't of it");
        due.range("worker", 0, 7, v -> withWork(1).pool(255, 0, v));
        for (int worker = 0; worker < 8; worker++) {
            for (int of = 0; of < 8; of++) {
                int due0 = worker == of ? worker == 0 ? 1 : Due.NONE : Due.BEYOND;
                due.is(worker + " of " + of, due0, withWork(1).pool(1 << of, 0, worker));
                due.is(worker + " of all but " + of, worker == of ? Due.BEYOND : of == 0 ? Due.NONE : worker == 0 ? 1 : 0,
                        withWork(1).pool(255 - (1 << of), 0, worker));
            }
        }
        int[] far = {32, 64, -32, 33, Integer.MIN_VALUE, Integer.MAX_VALUE - 31};
        for (int worker : far) {
            due.is("worker " + worker, Due.BEYOND, withWork(1).pool(255, 0, worker));
        }
    }

    private static void poolNone() {
        due.by("NONE: they have no MINUTES.");
        BenchTimes x = inWeek(1);
        due.is("no rows", Due.NONE, x.pool(255, 0, 0));
        x.wait(0, 0, 0, 100);
        due.is("WAITING alone", Due.NONE, x.pool(1, 0, 0));
        x.work(0, 1, 1000, 1);
        due.is("of one who isn't of it", Due.NONE, x.pool(1, 0, 0));
        due.is("of another WEEK", Due.NONE, x.pool(3, 1, 0));
        due.is("no WEEK is asked first", Due.BEYOND, x.pool(1, 501, 0));
        due.is("one who isn't of it is asked first", Due.BEYOND, x.pool(1, 0, 1));
        due.is("with one who has MINUTES", 0, x.pool(3, 0, 0));
        due.is("that one gets all", 81, x.pool(3, 0, 1));
    }

    private static void poolOfOne() {
        due.by("each gets all times its MINUTES, by all MINUTES, cut");
        for (int worker = 0; worker < 8; worker++) {
            BenchTimes x = Due.withRate(100);
            x.work(0, worker, 7000, 3);
            due.is("alone", 7, x.pool(1 << worker, 0, worker));
        }
    }

    /** WORKERS with such MINUTES in WEEK 0, of whom the last one EARNED all. */
    private static BenchTimes pooled(int all, int... minutes) {
        BenchTimes x = Due.withRate(100);
        due.reads(x, "sure 0;", 1);
        for (int worker = 0; worker < minutes.length; worker++) {
            boolean last = worker == minutes.length - 1;
            if (minutes[worker] > 0) {
                x.work(0, worker, last ? 1000 * all : 0, minutes[worker]);
            }
        }
        return x;
    }

    private static void shares(String what, BenchTimes x, int workers, int... want) {
        for (int worker = 0; worker < want.length; worker++) {
            if ((workers >> worker & 1) == 1) {
                due.is(what + ": " + worker, want[worker], x.pool(workers, 0, worker));
            }
        }
    }

    private static void leftOver() {
        due.by("what is left over goes to those who have MINUTES, the least numbers first, 1 each");
        shares("6 by 3", pooled(6, 1, 1, 1), 7, 2, 2, 2);
        shares("7 by 3", pooled(7, 1, 1, 1), 7, 3, 2, 2);
        shares("8 by 3", pooled(8, 1, 1, 1), 7, 3, 3, 2);
        shares("2 by 3", pooled(2, 1, 1, 1), 7, 1, 1, 0);
        shares("1 by 3000, 3000, 1", pooled(1, 3000, 3000, 1), 7, 1, 0, 0);
        shares("10 by 1, 2, 3", pooled(10, 1, 2, 3), 7, 2, 3, 5);
        shares("7 by 8", pooled(7, 1, 1, 1, 1, 1, 1, 1, 1), 255, 1, 1, 1, 1, 1, 1, 1, 0);
        shares("15 by 8", pooled(15, 1, 1, 1, 1, 1, 1, 1, 1), 255, 2, 2, 2, 2, 2, 2, 2, 1);
    }

    private static void leftOverPassesThoseWithoutMinutes() {
        due.by("what is left over goes to those who have MINUTES, the least numbers first, 1 each");
        shares("5 by 0, 1, 0, 1", pooled(5, 0, 1, 0, 1), 15, 0, 3, 0, 2);
        shares("8 by 0, 1, 1, 0, 1", pooled(8, 0, 1, 1, 0, 1), 31, 0, 3, 3, 0, 2);
        shares("of some: 8 by 1, 1, 1", pooled(8, 1, 1, 1, 1, 1), 1 + 4 + 16, 3, 0, 3, 0, 2);
        BenchTimes x = pooled(5, 0, 1, 1);
        x.wait(0, 0, 0, 20);
        shares("15 with one who waited", x, 7, 0, 8, 7);
    }

    private static void poolOfNothing() {
        due.by("PAYS of all of them together, shared by their MINUTES of WORK in that WEEK");
        shares("0 by 3", pooled(0, 1, 1, 1), 7, 0, 0, 0);
        BenchTimes x = pooled(0, 1, 1, 1);
        due.reads(x, "sure 100;", 1);
        shares("what is SURE", x, 7, 1, 1, 1);
    }

    private static void poolGivesAll() {
        due.by("PAYS of all of them together, shared by their MINUTES of WORK in that WEEK");
        BenchTimes x = Due.withRate(7);
        for (int row = 0; row < 40; row++) {
            x.work(0, row * 5 % 8, 1000 * (row * 37 % 999), 1 + row * 97 % 3000);
        }
        for (int workers = 3; workers < 255; workers += 63) {
            int all = 0;
            int shared = 0;
            for (int worker = 0; worker < 8; worker++) {
                if ((workers >> worker & 1) == 1) {
                    all += x.pay(worker, 0, 0);
                    shared += x.pool(workers, 0, worker);
                }
            }
            due.is("shared by " + workers, all, shared);
        }
    }

    private static void theGreatestPool() {
        due.by("each gets all times its MINUTES, by all MINUTES, cut");
        BenchTimes x = new BenchTimes();
        x.allow(50, 50);
        x.film(0, 150, 50);
        x.job();
        for (int i = 0; i < 6; i++) {
            x.element(2);
            x.cycle(i, 0, 150, 999);
            x.part(0, i, 9);
        }
        x.set(0);
        due.reads(x, "free 100;", 1);
        for (int row = 0; row < 100; row++) {
            x.work(0, row % 2, 999999, 3000);
        }
        x.learner(0, 0, 0);
        x.learner(1, 0, 0);
        due.is("each EARNED", 606164150, x.pay(0, 0, 1));
        due.is("each gets", 606164150, x.pool(3, 0, 0));
        due.is("each gets", 606164150, x.pool(255, 0, 1));
        due.is("one alone", 606164150, x.pool(2, 0, 1));
    }
}
