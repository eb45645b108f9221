/** Promises 21 to 27. */
public final class WeeksTest {
    private static final Due due = new Due();

    public static void main(String[] args) {
        workWrong();
        workNeedsARate();
        workOfEachOnEach();
        workIsAtMostHundredRows();
        waitWrong();
        waitIsAtMostSixtyRows();
        spoiltPieces();
        earnedMovesWithTheRate();
        learners();
        learnersWrong();
        theGreatestEarned();
        pays();
        paysAreCutTogether();
        paysWrong();
        causes();
        pools();
        poolsWithoutWork();
        poolsWrong();
        due.end();
    }

    private static void workWrong() {
        BenchTimes x = Due.withJobs(2);
        x.week(5);
        due.is("week -1", Due.BEYOND, x.work(-1, 0, 1000, 10));
        due.is("week behind the WEEK", Due.BEYOND, x.work(6, 0, 1000, 10));
        due.is("on -1", Due.BEYOND, x.work(5, -1, 1000, 10));
        due.is("on -10", Due.BEYOND, x.work(5, -10, 1000, 10));
        due.is("worker 8", Due.BEYOND, x.work(5, 8, 1000, 10));
        due.is("worker 9", Due.BEYOND, x.work(5, 19, 1000, 10));
        due.is("job 2", Due.BEYOND, x.work(5, 20, 1000, 10));
        due.is("pieces -1", Due.BEYOND, x.work(5, 0, -1, 10));
        due.is("pieces 1000000", Due.BEYOND, x.work(5, 0, 1000000, 10));
        due.is("minutes 0", Due.BEYOND, x.work(5, 0, 1000, 0));
        due.is("minutes 3001", Due.BEYOND, x.work(5, 0, 1000, 3001));
        due.is("minutes -3001", Due.BEYOND, x.work(5, 0, 1000, -3001));
        due.is("least minutes", Due.BEYOND, x.work(5, 0, 1000, Integer.MIN_VALUE));
        due.is("least on", Due.BEYOND, x.work(5, Integer.MIN_VALUE, 1000, 1));
        due.is("greatest on", Due.BEYOND, x.work(5, Integer.MAX_VALUE, 1000, 1));
        due.is("no rows", 0, x.count(6));
        due.is("row", 0, x.work(5, 17, 999999, 3000));
        due.is("row", 1, x.work(0, 0, 0, -3000));
        due.is("row", 2, x.work(5, 17, 999999, 1));
        due.is("row", 3, x.work(3, 17, 999999, -1));
        due.is("rows", 4, x.count(6));
        due.is("minutes", 3001, x.pay(7, 5, 3));
        due.is("WATCHED minutes", 1, x.pay(7, 3, 3));
    }

    private static void workNeedsARate() {
        BenchTimes x = new BenchTimes();
        x.element(0);
        x.cycle(0, 0, 100, 100);
        x.job();
        x.part(0, 0, 1);
        due.is("no rate", Due.NONE, x.work(0, 0, 1000, 10));
        due.is("no rate, and beyond", Due.BEYOND, x.work(0, 0, 1000, 0));
        x.week(5);
        x.set(0);
        due.is("no rate then", Due.NONE, x.work(4, 0, 1000, 10));
        due.is("a rate", 0, x.work(5, 0, 1000, 10));
    }

    private static void workOfEachOnEach() {
        BenchTimes x = new BenchTimes();
        x.allow(0, 0);
        for (int job = 0; job < 8; job++) {
            x.element(0);
            x.cycle(job, 0, 100, 100 * (job + 1));
            x.job();
            x.part(job, job, 1);
            if (job < 7) {
                x.set(job);
            }
        }
        for (int job = 0; job < 7; job++) {
            for (int worker = 0; worker < 8; worker++) {
                int row = x.work(0, 10 * job + worker, 1000 * (worker + 1), 10 + worker);
                due.is("row", 8 * job + worker, row);
                due.is("earned", (job + 1) * (worker + 1), x.earned(row));
                due.is("efficiency", 100 * (job + 1) * (worker + 1) / (10 + worker), x.efficiency(worker, job));
            }
        }
        for (int worker = 0; worker < 8; worker++) {
            due.is("the eighth has no rate", Due.NONE, x.work(0, 70 + worker, 1000, 10));
            due.is("MINUTES", 7 * (10 + worker), x.pay(worker, 0, 3));
            due.is("EARNED", 28 * (worker + 1), x.pay(worker, 0, 1));
        }
    }

    private static void workIsAtMostHundredRows() {
        BenchTimes x = Due.withJobs(1);
        x.job();
        for (int i = 0; i < 100; i++) {
            due.is("row", i, x.work(0, i % 8, 1000 * i, 10));
        }
        due.is("work, full", Due.FULL, x.work(0, 0, 1000, 10));
        due.is("work, full and no rate", Due.NONE, x.work(0, 10, 1000, 10));
        due.is("work, full and beyond", Due.BEYOND, x.work(0, 0, 1000, 0));
        due.is("rows", 100, x.count(6));
        due.is("the last one", 108, x.earned(99));
        due.is("all rows are looked through", Due.NONE, x.slow(7, 0));
        due.is("all rows are looked through", 0, x.order(0));
        due.is("earned(100)", Due.BEYOND, x.earned(100));
    }

    private static void waitWrong() {
        BenchTimes x = new BenchTimes();
        x.week(5);
        due.is("week -1", Due.BEYOND, x.wait(-1, 0, 0, 10));
        due.is("week behind the WEEK", Due.BEYOND, x.wait(6, 0, 0, 10));
        due.is("worker -1", Due.BEYOND, x.wait(5, -1, 0, 10));
        due.is("worker 8", Due.BEYOND, x.wait(5, 8, 0, 10));
        due.is("cause -1", Due.BEYOND, x.wait(5, 0, -1, 10));
        due.is("cause 4", Due.BEYOND, x.wait(5, 0, 4, 10));
        due.is("minutes 0", Due.BEYOND, x.wait(5, 0, 0, 0));
        due.is("minutes -1", Due.BEYOND, x.wait(5, 0, 0, -1));
        due.is("minutes 3001", Due.BEYOND, x.wait(5, 0, 0, 3001));
        due.is("no rows", 0, x.count(7));
        due.is("rows", 1, x.wait(0, 0, 0, 1));
        due.is("rows", 2, x.wait(5, 7, 3, 3000));
        due.is("count", 2, x.count(7));
    }

    private static void waitIsAtMostSixtyRows() {
        BenchTimes x = new BenchTimes();
        for (int i = 1; i <= 60; i++) {
            due.is("rows", i, x.wait(0, 7, i % 4, 3000));
        }
        due.is("wait, full", Due.FULL, x.wait(0, 7, 0, 1));
        due.is("wait, full and beyond", Due.BEYOND, x.wait(0, 7, 0, 0));
        due.is("count", 60, x.count(7));
        due.is("minutes", 180000, x.pay(7, 0, 4));
        due.is("half of them", 90000, x.pay(7, 0, 2));
        due.is("four fifths of them", 144000, x.pay(7, 0, 0));
        due.is("of a cause", 45000, x.cause(0));
    }

    private static void spoiltPieces() {
        BenchTimes x = Due.withJobs(1);
        x.work(0, 0, 100002, 10);
        x.work(0, 0, 100003, 10);
        x.work(0, 0, 100004, 10);
        x.work(0, 0, 99999, 10);
        x.work(0, 0, 33001, 10);
        x.work(0, 0, 34001, 10);
        x.work(0, 0, 999, 10);
        int[] want = {112, 113, 113, 111, 36, 38, 0};
        for (int row = 0; row < want.length; row++) {
            due.is("earned(" + row + ")", want[row], x.earned(row));
        }
        due.reads(x, "free 0;", 1);
        due.is("none is free", 110, x.earned(0));
        due.reads(x, "free 100;", 1);
        due.is("as many as GOOD", 217, x.earned(3));
        due.is("as many as there are", 112, x.earned(0));
        due.is("without GOOD", 0, x.earned(6));
        due.is("earned(-1)", Due.BEYOND, x.earned(-1));
        due.is("earned(7)", Due.BEYOND, x.earned(7));
    }

    private static void earnedMovesWithTheRate() {
        BenchTimes x = Due.withJobs(1);
        x.work(0, 0, 10000, 10);
        x.week(5);
        x.work(5, 0, 10000, 10);
        due.is("ahead of the move", 11, x.earned(1));
        due.reads(x, "keep 0;", 1);
        x.allow(50, 0);
        x.change(0);
        x.move(0);
        due.is("by the rate in force in its week", 11, x.earned(0));
        due.is("by the rate in force in its week", 15, x.earned(1));
        x.work(4, 0, 10000, 10);
        due.is("by the rate in force in its week", 11, x.earned(2));
    }

    private static void learners() {
        BenchTimes x = Due.withJobs(2);
        x.week(20);
        for (int week = 9; week <= 14; week++) {
            x.work(week, 13, 30000, 10);
        }
        x.work(10, 3, 30000, 10);
        x.work(10, 12, 30000, 10);
        due.is("never told", -1, x.learner(3, 1, 10));
        int[] want = {33, 49, 41, 41, 41, 33, 33, 33};
        for (int row = 0; row < want.length; row++) {
            due.is("earned(" + row + ")", want[row], x.earned(row));
        }
        due.is("pay tells it, too", 33 + 0, x.pay(2, 10, 1));
        due.is("pay tells it, too", 49 + 33, x.pay(3, 10, 1));
        due.is("told anew", 10, x.learner(3, 1, 0));
        due.is("long ago", 33, x.earned(1));
        due.is("week 0 was told", 0, x.learner(3, 1, 500));
        due.is("it comes", 33, x.earned(1));
        due.is("500 was told", 500, x.learner(3, 1, -1));
        due.is("never was told", -1, x.learner(3, 1, -1));
        due.is("of another job", -1, x.learner(3, 0, 10));
        due.is("of another job", 49, x.earned(6));
        due.is("of this one", 33, x.earned(1));
        BenchTimes y = Due.withJobs(1);
        y.week(3);
        y.work(0, 0, 30000, 10);
        y.work(2, 0, 30000, 10);
        due.is("never is not the week ahead of 0", 33, y.earned(0));
        due.is("never is not the week ahead of 0", 33, y.earned(1));
    }

    private static void learnersWrong() {
        BenchTimes x = Due.withJobs(1);
        due.is("worker -1", Due.BEYOND, x.learner(-1, 0, 0));
        due.is("worker 8", Due.BEYOND, x.learner(8, 0, 0));
        due.is("job -1", Due.BEYOND, x.learner(0, -1, 0));
        due.is("job 1", Due.BEYOND, x.learner(0, 1, 0));
        due.is("week -2", Due.BEYOND, x.learner(0, 0, -2));
        due.is("week 501", Due.BEYOND, x.learner(0, 0, 501));
        due.is("a worker and a job", -1, x.learner(7, 0, 3));
        due.is("a worker and a job", 3, x.learner(7, 0, 4));
        due.is("another worker", -1, x.learner(6, 0, 3));
    }

    private static void theGreatestEarned() {
        BenchTimes x = new BenchTimes();
        x.allow(50, 50);
        x.film(0, 150, 50);
        x.job();
        for (int i = 0; i < 6; i++) {
            x.element(2);
            x.cycle(i, 0, 150, 999);
            x.part(0, i, 9);
        }
        due.is("set", 404514, x.set(0));
        due.reads(x, "free 100;sure 100;", 2);
        for (int i = 0; i < 100; i++) {
            x.work(0, 0, 999999, 1);
        }
        due.is("earned", 8082189, x.earned(99));
        x.learner(0, 0, 0);
        due.is("a learner's", 12123283, x.earned(99));
        due.is("pay", 1212328300, x.pay(0, 0, 0));
        due.is("pool", 1212328300, x.pool(255, 0, 0));
        due.is("efficiency", 1212328300, x.efficiency(0, 0));
        due.is("tell", 1, x.tell(1212328300));
        due.is("check", 0, x.check(0));
    }

    private static void pays() {
        BenchTimes x = Due.withJobs(2);
        x.week(2);
        x.work(1, 4, 100000, 50);
        x.work(1, 14, 10000, 30);
        x.work(2, 4, 10000, 7);
        x.work(1, 5, 10000, 9);
        x.wait(1, 4, 0, 20);
        x.wait(2, 4, 0, 3);
        x.wait(1, 5, 0, 4);
        due.is("EARNED", 121, x.pay(4, 1, 1));
        due.is("for WAITING", 10, x.pay(4, 1, 2));
        due.is("MINUTES of WORK", 80, x.pay(4, 1, 3));
        due.is("MINUTES of WAITING", 20, x.pay(4, 1, 4));
        due.is("all", 131, x.pay(4, 1, 0));
        due.reads(x, "wait 100;", 1);
        due.is("all", 141, x.pay(4, 1, 0));
        due.reads(x, "wait 0;sure 100;", 2);
        due.is("for WAITING", 0, x.pay(4, 1, 2));
        due.is("all", 121, x.pay(4, 1, 0));
        x.wait(1, 4, 1, 21);
        due.is("as many as EARNED", 121, x.pay(4, 1, 0));
        x.wait(1, 4, 1, 1);
        due.is("SURE", 122, x.pay(4, 1, 0));
        due.is("EARNED stays", 121, x.pay(4, 1, 1));
        due.is("no row", 0, x.pay(0, 1, 0));
        due.is("no row yet", 0, x.pay(4, 500, 0));
    }

    private static void paysAreCutTogether() {
        BenchTimes x = Due.withJobs(1);
        x.wait(0, 0, 0, 1);
        due.is("half a minute", 0, x.pay(0, 0, 2));
        x.wait(0, 0, 1, 1);
        due.is("half of two minutes", 1, x.pay(0, 0, 2));
        due.is("four fifths of two minutes", 1, x.pay(0, 0, 0));
        x.work(0, 0, 0, 2);
        due.is("four fifths of four minutes", 3, x.pay(0, 0, 0));
        x.work(0, 0, 0, 1);
        due.is("four fifths of five minutes", 4, x.pay(0, 0, 0));
    }

    private static void paysWrong() {
        BenchTimes x = new BenchTimes();
        due.is("worker -1", Due.BEYOND, x.pay(-1, 0, 0));
        due.is("worker 8", Due.BEYOND, x.pay(8, 0, 0));
        due.is("week -1", Due.BEYOND, x.pay(0, -1, 0));
        due.is("week 501", Due.BEYOND, x.pay(0, 501, 0));
        due.is("what -1", Due.BEYOND, x.pay(0, 0, -1));
        due.is("what 5", Due.BEYOND, x.pay(0, 0, 5));
        due.is("pay", 0, x.pay(7, 500, 4));
    }

    private static void causes() {
        BenchTimes x = new BenchTimes();
        x.week(3);
        x.wait(1, 0, 2, 5);
        x.wait(3, 7, 2, 6);
        x.wait(3, 7, 3, 7);
        due.is("cause(0)", 0, x.cause(0));
        due.is("cause(2)", 11, x.cause(2));
        due.is("cause(3)", 7, x.cause(3));
        due.is("cause(-1)", Due.BEYOND, x.cause(-1));
        due.is("cause(4)", Due.BEYOND, x.cause(4));
    }

    private static void pools() {
        BenchTimes x = Due.withJobs(1);
        due.reads(x, "sure 0;wait 100;", 2);
        x.wait(0, 0, 0, 2);
        x.work(0, 1, 10000, 1);
        x.work(0, 3, 10000, 1);
        x.work(0, 5, 10000, 1);
        x.work(0, 6, 90000, 1);
        // 2 + 11 + 11 + 11 = 35 for 0, 1, 3, 5: 11 each, and 2 are left over.
        due.is("no minutes of work", 0, x.pool(1 + 2 + 8 + 32, 0, 0));
        due.is("one more", 12, x.pool(1 + 2 + 8 + 32, 0, 1));
        due.is("one more", 12, x.pool(1 + 2 + 8 + 32, 0, 3));
        due.is("no more", 11, x.pool(1 + 2 + 8 + 32, 0, 5));
        due.is("alone", 99, x.pool(64, 0, 6));
        // 35 + 99 = 134 for four: 33 each, and 2 are left over.
        due.is("all", 34, x.pool(255, 0, 1));
        due.is("all", 33, x.pool(255, 0, 6));
        due.is("all", 0, x.pool(255, 0, 7));
        x.work(0, 6, 0, 2);
        // 134 by 6 minutes: 22 each and 67, and 1 is left over.
        due.is("by minutes", 23, x.pool(255, 0, 1));
        due.is("by minutes", 22, x.pool(255, 0, 3));
        due.is("by minutes", 67, x.pool(255, 0, 6));
        due.reads(x, "sure 100;", 1);
        x.work(0, 2, 0, 66);
        // PAYS are SURE ones, too: 134 and 66, by 72 minutes.
        due.is("with what is SURE", 3, x.pool(255, 0, 1));
        due.is("with what is SURE", 184, x.pool(255, 0, 2));
        due.is("with what is SURE", 8, x.pool(255, 0, 6));
    }

    private static void poolsWithoutWork() {
        BenchTimes x = Due.withJobs(1);
        x.week(1);
        x.wait(0, 0, 0, 100);
        x.work(1, 0, 1000, 10);
        x.work(0, 1, 1000, 10);
        due.is("only waiting", Due.NONE, x.pool(1, 0, 0));
        due.is("another week", Due.NONE, x.pool(2, 1, 1));
        due.is("a later week", Due.NONE, x.pool(255, 500, 1));
        due.is("together", 0, x.pool(3, 0, 0));
        due.is("together", 88, x.pool(3, 0, 1));
    }

    private static void poolsWrong() {
        BenchTimes x = Due.withJobs(1);
        x.work(0, 0, 10000, 10);
        due.is("workers 0", Due.BEYOND, x.pool(0, 0, 0));
        due.is("workers -1", Due.BEYOND, x.pool(-1, 0, 0));
        due.is("workers 256", Due.BEYOND, x.pool(256, 0, 0));
        due.is("workers 257", Due.BEYOND, x.pool(257, 0, 0));
        due.is("week -1", Due.BEYOND, x.pool(1, -1, 0));
        due.is("week 501", Due.BEYOND, x.pool(1, 501, 0));
        due.is("not of it", Due.BEYOND, x.pool(254, 0, 0));
        due.is("worker -1", Due.BEYOND, x.pool(255, 0, -1));
        due.is("worker 8", Due.BEYOND, x.pool(255, 0, 8));
        due.is("worker 32 is not worker 0", Due.BEYOND, x.pool(255, 0, 32));
        due.is("pool", 11, x.pool(1, 0, 0));
    }
}
