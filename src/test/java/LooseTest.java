/** Promises 28 to 31. */
public final class LooseTest {
    private static final Due due = new Due();

    public static void main(String[] args) {
        efficiencies();
        efficienciesWrong();
        howManyWorkersAreEnough();
        unlikeEfficienciesAlone();
        cutEfficienciesAreCompared();
        looserWrong();
        theOrder();
        orderOfSeveral();
        orderWithTheFirstJob();
        orderIsReckonedAnew();
        slowWrong();
        howManyRowsAreEnough();
        ranksOfTheSame();
        ranksAreTwiceTheLesserAndTheSame();
        slowIsReckonedAnew();
        pacesAreCut();
        fourteenRowsAtMost();
        rowsWithoutGoodPieces();
        due.end();
    }

    private static void efficiencies() {
        BenchTimes x = Due.withJobs(2);
        x.week(9);
        x.work(0, 3, 10000, 7);
        due.is("1100 by 7", 157, x.efficiency(3, 0));
        x.work(9, 3, 10000, 20);
        due.is("all weeks: 2200 by 27", 81, x.efficiency(3, 0));
        x.work(9, 13, 10000, 1);
        due.is("of its job", 81, x.efficiency(3, 0));
        due.is("of the other job", 1100, x.efficiency(3, 1));
        x.work(9, 4, 10000, 11);
        due.is("of its worker", 81, x.efficiency(3, 0));
        x.work(9, 5, 5, 11);
        due.is("nothing earned", 0, x.efficiency(5, 0));
        x.learner(4, 0, 9);
        due.is("a learner's", 145, x.efficiency(4, 0));
    }

    private static void efficienciesWrong() {
        BenchTimes x = Due.withJobs(1);
        x.work(0, 0, 1000, 1);
        due.is("worker -1", Due.BEYOND, x.efficiency(-1, 0));
        due.is("worker 8", Due.BEYOND, x.efficiency(8, 0));
        due.is("job -1", Due.BEYOND, x.efficiency(0, -1));
        due.is("job 1", Due.BEYOND, x.efficiency(0, 1));
        due.is("no rows", Due.NONE, x.efficiency(7, 0));
    }

    /** Rows of so many workers on two jobs, of whom the first ones are better on the first job. */
    private static BenchTimes compared(int first, int second) {
        BenchTimes x = Due.withJobs(2);
        for (int worker = 0; worker < first + second; worker++) {
            int more = worker < first ? 0 : 10;
            x.work(0, worker + more, 50000, 10);
            x.work(0, worker + 10 - more, 40000, 10);
        }
        return x;
    }

    private static void howManyWorkersAreEnough() {
        for (int n = 0; n <= 8; n++) {
            for (int k = 0; k <= n; k++) {
                // 1 of 32, 1 of 64, 1 and 7 of 128, 1 and 8 of 256 are at most a twentieth.
                boolean enough = n == 5 && k == 5 || n == 6 && k == 6 || n == 7 && k == 7 || n == 8 && k >= 7;
                BenchTimes x = compared(k, n - k);
                due.is(k + " of " + n, enough ? 1 : 0, x.looser(0, 1));
                boolean other = k == 0 && n >= 5 || n == 8 && k == 1;
                due.is(n - k + " of " + n + " the other way", other ? 1 : 0, x.looser(1, 0));
            }
        }
    }

    private static void unlikeEfficienciesAlone() {
        BenchTimes x = compared(5, 0);
        x.work(0, 5, 40000, 10);
        x.work(0, 15, 40000, 10);
        x.work(0, 6, 40000, 10);
        x.work(0, 17, 40000, 10);
        due.is("the same on both, or on one alone, doesn't count", 1, x.looser(0, 1));
        BenchTimes y = compared(4, 0);
        y.work(0, 4, 50000, 10);
        due.is("on one alone doesn't count", 0, y.looser(0, 1));
    }

    private static void cutEfficienciesAreCompared() {
        BenchTimes x = compared(4, 0);
        // 1100 by 2999 and by 3000 are 0.36 both: cut they are the same.
        x.work(0, 4, 10000, 2999);
        x.work(0, 14, 10000, 3000);
        due.is("cut to the same", 0, x.looser(0, 1));
        BenchTimes y = compared(4, 0);
        // 5500 by 2740 and by 2760 are 2.007 and 1.99.
        y.work(0, 4, 50000, 2740);
        y.work(0, 14, 50000, 2760);
        due.is("cut to 2 and 1", 1, y.looser(0, 1));
    }

    private static void looserWrong() {
        BenchTimes x = Due.withJobs(2);
        due.is("job -1", Due.BEYOND, x.looser(-1, 0));
        due.is("job 2", Due.BEYOND, x.looser(2, 0));
        due.is("than -1", Due.BEYOND, x.looser(0, -1));
        due.is("than 2", Due.BEYOND, x.looser(0, 2));
        due.is("one", Due.BEYOND, x.looser(1, 1));
        due.is("no rows", 0, x.looser(0, 1));
    }

    private static void theOrder() {
        BenchTimes x = Due.withJobs(8);
        due.is("order(-1)", Due.BEYOND, x.order(-1));
        due.is("no rows", Due.NONE, x.order(0));
        x.work(0, 50, 1000, 10);
        due.is("the one with rows", 5, x.order(0));
        due.is("no other one", Due.NONE, x.order(1));
        for (int worker = 0; worker < 5; worker++) {
            x.work(0, 60 + worker, 90000, 10);
            x.work(0, 20 + worker, 50000, 10);
            x.work(0, 40 + worker, 70000, 10);
        }
        // 6 is LOOSER than 2 and 4, 4 than 2; 5 is neither.
        int[] want = {6, 4, 5, 2};
        for (int i = 0; i < want.length; i++) {
            due.is("order(" + i + ")", want[i], x.order(i));
        }
        due.is("order(4)", Due.NONE, x.order(4));
        due.is("the greatest i", Due.NONE, x.order(Integer.MAX_VALUE));
        due.is("the least i", Due.BEYOND, x.order(Integer.MIN_VALUE));
    }

    private static void orderOfSeveral() {
        BenchTimes x = Due.withJobs(4);
        for (int worker = 0; worker < 5; worker++) {
            x.work(0, worker, 10000, 10);
            x.work(0, 10 + worker, 90000, 10);
            x.work(0, 20 + worker, 10000, 10);
            x.work(0, 30 + worker, 90000, 10);
        }
        int[] want = {1, 3, 0, 2};
        for (int i = 0; i < want.length; i++) {
            due.is("order(" + i + ")", want[i], x.order(i));
        }
    }

    private static void orderWithTheFirstJob() {
        BenchTimes x = Due.withJobs(3);
        for (int worker = 0; worker < 5; worker++) {
            for (int job = 0; job < 3; job++) {
                x.work(0, 10 * job + worker, 10000 * (3 - job), 10);
            }
        }
        for (int i = 0; i < 3; i++) {
            due.is("each is LOOSER than the next, order(" + i + ")", i, x.order(i));
        }
        BenchTimes y = compared(0, 5);
        due.is("the first one is the tight one", 1, y.order(0));
        due.is("the first one is the tight one", 0, y.order(1));
        BenchTimes z = Due.withJobs(8);
        z.work(0, 67, 0, 1);
        due.is("one row, of one minute, of the last worker", 6, z.order(0));
    }

    private static void orderIsReckonedAnew() {
        BenchTimes x = compared(0, 5);
        for (int i = 0; i < 5; i++) {
            due.is("order", 1, x.order(0));
        }
        x.work(0, 0, 90000, 10);
        due.is("not LOOSER any more", 0, x.looser(1, 0));
        due.is("order", 0, x.order(0));
    }

    private static void slowWrong() {
        BenchTimes x = Due.withJobs(2);
        due.is("worker -1", Due.BEYOND, x.slow(-1, 0));
        due.is("worker 8", Due.BEYOND, x.slow(8, 0));
        due.is("job -1", Due.BEYOND, x.slow(0, -1));
        due.is("job 2", Due.BEYOND, x.slow(0, 2));
        due.is("no rows", Due.NONE, x.slow(0, 0));
        x.work(0, 0, 1000, 10);
        x.work(0, 0, 1000, 10);
        due.is("none WATCHED", Due.NONE, x.slow(0, 0));
        x.work(0, 1, 1000, -10);
        x.work(0, 1, 1000, -10);
        due.is("all WATCHED", Due.NONE, x.slow(1, 0));
        x.work(0, 10, 1000, -10);
        due.is("WATCHED on another job", Due.NONE, x.slow(0, 0));
        x.work(0, 0, 1000, -10);
        due.is("one WATCHED", 0, x.slow(0, 0));
        x.work(0, 2, 1000, 1);
        due.is("one minute", Due.NONE, x.slow(2, 0));
        x.work(0, 2, 1000, -1);
        due.is("one minute, WATCHED", 0, x.slow(2, 0));
    }

    /** So many rows, each slower than the one ahead; the last m are WATCHED. */
    private static BenchTimes slowed(int n, int m) {
        BenchTimes x = Due.withJobs(1);
        for (int i = 0; i < n; i++) {
            x.work(0, 0, 10000, i < n - m ? 10 + i : -10 - i);
        }
        return x;
    }

    private static void howManyRowsAreEnough() {
        due.is("1 of 6 choose 3", 1, slowed(6, 3).slow(0, 0));
        due.is("1 of 6 choose 2", 0, slowed(6, 2).slow(0, 0));
        due.is("1 of 7 choose 2", 1, slowed(7, 2).slow(0, 0));
        due.is("1 of 7 choose 5", 1, slowed(7, 5).slow(0, 0));
        due.is("1 of 6 choose 4", 0, slowed(6, 4).slow(0, 0));
        due.is("1 of 14 choose 1", 0, slowed(14, 1).slow(0, 0));
        due.is("1 of 14 choose 13", 0, slowed(14, 13).slow(0, 0));
        due.is("1 of 14 choose 7", 1, slowed(14, 7).slow(0, 0));
        due.is("1 of 4 choose 2", 0, slowed(4, 2).slow(0, 0));
        BenchTimes x = Due.withJobs(1);
        // Ranks 0 2 4 6 8 10 and WATCHED 6 8 10 but for one: 4 8 10 come to 22, 2 ways of 20.
        int[] minutes = {10, 11, -12, 13, -14, -15};
        for (int m : minutes) {
            x.work(0, 0, 10000, m);
        }
        due.is("2 of 20 ways", 0, x.slow(0, 0));
        BenchTimes y = Due.withJobs(1);
        int[] quick = {-10, -11, -12, 13, 14, 15, 16, 17};
        for (int m : quick) {
            y.work(0, 0, 10000, m);
        }
        due.is("quick for the watch", 0, y.slow(0, 0));
    }

    private static void ranksOfTheSame() {
        BenchTimes x = Due.withJobs(1);
        for (int i = 0; i < 10; i++) {
            x.work(0, 0, 10000, i < 5 ? 10 : -10);
        }
        due.is("all the same", 0, x.slow(0, 0));
        BenchTimes y = Due.withJobs(1);
        int[] minutes = {10, 10, 10, 10, 20, -20, -20, -20};
        for (int m : minutes) {
            y.work(0, 0, 10000, m);
        }
        // Ranks 3 3 3 3 11 11 11 11: 4 ways of 56 have three of the greater ones.
        due.is("4 of 56", 0, y.slow(0, 0));
        y.work(0, 0, 10000, 10);
        // Ranks 4 4 4 4 4 12 12 12 12: 4 ways of 84.
        due.is("4 of 84", 1, y.slow(0, 0));
    }

    /** Whether WORKER 0 is SLOW whose rows have these MINUTES (below 0: WATCHED) for 10 GOOD pieces each. */
    private static int slowWith(int... minutes) {
        BenchTimes x = Due.withJobs(1);
        for (int m : minutes) {
            x.work(0, 0, 10000, m);
        }
        return x.slow(0, 0);
    }

    private static void ranksAreTwiceTheLesserAndTheSame() {
        due.is("twice the lesser ones", 1, slowWith(11, 11, -14, -12, 14, 11, -15, -13, -15));
        due.is("twice the lesser ones", 0, slowWith(-15, 10, -13, -10, 11, -13, 10, -15, 12, -12));
        due.is("and the same ones", 1, slowWith(-14, 11, -15, 12, -14, 11, -13, -10, 10, -14));
        due.is("the WATCHED ones first", 1, slowWith(-15, -14, -13, 12, 11, 10));
        due.is("the WATCHED ones first", 0, slowWith(-15, -14, -12, 13, 11, 10));
        // 4 ways of 78: 13 12, 13 11, 13 10, 12 11.
        due.is("a little more than a twentieth", 0, slowWith(1, 2, 3, 4, 5, 6, 7, 8, 9, 10, -11, -12, 13));
        due.is("2 ways of 78", 1, slowWith(1, 2, 3, 4, 5, 6, 7, 8, 9, 10, -11, 12, -13));
    }

    private static void slowIsReckonedAnew() {
        BenchTimes x = slowed(14, 7);
        for (int i = 0; i < 6; i++) {
            x.work(0, 1, 10000, i < 3 ? 10 + i : -10 - i);
            x.work(0, 2, 10000, i < 3 ? -10 - i : 10 + i);
        }
        for (int again = 0; again < 3; again++) {
            due.is("worker 0", 1, x.slow(0, 0));
            due.is("worker 1", 1, x.slow(1, 0));
            due.is("worker 2", 0, x.slow(2, 0));
        }
    }

    private static void pacesAreCut() {
        BenchTimes x = Due.withJobs(1);
        // 100 minutes times 100 by 999 are 10.01, 101 are 10.11: cut they are the same.
        for (int i = 0; i < 3; i++) {
            x.work(0, 0, 999000, 100);
            x.work(0, 0, 999000, -101);
        }
        due.is("cut to the same", 0, x.slow(0, 0));
        BenchTimes y = Due.withJobs(1);
        // 109 are 10.91, 110 are 11.01.
        for (int i = 0; i < 3; i++) {
            y.work(0, 0, 999000, 109);
            y.work(0, 0, 999000, -110);
        }
        due.is("cut to 10 and 11", 1, y.slow(0, 0));
    }

    private static void fourteenRowsAtMost() {
        BenchTimes x = Due.withJobs(1);
        for (int i = 0; i < 14; i++) {
            x.work(0, 0, 10000, 10 + i);
        }
        x.work(0, 0, 10000, -90);
        due.is("the fifteenth is WATCHED", Due.NONE, x.slow(0, 0));
        BenchTimes y = slowed(14, 7);
        y.work(0, 0, 10000, 2000);
        y.work(0, 0, 10000, 2000);
        due.is("the first fourteen tell it", 1, y.slow(0, 0));
        BenchTimes z = Due.withJobs(1);
        for (int i = 0; i < 8; i++) {
            z.work(0, 1, 10000, 10);
            z.work(0, 0, 0, 10);
        }
        for (int i = 0; i < 14; i++) {
            z.work(0, 0, 10000, i < 7 ? 10 : -11);
        }
        due.is("other rows don't count among them", 1, z.slow(0, 0));
    }

    private static void rowsWithoutGoodPieces() {
        BenchTimes x = Due.withJobs(1);
        x.work(0, 0, 10000, 10);
        x.work(0, 0, 999, -10);
        due.is("WATCHED without a GOOD piece", Due.NONE, x.slow(0, 0));
        x.work(0, 0, 1000, -10);
        due.is("WATCHED with a GOOD piece", 0, x.slow(0, 0));
        x.work(0, 1, 1000, -10);
        x.work(0, 1, 999, 10);
        due.is("all with a GOOD piece are WATCHED", Due.NONE, x.slow(1, 0));
    }
}
