/** Every sentence of promises 28 to 31, and of the terms that they go by, that names an edge. */
public final class EdgesLooseTest {
    private static final Due due = new Due();

    public static void main(String[] args) {
        efficiencyOfWhat();
        efficiencyNone();
        efficiencyIsCut();
        efficiencyOfAllWeeks();
        theGreatestEfficiency();
        looserOfWhat();
        theyAreOne();
        nAboveZero();
        atMostATwentiethOfThePower();
        kOrMore();
        efficienciesAreUnlike();
        rowsOnBoth();
        orderBelowZero();
        orderNone();
        orderOfJobsWithRows();
        ofSeveralTheLeastNumber();
        theMostFirst();
        looserLessTighter();
        orderAskedAgain();
        slowOfWhat();
        slowNone();
        rowsWithAGoodPiece();
        fourteenAtMost();
        oneOrMoreBelowN();
        atMostATwentiethOfTheWays();
        asGreatOrGreater();
        paceIsCut();
        ranksOfTheSamePace();
        oneLessIsLess();
        reckonedAnewEachTime();
        theGreatestPaces();
        due.end();
    }

    private static BenchTimes withRow() {
        BenchTimes x = Due.withJobs(2);
        x.work(0, 0, 1000, 1);
        return x;
    }

    private static void efficiencyOfWhat() {
        due.by("EFFICIENCY. BEYOND.");
        due.range("worker", 0, 7, v -> withRow().efficiency(v, 0));
        due.range("job of two", 0, 1, v -> withRow().efficiency(0, v));
        due.range("job of eight", 0, 7, v -> Due.withJobs(8).efficiency(0, v));
        due.is("no JOB", Due.BEYOND, new BenchTimes().efficiency(0, 0));
    }

    private static void efficiencyNone() {
        due.by("NONE: there are no such rows.");
        BenchTimes x = withRow();
        x.wait(0, 1, 0, 100);
        due.is("of another WORKER", Due.NONE, x.efficiency(1, 0));
        due.is("on another JOB", Due.NONE, x.efficiency(0, 1));
        due.is("BEYOND is asked first", Due.BEYOND, x.efficiency(0, 2));
        x.work(0, 1, 0, 3000);
        due.is("a row that EARNED nothing is one", 0, x.efficiency(1, 0));
    }

    private static void efficiencyIsCut() {
        due.by("100 times EARNED by its rows on it, by their MINUTES together (all WEEKS)");
        int[][] rows = {{1, 99, 1}, {1, 100, 1}, {1, 101, 0}, {100, 99, 101}, {100, 101, 99}, {999, 1, 99900}, {2, 3, 66}};
        for (int[] row : rows) {
            BenchTimes x = Due.withRate(100);
            x.work(0, 0, 1000 * row[0], row[1]);
            due.is(row[0] + " by " + row[1], row[2], x.efficiency(0, 0));
        }
        BenchTimes x = Due.withRate(100);
        x.work(0, 0, 1000, 3);
        x.work(0, 0, 1000, -3);
        x.work(0, 0, 1000, 3);
        due.is("together, WATCHED or not", 33, x.efficiency(0, 0));
    }

    private static void efficiencyOfAllWeeks() {
        due.by("100 times EARNED by its rows on it, by their MINUTES together (all WEEKS)");
        BenchTimes x = Due.withRate(100);
        x.week(500);
        x.work(0, 0, 10000, 10);
        x.work(500, 0, 20000, 10);
        due.is("WEEKS 0 and 500", 150, x.efficiency(0, 0));
    }

    private static void theGreatestEfficiency() {
        due.by("100 times EARNED by its rows on it, by their MINUTES together (all WEEKS)");
        BenchTimes x = new BenchTimes();
        x.allow(50, 50);
        x.film(0, 150, 50);
        x.job();
        x.job();
        for (int i = 0; i < 6; i++) {
            x.element(2);
            x.cycle(i, 0, 150, 999);
            x.part(0, i, 9);
            x.part(1, i, 9);
        }
        x.set(0);
        x.set(1);
        due.reads(x, "free 100;", 1);
        for (int worker = 0; worker < 5; worker++) {
            x.learner(worker, 0, 0);
            x.work(0, worker, 999999, 1);
            x.work(0, 10 + worker, 999999, 1);
        }
        due.is("the greatest", 1212328300, x.efficiency(0, 0));
        due.is("the next", 808218900, x.efficiency(0, 1));
        due.is("LOOSER by it", 1, x.looser(0, 1));
        due.is("not the other way", 0, x.looser(1, 0));
    }

    private static void looserOfWhat() {
        due.by("BEYOND: there is no such one, or they are one.");
        due.range("job", 0, 1, v -> Due.withJobs(2).looser(v, v == 0 ? 1 : 0));
        due.range("than", 0, 1, v -> Due.withJobs(2).looser(v == 0 ? 1 : 0, v));
        due.range("job of eight", 1, 7, v -> Due.withJobs(8).looser(v, 0));
        due.is("the last of eight", 0, Due.withJobs(8).looser(0, 7));
        due.is("no JOB", Due.BEYOND, new BenchTimes().looser(0, 1));
    }

    private static void theyAreOne() {
        due.by("BEYOND: there is no such one, or they are one.");
        BenchTimes x = Due.withJobs(8);
        for (int job = 0; job < 8; job++) {
            due.is("JOB " + job, Due.BEYOND, x.looser(job, job));
        }
        due.is("none of the two", Due.BEYOND, x.looser(8, 8));
        due.is("none of the two", Due.BEYOND, x.looser(-1, -1));
    }

    /** Of n WORKERS with rows on both JOBS k have the greater EFFICIENCY on the first. */
    private static BenchTimes compared(int k, int n) {
        BenchTimes x = Due.withJobs(2);
        for (int worker = 0; worker < n; worker++) {
            x.work(0, worker, worker < k ? 50000 : 40000, 10);
            x.work(0, 10 + worker, worker < k ? 40000 : 50000, 10);
        }
        return x;
    }

    private static void nAboveZero() {
        due.by("2 to the power of n, n above 0");
        due.is("no rows", 0, Due.withJobs(2).looser(0, 1));
        BenchTimes x = Due.withJobs(2);
        for (int worker = 0; worker < 8; worker++) {
            x.work(0, worker, 40000, 10);
            x.work(0, 10 + worker, 40000, 10);
        }
        due.is("all are alike", 0, x.looser(0, 1));
        BenchTimes y = Due.withJobs(2);
        for (int worker = 0; worker < 8; worker++) {
            y.work(0, worker, 40000, 10);
        }
        due.is("rows on the first alone", 0, y.looser(0, 1));
        due.is("rows on the second alone", 0, y.looser(1, 0));
    }

    private static void atMostATwentiethOfThePower() {
        due.by("the ways to choose k or more of n are at most a twentieth of 2 to the power of n");
        due.is("1 of 2", 0, compared(1, 1).looser(0, 1));
        due.is("1 of 4", 0, compared(2, 2).looser(0, 1));
        due.is("1 of 8", 0, compared(3, 3).looser(0, 1));
        due.is("1 of 16", 0, compared(4, 4).looser(0, 1));
        due.is("1 of 32", 1, compared(5, 5).looser(0, 1));
        due.is("6 of 32", 0, compared(4, 5).looser(0, 1));
        due.is("1 of 64", 1, compared(6, 6).looser(0, 1));
        due.is("7 of 64", 0, compared(5, 6).looser(0, 1));
        due.is("1 of 128", 1, compared(7, 7).looser(0, 1));
        due.is("8 of 128", 0, compared(6, 7).looser(0, 1));
        due.is("1 of 256", 1, compared(8, 8).looser(0, 1));
        due.is("9 of 256", 1, compared(7, 8).looser(0, 1));
        due.is("37 of 256", 0, compared(6, 8).looser(0, 1));
    }

    private static void kOrMore() {
        due.by("k have the greater one on the first");
        for (int n = 1; n <= 8; n++) {
            due.is("none of " + n, 0, compared(0, n).looser(0, 1));
            due.is("all of " + n + " the other way", n < 5 ? 0 : 1, compared(0, n).looser(1, 0));
        }
        due.is("1 of 8 the other way", 1, compared(1, 8).looser(1, 0));
        due.is("2 of 8 the other way", 0, compared(2, 8).looser(1, 0));
    }

    private static void efficienciesAreUnlike() {
        due.by("whose EFFICIENCIES on both are unlike");
        BenchTimes x = compared(5, 5);
        for (int worker = 5; worker < 8; worker++) {
            x.work(0, worker, 40000, 10);
            x.work(0, 10 + worker, 40000, 10);
        }
        due.is("three are alike: 5 of 5", 1, x.looser(0, 1));
        BenchTimes y = compared(4, 4);
        y.work(0, 4, 1000, 3000);
        y.work(0, 14, 0, 3000);
        due.is("0 and 0, cut: 4 of 4", 0, y.looser(0, 1));
        y.work(0, 4, 30000, 1);
        due.is("1 and 0, cut: 5 of 5", 1, y.looser(0, 1));
    }

    private static void rowsOnBoth() {
        due.by("of n WORKERS with rows on both");
        BenchTimes x = compared(4, 4);
        x.work(0, 4, 50000, 10);
        due.is("the fifth has none on the second", 0, x.looser(0, 1));
        x.work(0, 15, 40000, 10);
        due.is("the sixth has none on the first", 0, x.looser(0, 1));
        x.work(0, 14, 0, 10);
        due.is("a row that EARNED nothing is one", 1, x.looser(0, 1));
    }

    private static void orderBelowZero() {
        due.by("BEYOND: i is below 0. NONE.");
        due.is("-1", Due.BEYOND, new BenchTimes().order(-1));
        due.is("the least", Due.BEYOND, new BenchTimes().order(Integer.MIN_VALUE));
        due.is("-1 with rows", Due.BEYOND, withRow().order(-1));
    }

    private static void orderNone() {
        due.by("BEYOND: i is below 0. NONE.");
        due.is("without JOBS", Due.NONE, new BenchTimes().order(0));
        due.is("without rows", Due.NONE, Due.withJobs(8).order(0));
        due.is("with one", 0, withRow().order(0));
        due.is("no second", Due.NONE, withRow().order(1));
        due.is("the greatest", Due.NONE, withRow().order(Integer.MAX_VALUE));
        BenchTimes x = Due.withJobs(8);
        for (int job = 0; job < 8; job++) {
            x.work(0, 10 * job, 1000, 10);
        }
        due.is("the eighth", 7, x.order(7));
        due.is("no ninth", Due.NONE, x.order(8));
    }

    private static void orderOfJobsWithRows() {
        due.by("THE ORDER of JOBS with rows");
        BenchTimes x = Due.withJobs(8);
        x.work(0, 77, 0, 1);
        due.is("the last JOB alone", 7, x.order(0));
        x.wait(0, 0, 0, 10);
        due.is("WAITING is no row on a JOB", Due.NONE, x.order(1));
        x.work(0, 30, 0, -1);
        due.is("the lesser number", 3, x.order(0));
        due.is("the greater number", 7, x.order(1));
        due.is("no third", Due.NONE, x.order(2));
    }

    private static void ofSeveralTheLeastNumber() {
        due.by("the most first, of several the least number");
        BenchTimes x = Due.withJobs(8);
        for (int job = 7; job >= 0; job--) {
            x.work(0, 10 * job + job, 1000 * job, 10);
        }
        for (int i = 0; i < 8; i++) {
            due.is("none is LOOSER, place " + i, i, x.order(i));
        }
    }

    private static void theMostFirst() {
        due.by("the most first, of several the least number");
        BenchTimes x = Due.withJobs(8);
        for (int job = 0; job < 8; job++) {
            for (int worker = 0; worker < 5; worker++) {
                x.work(0, 10 * job + worker, 10000 * (job + 1), 10);
            }
        }
        for (int i = 0; i < 8; i++) {
            due.is("each is LOOSER than those ahead, place " + i, 7 - i, x.order(i));
        }
    }

    private static void orderAskedAgain() {
        due.by("less how many are so than they, the most first");
        BenchTimes x = compared(0, 5);
        for (int again = 0; again < 4; again++) {
            due.is("the LOOSER one first", 1, x.order(0));
        }
        x.work(0, 0, 90000, 10);
        due.is("LOOSER no more: the least number first", 0, x.order(0));
    }

    private static void looserLessTighter() {
        due.by("by how many others they are LOOSER than BEYOND DOUBT less how many are so than they");
        BenchTimes x = Due.withJobs(4);
        // 0 is LOOSER than 3 alone, 1 than 2 and 3, and 2 than 3: 1, 2, 0, -3.
        for (int worker = 0; worker < 5; worker++) {
            x.work(0, 10 + worker, 90000, 10);
            x.work(0, 20 + worker, 50000, 10);
            x.work(0, 30 + worker, 10000, 10);
            x.work(0, worker, worker < 3 ? 95000 : 45000, 10);
        }
        int[] want = {1, 0, 2, 3};
        for (int i = 0; i < 4; i++) {
            due.is("place " + i, want[i], x.order(i));
        }
        BenchTimes y = Due.withJobs(3);
        // 0 is LOOSER than 1: 1, -1, 0.
        for (int worker = 0; worker < 5; worker++) {
            y.work(0, worker, 50000, 10);
            y.work(0, 10 + worker, 40000, 10);
        }
        y.work(0, 20, 1000, 10);
        int[] three = {0, 2, 1};
        for (int i = 0; i < 3; i++) {
            due.is("place " + i + " of three", three[i], y.order(i));
        }
    }

    private static void slowOfWhat() {
        due.by("1 a WORKER is SLOW for the watch on a JOB, else 0. BEYOND.");
        due.range("worker", 0, 7, v -> withRow().slow(v, 0));
        due.range("job of two", 0, 1, v -> withRow().slow(0, v));
        due.range("job of eight", 0, 7, v -> Due.withJobs(8).slow(0, v));
        due.is("no JOB", Due.BEYOND, new BenchTimes().slow(0, 0));
    }

    /** WORKER 0 on JOB 0 with such MINUTES (below 0: WATCHED) for 10 GOOD pieces each. */
    private static BenchTimes rows(int... minutes) {
        BenchTimes x = Due.withJobs(2);
        for (int m : minutes) {
            x.work(0, 0, 10000, m);
        }
        return x;
    }

    private static void slowNone() {
        due.by("NONE: none of its rows, or all, are WATCHED.");
        due.is("no rows", Due.NONE, rows().slow(0, 0));
        due.is("one, not WATCHED", Due.NONE, rows(10).slow(0, 0));
        due.is("one, WATCHED", Due.NONE, rows(-10).slow(0, 0));
        due.is("none of three", Due.NONE, rows(10, 11, 12).slow(0, 0));
        due.is("all of three", Due.NONE, rows(-10, -11, -12).slow(0, 0));
        due.is("one of two", 0, rows(10, -11).slow(0, 0));
        BenchTimes x = rows(10, 11);
        x.work(0, 1, 10000, -10);
        x.work(0, 10, 10000, -10);
        due.is("WATCHED ones of another, or on another JOB", Due.NONE, x.slow(0, 0));
        due.is("BEYOND is asked first", Due.BEYOND, x.slow(8, 0));
    }

    private static void rowsWithAGoodPiece() {
        due.by("rows with a GOOD piece or more");
        BenchTimes x = rows(10, 10, 10);
        x.work(0, 0, 999, -3000);
        due.is("the WATCHED one has none", Due.NONE, x.slow(0, 0));
        x.work(0, 0, 1000, -3000);
        due.is("the WATCHED one has one", 0, x.slow(0, 0));
        BenchTimes y = rows(-10, -10, -10);
        y.work(0, 0, 0, 10);
        due.is("all with a GOOD piece are WATCHED", Due.NONE, y.slow(0, 0));
        BenchTimes z = rows(10, 11, 12, -13, -14, -15);
        for (int i = 0; i < 20; i++) {
            z.work(0, 0, 0, i % 2 == 0 ? 3000 : -1);
        }
        due.is("rows without one change nothing", 1, z.slow(0, 0));
    }

    private static void fourteenAtMost() {
        due.by("14 at most (the first ones)");
        int[] thirteen = new int[13];
        java.util.Arrays.fill(thirteen, 10);
        BenchTimes x = rows(thirteen);
        x.work(0, 0, 10000, -20);
        due.is("the fourteenth is one of them", 0, x.slow(0, 0));
        BenchTimes y = rows(thirteen);
        y.work(0, 0, 10000, 10);
        y.work(0, 0, 10000, -20);
        due.is("the fifteenth isn't", Due.NONE, y.slow(0, 0));
        BenchTimes z = rows(1, 2, 3, 4, 5, 6, 7, 8, 9, 10, 11, -12, -13, -14);
        due.is("three of fourteen", 1, z.slow(0, 0));
        for (int i = 0; i < 10; i++) {
            z.work(0, 0, 10000, 3000);
        }
        due.is("those behind them change nothing", 1, z.slow(0, 0));
        BenchTimes w = Due.withJobs(2);
        for (int i = 0; i < 20; i++) {
            w.work(0, 0, 0, -10);
            w.work(0, 1, 1000, -10);
            w.work(0, 10, 1000, -10);
        }
        int[] minutes = {10, 11, 12, -13, -14, -15};
        for (int m : minutes) {
            w.work(0, 0, 10000, m);
        }
        due.is("the first ones that have a GOOD piece, of its own", 1, w.slow(0, 0));
    }

    private static void oneOrMoreBelowN() {
        due.by("With n such rows of which m are WATCHED (1 or more, below n)");
        due.is("1 of 2", 0, rows(10, -20).slow(0, 0));
        due.is("1 of 14", 0, rows(1, 1, 1, 1, 1, 1, 1, 1, 1, 1, 1, 1, 1, -3000).slow(0, 0));
        due.is("13 of 14", 0, rows(1, -2, -2, -2, -2, -2, -2, -2, -2, -2, -2, -2, -2, -2).slow(0, 0));
        due.is("2 of 14", 1, rows(1, 1, 1, 1, 1, 1, 1, 1, 1, 1, 1, 1, -2, -2).slow(0, 0));
        due.is("12 of 14", 1, rows(1, 1, -2, -2, -2, -2, -2, -2, -2, -2, -2, -2, -2, -2).slow(0, 0));
        due.is("7 of 14", 1, rows(1, 1, 1, 1, 1, 1, 1, -2, -2, -2, -2, -2, -2, -2).slow(0, 0));
        due.is("none of 14", Due.NONE, rows(1, 1, 1, 1, 1, 1, 1, 1, 1, 1, 1, 1, 1, 1).slow(0, 0));
    }

    private static void atMostATwentiethOfTheWays() {
        due.by("those whose RANKS together are as great as that of the WATCHED ones, or greater, are at most a twentieth");
        due.is("1 of 20", 1, rows(1, 2, 3, -4, -5, -6).slow(0, 0));
        due.is("2 of 20", 0, rows(1, 2, -3, 4, -5, -6).slow(0, 0));
        due.is("1 of 15", 0, rows(1, 2, 3, 4, -5, -6).slow(0, 0));
        due.is("1 of 21", 1, rows(1, 2, 3, 4, 5, -6, -7).slow(0, 0));
        due.is("2 of 21", 0, rows(1, 2, 3, 4, -5, 6, -7).slow(0, 0));
        due.is("1 of 35", 1, rows(1, 2, 3, 4, -5, -6, -7).slow(0, 0));
        due.is("2 of 35", 0, rows(1, 2, 3, -4, 5, -6, -7).slow(0, 0));
        due.is("2 of 56", 1, rows(1, 2, 3, 4, -5, 6, -7, -8).slow(0, 0));
        due.is("4 of 56", 0, rows(1, 2, 3, 4, -5, -6, 7, -8).slow(0, 0));
        due.is("4 of 78", 0, rows(1, 2, 3, 4, 5, 6, 7, 8, 9, 10, -11, -12, 13).slow(0, 0));
        due.is("2 of 78", 1, rows(1, 2, 3, 4, 5, 6, 7, 8, 9, 10, -11, 12, -13).slow(0, 0));
        due.is("1 of 20, WATCHED first", 1, rows(-6, -5, -4, 3, 2, 1).slow(0, 0));
        due.is("the quickest are WATCHED", 0, rows(-1, -2, -3, 4, 5, 6).slow(0, 0));
    }

    private static void asGreatOrGreater() {
        due.by("as great as that of the WATCHED ones, or greater");
        // RANKS 0 2 4 7 7 10 12: none is greater than 7 10 12, but there are two of these.
        due.is("2 of 35 are as great", 0, rows(1, 2, 3, -5, 5, -6, -7).slow(0, 0));
        due.is("2 of 56 are as great", 1, rows(1, 2, 3, 4, -5, 5, -6, -7).slow(0, 0));
        // RANKS 0 2 4 6 9 9 12: 9 9 12 is the greatest, and there are two of 6 9 12.
        due.is("1 of 35", 1, rows(1, 2, 3, 4, -5, -5, -6).slow(0, 0));
        due.is("3 of 35", 0, rows(1, 2, 3, -4, -5, 5, -6).slow(0, 0));
    }

    private static void paceIsCut() {
        due.by("PACE of each is MINUTES times 100 by GOOD");
        BenchTimes x = Due.withJobs(1);
        BenchTimes y = Due.withJobs(1);
        for (int i = 0; i < 3; i++) {
            // 10 by 999, and 19 by 999, are 1.0 and 1.9; 20 by 999 is 2.0.
            x.work(0, 0, 999000, 10);
            x.work(0, 0, 999000, -19);
            y.work(0, 0, 999000, 19);
            y.work(0, 0, 999000, -20);
        }
        due.is("1 and 1", 0, x.slow(0, 0));
        due.is("1 and 2", 1, y.slow(0, 0));
        BenchTimes z = Due.withJobs(1);
        for (int i = 0; i < 3; i++) {
            z.work(0, 0, 999000, 1);
            z.work(0, 0, 999000, -9);
        }
        due.is("0 and 0", 0, z.slow(0, 0));
        int[][] byGood = {{100, 1}, {101, 0}};
        for (int[] row : byGood) {
            BenchTimes w = Due.withJobs(1);
            for (int i = 0; i < 3; i++) {
                w.work(0, 0, 200000, 1);
                w.work(0, 0, 1000 * row[0], -1);
            }
            due.is("100 by 200 is 0, by " + row[0] + " is " + row[1], row[1], w.slow(0, 0));
        }
    }

    private static void ranksOfTheSamePace() {
        due.by("RANK of a row: twice how many have a lesser PACE, and how many others the same.");
        due.is("all the same", 0, rows(5, 5, 5, -5, -5, -5).slow(0, 0));
        due.is("two PACES", 1, rows(5, 5, 5, -6, -6, -6).slow(0, 0));
        // RANKS 3 3 3 3 9 9: of 20 ways 4 have both 9; then 1 1 7 7 7 7: of 20 ways 4 have three 7.
        due.is("one WATCHED is like the others", 0, rows(5, 5, 5, -5, -6, -6).slow(0, 0));
        due.is("one of the others is like the WATCHED", 0, rows(5, 5, 6, -6, -6, -6).slow(0, 0));
        // RANKS 2 2 2 6 8 10 13 13: 40 is reached by 3 ways; with once the lesser ones it would be by 6.
        due.is("twice the lesser, 3 of 70", 1, rows(1, 1, 1, -2, -3, 4, -5, -5).slow(0, 0));
        due.is("twice the lesser, 4 of 70", 0, rows(1, 1, 2, -3, -3, 4, -5, -5).slow(0, 0));
        // RANKS 1 1 4 7 7 10 13 13: 40 is reached by 4 ways; without the same ones it would be by 3.
        due.is("and the same, 4 of 70", 0, rows(1, 1, -2, 3, 3, -4, -5, -5).slow(0, 0));
        due.is("and the same, 3 of 70", 1, rows(1, 1, -2, 3, 4, -5, -5, -5).slow(0, 0));
    }

    private static void oneLessIsLess() {
        due.by("as great as that of the WATCHED ones, or greater");
        // RANKS 1 1 4 7 7 11 11 14: 40 is reached by 3 ways, 39 by 5.
        due.is("3 of 70", 1, rows(1, 1, -2, 3, 3, -4, -4, -5).slow(0, 0));
    }

    private static void reckonedAnewEachTime() {
        due.by("of all ways to choose m rows of n");
        BenchTimes x = rows(1, 2, 3, 4, 5, 6, 7, -8, -9, -10, -11, -12, -13, -14);
        int[] minutes = {1, 2, 3, -4, -5, -6};
        for (int m : minutes) {
            x.work(0, 1, 10000, m);
            x.work(0, 2, 10000, -m);
        }
        for (int again = 0; again < 3; again++) {
            due.is("7 of 14", 1, x.slow(0, 0));
            due.is("3 of 6", 1, x.slow(1, 0));
            due.is("3 of 6, the other ones", 0, x.slow(2, 0));
        }
    }

    private static void theGreatestPaces() {
        due.by("PACE of each is MINUTES times 100 by GOOD");
        BenchTimes x = Due.withJobs(1);
        for (int i = 0; i < 3; i++) {
            x.work(0, 0, 1000, 2999);
            x.work(0, 0, 1000, -3000);
        }
        due.is("299900 and 300000", 1, x.slow(0, 0));
    }
}
