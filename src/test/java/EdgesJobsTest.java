/** Every sentence of promises 10 to 17, and of the terms that they go by, that names an edge. */
public final class EdgesJobsTest {
    private static final Due due = new Due();

    public static void main(String[] args) {
        jobsAtMost();
        partsOfWhat();
        howOften();
        elementIsInAJobOnce();
        noPartBehindARate();
        partsAtMost();
        sixPartsAndTheNextJob();
        partsFindingsInOrder();
        setOfWhat();
        setOnce();
        setNeedsParts();
        setNeedsCycles();
        setsFindingsInOrder();
        setFromTheWeekOn();
        rateIsTheSum();
        changeOfWhat();
        changeOfHowManyJobs();
        markedSinceTheLatestRate();
        moveOfWhat();
        moveNeedsARate();
        moveNeedsAMark();
        shareOrMore();
        shareCountsHowOften();
        shareOfTheLatestRate();
        shareOfZero();
        moveIsNeverNone();
        movesFindingsInOrder();
        othersAsInTheLatestRate();
        keepWeeksOn();
        notAheadOfTheLatest();
        theOneMadeLast();
        ratesAtMost();
        rateOfWhat();
        rateNone();
        worthOfWhat();
        worthNone();
        weeksOfWhat();
        theWeekNeverFalls();
        due.end();
    }

    /** ELEMENTS with STANDARDS as told, all of them PARTS of JOB 0, once each; BASE and MORE are 0. */
    private static BenchTimes withParts(int... standards) {
        BenchTimes x = new BenchTimes();
        x.allow(0, 0);
        x.job();
        for (int i = 0; i < standards.length; i++) {
            x.element(0);
            x.cycle(i, 0, 100, standards[i]);
            x.part(0, i, 1);
        }
        return x;
    }

    /** As withParts, with a RATE. */
    private static BenchTimes withRateOf(int... standards) {
        BenchTimes x = withParts(standards);
        x.set(0);
        return x;
    }

    /** Forty RATES, all of JOB 0. */
    private static BenchTimes withFortyRates() {
        BenchTimes x = Due.withJobs(1);
        for (int rates = 1; rates < 40; rates++) {
            x.change(0);
            x.move(0);
        }
        return x;
    }

    private static void jobsAtMost() {
        due.by("JOBS 0, 1, .. (at most 8)");
        BenchTimes x = new BenchTimes();
        for (int i = 0; i < 8; i++) {
            due.is("job", i, x.job());
        }
        due.is("the ninth", Due.FULL, x.job());
        due.is("once more", Due.FULL, x.job());
        due.is("they stay eight", 8, x.count(3));
        due.is("the eighth is there", Due.STATE, x.set(7));
        due.is("there is no ninth", Due.BEYOND, x.set(8));
    }

    private static void partsOfWhat() {
        due.by("BEYOND: there is no such JOB, ELEMENT, or often.");
        due.is("no JOB", Due.BEYOND, part(0, 2, 0, 0, 1));
        due.is("no ELEMENT", Due.BEYOND, part(2, 0, 0, 0, 1));
        due.range("job of one", 0, 0, v -> part(1, 2, v, 0, 1));
        due.range("job of eight", 0, 7, v -> part(8, 2, v, 0, 1));
        due.range("element of one", 0, 0, v -> part(2, 1, 0, v, 1));
        due.range("element of twelve", 0, 11, v -> part(2, 12, 0, v, 1));
    }

    private static int part(int jobs, int elements, int job, int element, int often) {
        BenchTimes x = new BenchTimes();
        for (int i = 0; i < jobs; i++) {
            x.job();
        }
        for (int i = 0; i < elements; i++) {
            x.element(0);
        }
        return x.part(job, element, often);
    }

    private static void howOften() {
        due.by("an ELEMENT and how often it is in one piece (1 .. 9)");
        due.range("often", 1, 9, v -> part(1, 1, 0, 0, v));
        for (int often = 1; often <= 9; often += 8) {
            BenchTimes x = new BenchTimes();
            x.element(0);
            x.cycle(0, 0, 100, 100);
            x.job();
            x.part(0, 0, often);
            due.is(often + " times", 110 * often, x.set(0));
        }
    }

    private static void elementIsInAJobOnce() {
        due.by("an ELEMENT is in a JOB once");
        BenchTimes x = withParts(100, 200);
        due.is("the first one again", Due.STATE, x.part(0, 0, 2));
        due.is("the last one again", Due.STATE, x.part(0, 1, 1));
        due.is("neither came", 300, x.set(0));
        x.job();
        due.is("in another JOB", 1, x.part(1, 0, 1));
    }

    private static void noPartBehindARate() {
        due.by("STATE: it has that ELEMENT, or a RATE.");
        BenchTimes x = withRateOf(100);
        x.element(0);
        due.is("a new ELEMENT", Due.STATE, x.part(0, 1, 1));
        due.is("its own ELEMENT", Due.STATE, x.part(0, 0, 1));
        due.is("it has no other PART", Due.BEYOND, x.worth(0, 0, 1));
        BenchTimes y = withParts(100);
        y.element(0);
        y.part(0, 1, 1);
        due.is("no RATE as yet", Due.NONE, y.set(0));
        y.element(0);
        due.is("set() made none", 3, y.part(0, 2, 1));
    }

    private static void partsAtMost() {
        due.by("each a row of PARTS (at most 6)");
        BenchTimes x = withParts(1, 2, 3, 4, 5, 6);
        x.element(0);
        x.cycle(6, 0, 100, 7);
        due.is("the seventh", Due.FULL, x.part(0, 6, 1));
        due.is("once more", Due.FULL, x.part(0, 6, 9));
        due.is("the RATE of six", 21, x.set(0));
        due.is("the sixth", 6, x.worth(0, 0, 5));
        due.is("there is no seventh", Due.BEYOND, x.worth(0, 0, 6));
        x.job();
        due.is("another JOB has room", 1, x.part(1, 6, 1));
    }

    private static void sixPartsAndTheNextJob() {
        due.by("each a row of PARTS (at most 6)");
        BenchTimes x = withRateOf(1, 2, 3, 4, 5, 6);
        x.element(0);
        x.cycle(6, 0, 100, 7);
        x.job();
        x.part(1, 6, 1);
        due.is("the next JOB's RATE", 7, x.set(1));
        x.change(6);
        due.is("the next JOB's MARK is none of six", Due.STATE, x.move(0));
        for (int i = 0; i < 6; i++) {
            x.change(i);
        }
        x.element(0);
        x.job();
        x.part(2, 7, 1);
        due.is("six are MOVED", 21, x.move(0));
        due.is("the next JOB's MARK stays", 7, x.move(1));
        due.is("one without CYCLES", Due.NONE, x.set(2));
        BenchTimes y = withParts(1, 2, 3, 4, 5, 6);
        y.element(0);
        y.job();
        y.part(1, 6, 1);
        due.is("the next JOB's ELEMENT without CYCLES is none of six", 21, y.set(0));
    }

    private static void partsFindingsInOrder() {
        due.by("STATE: it has that ELEMENT, or a RATE. FULL.");
        BenchTimes x = withParts(1, 2, 3, 4, 5, 6);
        x.element(0);
        due.is("often 10, and there, and full", Due.BEYOND, x.part(0, 0, 10));
        due.is("there, and full", Due.STATE, x.part(0, 0, 1));
        due.is("full", Due.FULL, x.part(0, 6, 1));
        x.set(0);
        due.is("often 0, and a RATE, and full", Due.BEYOND, x.part(0, 6, 0));
        due.is("a RATE, and full", Due.STATE, x.part(0, 6, 1));
    }

    private static void setOfWhat() {
        due.by("A RATE is SET: it. BEYOND.");
        due.is("no JOB", Due.BEYOND, new BenchTimes().set(0));
        due.range("job of one", 0, 0, v -> withParts(100).set(v));
        due.range("job of eight", 0, 7, v -> Due.withJobs(8).set(v));
    }

    private static void setOnce() {
        due.by("STATE: it has one, or no PARTS.");
        BenchTimes x = withParts(100);
        due.is("first", 100, x.set(0));
        due.is("then it has one", Due.STATE, x.set(0));
        x.week(500);
        due.is("in a later WEEK, too", Due.STATE, x.set(0));
        due.is("one RATE", 1, x.count(4));
        due.is("from its WEEK on", 100, x.rate(0, 0));
    }

    private static void setNeedsParts() {
        due.by("STATE: it has one, or no PARTS.");
        BenchTimes x = new BenchTimes();
        x.job();
        due.is("no PARTS", Due.STATE, x.set(0));
        BenchTimes y = withRateOf(100);
        y.job();
        due.is("another JOB has some", Due.STATE, y.set(1));
        y.part(1, 0, 2);
        due.is("now it has one", 200, y.set(1));
    }

    private static void setNeedsCycles() {
        due.by("NONE: an ELEMENT has no CYCLES.");
        for (int without = 0; without < 3; without++) {
            BenchTimes x = new BenchTimes();
            x.allow(0, 0);
            x.job();
            for (int i = 0; i < 3; i++) {
                x.element(0);
                x.part(0, i, 1);
                if (i != without) {
                    x.cycle(i, 0, 100, 10);
                }
            }
            due.is("without those of " + without, Due.NONE, x.set(0));
            due.is("no RATE", 0, x.count(4));
            x.cycle(without, 0, 100, 10);
            due.is("with them", 30, x.set(0));
        }
    }

    private static void setsFindingsInOrder() {
        due.by("STATE: it has one, or no PARTS. NONE: an ELEMENT has no CYCLES. FULL.");
        BenchTimes x = withFortyRates();
        x.job();
        due.is("no JOB, and full", Due.BEYOND, x.set(2));
        due.is("it has one, and full", Due.STATE, x.set(0));
        due.is("no PARTS, and full", Due.STATE, x.set(1));
        x.element(0);
        x.part(1, 1, 1);
        due.is("no CYCLES, and full", Due.NONE, x.set(1));
        x.cycle(1, 0, 100, 10);
        due.is("full", Due.FULL, x.set(1));
        due.is("it has none still", Due.NONE, x.rate(1, 500));
    }

    private static void setFromTheWeekOn() {
        due.by("WORTHS are STANDARDS; it is IN FORCE from the WEEK on");
        for (int week = 0; week <= 500; week += 250) {
            BenchTimes x = withParts(100);
            x.week(week);
            due.is("set", 100, x.set(0));
            due.is("in that WEEK", 100, x.rate(0, week));
            due.is("in the last WEEK", 100, x.rate(0, 500));
            if (week > 0) {
                due.is("in the one ahead", Due.NONE, x.rate(0, week - 1));
            }
        }
    }

    private static void rateIsTheSum() {
        due.by("the RATE is their sum, each times how often");
        BenchTimes x = new BenchTimes();
        x.allow(50, 50);
        x.film(0, 150, 50);
        x.job();
        for (int i = 0; i < 6; i++) {
            x.element(2);
            x.cycle(i, 0, 150, 999);
            x.part(0, i, 9);
        }
        due.is("the greatest", 6 * 9 * 7491, x.set(0));
        BenchTimes y = new BenchTimes();
        y.element(0);
        y.cycle(0, 0, 50, 1);
        y.job();
        y.part(0, 0, 1);
        due.is("the least", 0, y.set(0));
        due.is("it is one", 1, y.count(4));
        due.is("it is IN FORCE", 0, y.rate(0, 0));
        due.is("its WORTH", 0, y.worth(0, 0, 0));
    }

    private static void changeOfWhat() {
        due.by("of how many JOBS with a RATE it is a PART. BEYOND.");
        due.is("no ELEMENT", Due.BEYOND, new BenchTimes().change(0));
        due.range("element of one", 0, 0, v -> Due.withJobs(1).change(v));
        due.range("element of eight", 0, 7, v -> Due.withJobs(8).change(v));
    }

    private static void changeOfHowManyJobs() {
        due.by("An ELEMENT is told CHANGED: of how many JOBS with a RATE it is a PART.");
        BenchTimes x = new BenchTimes();
        x.element(0);
        x.element(0);
        x.cycle(0, 0, 100, 100);
        due.is("without JOBS", 0, x.change(0));
        for (int job = 0; job < 8; job++) {
            x.job();
            due.is("JOBS with a RATE", job, x.change(0));
            x.part(job, 0, 1);
            due.is("one more without a RATE", job, x.change(0));
            x.set(job);
            due.is("it has one", job + 1, x.change(0));
            due.is("told again", job + 1, x.change(0));
        }
        due.is("a PART of none", 0, x.change(1));
    }

    private static void markedSinceTheLatestRate() {
        due.by("if it was told CHANGED since the JOB's latest RATE was made");
        BenchTimes x = withParts(100);
        x.change(0);
        x.set(0);
        due.is("told ahead of it", Due.STATE, x.move(0));
        x.change(0);
        x.change(0);
        due.is("told behind it, twice", 100, x.move(0));
        due.is("told ahead of the latest", Due.STATE, x.move(0));
        x.job();
        x.part(1, 0, 1);
        x.change(0);
        due.is("marked of the one", 100, x.set(1));
        due.is("not of the other, which is younger", Due.STATE, x.move(1));
        due.is("marked of the one", 100, x.move(0));
        x.change(0);
        due.is("marked of both", 100, x.move(1));
        due.is("a move of one takes no mark of the other", 100, x.move(0));
    }

    private static void moveOfWhat() {
        due.by("A RATE is MOVED: the new one. BEYOND.");
        due.is("no JOB", Due.BEYOND, new BenchTimes().move(0));
        due.range("job of one", 0, 0, v -> Due.withJobs(1).move(v));
        due.range("job of eight", 0, 7, v -> Due.withJobs(8).move(v));
    }

    private static void moveNeedsARate() {
        due.by("STATE: it has none, or nothing of it is MARKED, or their SHARE is less.");
        BenchTimes x = new BenchTimes();
        x.job();
        due.is("without PARTS", Due.STATE, x.move(0));
        BenchTimes y = withParts(100);
        y.change(0);
        due.is("without a RATE", Due.STATE, y.move(0));
        due.is("none came", 0, y.count(4));
    }

    private static void moveNeedsAMark() {
        due.by("STATE: it has none, or nothing of it is MARKED, or their SHARE is less.");
        BenchTimes x = withRateOf(100);
        due.reads(x, "share 0;", 1);
        due.is("nothing is MARKED, and SHARE is 0", Due.STATE, x.move(0));
        x.element(0);
        x.change(1);
        due.is("another ELEMENT is told", Due.STATE, x.move(0));
        x.change(0);
        due.is("its own ELEMENT is told", 100, x.move(0));
        due.is("it is MARKED no more", Due.STATE, x.move(0));
    }

    /** What move() answers when the first of two ELEMENTS is MARKED. */
    private static int movedBy(int share, int marked, int other) {
        BenchTimes x = withRateOf(marked, other);
        Due.feed(x, "share " + share + ";");
        x.read();
        x.change(0);
        return x.move(0);
    }

    private static void shareOrMore() {
        due.by("are SHARE hundredths of it or more");
        due.is("9 of 100", Due.STATE, movedBy(10, 9, 91));
        due.is("10 of 100", 100, movedBy(10, 10, 90));
        due.is("11 of 100", 100, movedBy(10, 11, 89));
        due.is("10 of 101", Due.STATE, movedBy(10, 10, 91));
        due.is("11 of 101", 101, movedBy(10, 11, 90));
        due.is("1 of 100", 100, movedBy(1, 1, 99));
        due.is("1 of 101", Due.STATE, movedBy(1, 1, 100));
        due.is("1 of 1000 by 0", 1000, movedBy(0, 1, 999));
        due.is("999 of 1000 by 100", Due.STATE, movedBy(100, 999, 1));
        due.is("999 of 1000 by 99", 1000, movedBy(99, 999, 1));
        BenchTimes x = withRateOf(10, 90);
        x.change(0);
        due.is("10 hundredths at first", 100, x.move(0));
        BenchTimes y = withRateOf(9, 90);
        y.change(0);
        due.is("9 of 99 are less", Due.STATE, y.move(0));
        y.change(1);
        due.is("the MARK stays: all of it", 99, y.move(0));
    }

    private static void shareCountsHowOften() {
        due.by("the WORTHS of MARKED ones in the latest RATE, each times how often");
        BenchTimes x = new BenchTimes();
        x.allow(0, 0);
        x.element(0);
        x.element(0);
        x.cycle(0, 0, 100, 10);
        x.cycle(1, 0, 100, 10);
        x.job();
        x.part(0, 0, 9);
        x.part(0, 1, 1);
        x.set(0);
        due.reads(x, "share 90;", 1);
        x.change(1);
        due.is("1 of 10", Due.STATE, x.move(0));
        due.reads(x, "share 91;", 1);
        x.change(0);
        due.is("10 of 10", 100, x.move(0));
        x.change(0);
        due.is("9 of 10", Due.STATE, x.move(0));
        due.reads(x, "share 90;", 1);
        due.is("9 of 10", 100, x.move(0));
    }

    private static void shareOfTheLatestRate() {
        due.by("the WORTHS of MARKED ones in the latest RATE, each times how often");
        BenchTimes x = withRateOf(10, 90);
        due.reads(x, "share 10;", 1);
        x.allow(50, 0);
        x.change(1);
        due.is("10 and 135", 145, x.move(0));
        x.change(0);
        due.is("10 of 145, though 10 of 100 are IN FORCE", Due.STATE, x.move(0));
        due.reads(x, "share 6;", 1);
        due.is("10 of 145 are 6 hundredths", 150, x.move(0));
    }

    private static void shareOfZero() {
        due.by("are SHARE hundredths of it or more");
        BenchTimes x = new BenchTimes();
        x.element(0);
        x.cycle(0, 0, 50, 1);
        x.job();
        x.part(0, 0, 1);
        x.set(0);
        due.reads(x, "share 100;", 1);
        x.change(0);
        due.is("0 of 0", 0, x.move(0));
        due.is("two RATES", 2, x.count(4));
    }

    /** CYCLES never go, and a PART of a RATE had some when that was SET. */
    private static void moveIsNeverNone() {
        due.by("NONE: a MARKED ELEMENT has no CYCLES.");
        BenchTimes x = withParts(100);
        x.element(0);
        x.part(0, 1, 1);
        x.change(1);
        due.is("no RATE comes without CYCLES", Due.NONE, x.set(0));
        due.is("so that there is none to move", Due.STATE, x.move(0));
        x.cycle(1, 0, 100, 100);
        x.set(0);
        x.change(1);
        due.is("with them there is one", 200, x.move(0));
    }

    private static void movesFindingsInOrder() {
        due.by("STATE: it has none, or nothing of it is MARKED, or their SHARE is less.");
        BenchTimes x = withFortyRates();
        x.job();
        due.is("no JOB, and full", Due.BEYOND, x.move(2));
        due.is("no RATE, and full", Due.STATE, x.move(1));
        due.is("no MARK, and full", Due.STATE, x.move(0));
        x.change(0);
        due.is("full", Due.FULL, x.move(0));
        BenchTimes y = withRateOf(1, 99);
        for (int rates = 1; rates < 40; rates++) {
            y.change(1);
            y.move(0);
        }
        y.change(0);
        due.is("too little a SHARE, and full", Due.STATE, y.move(0));
        y.change(1);
        due.is("full", Due.FULL, y.move(0));
    }

    private static void othersAsInTheLatestRate() {
        due.by("WORTHS of MARKED PARTS are STANDARDS (as they are now), of others as in the latest RATE");
        BenchTimes x = withRateOf(100, 100, 100);
        x.allow(10, 0);
        x.change(0);
        due.is("the first", 310, x.move(0));
        x.allow(20, 0);
        x.change(2);
        due.is("the last", 330, x.move(0));
        int[] worths = {110, 100, 120};
        for (int i = 0; i < 3; i++) {
            due.is("worth " + i, worths[i], x.worth(0, 4, i));
            due.is("worth " + i + " ahead", 100, x.worth(0, 3, i));
        }
        x.allow(30, 0);
        x.change(0);
        x.change(1);
        x.change(2);
        due.is("all", 390, x.move(0));
    }

    private static void keepWeeksOn() {
        due.by("it is IN FORCE KEEP WEEKS from the WEEK on");
        int[][] keeps = {{0, 0, 0}, {0, 4, 4}, {10, 0, 10}, {10, 1, 11}, {448, 52, 500}, {500, 0, 500}};
        for (int[] row : keeps) {
            BenchTimes x = withRateOf(100);
            due.reads(x, "keep " + row[1] + ";", 1);
            x.week(row[0]);
            x.change(0);
            x.allow(50, 0);
            x.move(0);
            due.is("from WEEK " + row[2] + " on", 150, x.rate(0, row[2]));
            if (row[2] > 0) {
                due.is("not in the WEEK ahead of " + row[2], 100, x.rate(0, row[2] - 1));
            }
        }
        BenchTimes x = withRateOf(100);
        x.week(497);
        x.change(0);
        x.allow(50, 0);
        due.is("from a WEEK that never comes", 150, x.move(0));
        due.is("the last WEEK", 100, x.rate(0, 500));
        due.is("its WORTH", 100, x.worth(0, 500, 0));
    }

    private static void notAheadOfTheLatest() {
        due.by("(but not ahead of the latest one)");
        int[][] second = {{0, 20}, {19, 20}, {20, 20}, {21, 21}};
        for (int[] row : second) {
            BenchTimes x = withRateOf(100);
            due.reads(x, "keep 20;", 1);
            x.change(0);
            x.allow(10, 0);
            x.move(0);
            due.reads(x, "keep " + row[0] + ";", 1);
            x.change(0);
            x.allow(20, 0);
            x.move(0);
            due.is("KEEP " + row[0], 120, x.rate(0, row[1]));
            due.is("KEEP " + row[0] + ", ahead", row[1] == 21 ? 110 : 100, x.rate(0, row[1] - 1));
        }
        BenchTimes y = Due.withJobs(2);
        due.reads(y, "keep 20;", 1);
        y.change(0);
        y.move(0);
        due.reads(y, "keep 0;", 1);
        y.change(1);
        y.allow(20, 0);
        y.move(1);
        due.is("the latest one of another JOB holds nothing", 120, y.rate(1, 0));
    }

    private static void theOneMadeLast() {
        due.by("the one that was made last of those that are from then or ahead");
        BenchTimes x = withRateOf(100);
        due.reads(x, "keep 0;", 1);
        for (int more = 1; more <= 3; more++) {
            x.change(0);
            x.allow(10 * more, 0);
            x.move(0);
            due.is("all are from WEEK 0 on", 100 + 10 * more, x.rate(0, 0));
        }
        x.week(7);
        x.change(0);
        x.allow(0, 0);
        x.move(0);
        due.is("WEEK 6", 130, x.rate(0, 6));
        due.is("WEEK 7", 100, x.rate(0, 7));
        due.is("WEEK 500", 100, x.rate(0, 500));
    }

    private static void ratesAtMost() {
        due.by("A RATE of a JOB (at most 40 of all)");
        BenchTimes x = Due.withJobs(8);
        for (int rates = 8; rates < 40; rates++) {
            x.change(rates % 8);
            due.is("move", 110, x.move(rates % 8));
        }
        due.is("forty", 40, x.count(4));
        x.change(7);
        x.allow(50, 0);
        due.is("one more", Due.FULL, x.move(7));
        due.is("the MARK stays", Due.FULL, x.move(7));
        due.is("its RATE stays", 110, x.rate(7, 500));
        due.is("they stay forty", 40, x.count(4));
        BenchTimes y = withFortyRates();
        due.is("forty of one JOB", 40, y.count(4));
        y.job();
        y.part(1, 0, 1);
        due.is("another one's first", Due.FULL, y.set(1));
    }

    private static void rateOfWhat() {
        due.by("RATE IN FORCE. BEYOND. NONE.");
        due.is("no JOB", Due.BEYOND, new BenchTimes().rate(0, 0));
        due.range("job of one", 0, 0, v -> Due.withJobs(1).rate(v, 0));
        due.range("job of eight", 0, 7, v -> Due.withJobs(8).rate(v, 0));
        due.range("week", 0, 500, v -> Due.withJobs(1).rate(0, v));
        due.range("week without a RATE", 0, 500, v -> withParts(100).rate(0, v));
    }

    private static void rateNone() {
        due.by("RATE IN FORCE. BEYOND. NONE.");
        BenchTimes x = withParts(100);
        x.job();
        due.is("without a RATE", Due.NONE, x.rate(0, 0));
        x.week(9);
        x.set(0);
        due.is("the WEEK ahead of it", Due.NONE, x.rate(0, 8));
        due.is("WEEK 0", Due.NONE, x.rate(0, 0));
        due.is("its WEEK", 100, x.rate(0, 9));
        due.is("of a JOB without PARTS", Due.NONE, x.rate(1, 9));
        due.is("no WEEK is asked first", Due.BEYOND, x.rate(1, 501));
    }

    private static void worthOfWhat() {
        due.by("BEYOND: there is no such JOB, WEEK, PART.");
        due.is("no JOB", Due.BEYOND, new BenchTimes().worth(0, 0, 0));
        due.range("job", 0, 1, v -> Due.withJobs(2).worth(v, 0, 0));
        due.range("week", 0, 500, v -> Due.withJobs(2).worth(0, v, 0));
        due.range("part of one", 0, 0, v -> withRateOf(1).worth(0, 0, v));
        due.range("part of six", 0, 5, v -> withRateOf(1, 2, 3, 4, 5, 6).worth(0, 0, v));
        due.range("part without a RATE", 0, 1, v -> withParts(1, 2).worth(0, 0, v));
        BenchTimes x = new BenchTimes();
        x.job();
        due.is("without PARTS", Due.BEYOND, x.worth(0, 0, 0));
        for (int i = 0; i < 6; i++) {
            due.is("part " + i, 1 + i, withRateOf(1, 2, 3, 4, 5, 6).worth(0, 500, i));
        }
    }

    private static void worthNone() {
        due.by("NONE: no RATE is.");
        BenchTimes x = withParts(100);
        due.is("without a RATE", Due.NONE, x.worth(0, 0, 0));
        x.week(3);
        x.set(0);
        due.is("the WEEK ahead of it", Due.NONE, x.worth(0, 2, 0));
        due.is("its WEEK", 100, x.worth(0, 3, 0));
        due.is("no PART is asked first", Due.BEYOND, x.worth(0, 2, 1));
    }

    private static void weeksOfWhat() {
        due.by("It is a WEEK: how many went by. BEYOND: it isn't one, or ahead of the WEEK.");
        due.range("week", 0, 500, v -> new BenchTimes().week(v));
        due.is("none went by", 0, new BenchTimes().week(0));
        due.is("all went by", 500, new BenchTimes().week(500));
    }

    private static void theWeekNeverFalls() {
        due.by("the WEEK is 0 at first and never falls");
        BenchTimes x = new BenchTimes();
        x.week(250);
        due.is("the one ahead", Due.BEYOND, x.week(249));
        due.is("WEEK 0", Due.BEYOND, x.week(0));
        due.is("it stays", 250, x.count(5));
        due.is("the same", 0, x.week(250));
        due.is("the next", 1, x.week(251));
        due.is("the last", 249, x.week(500));
        due.is("the last again", 0, x.week(500));
        due.is("no further one", Due.BEYOND, x.week(501));
        due.is("none ahead", Due.BEYOND, x.week(499));
        due.is("it stays", 500, x.count(5));
    }
}
