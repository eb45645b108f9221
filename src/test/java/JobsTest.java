/** Promises 10 to 17. */
public final class JobsTest {
    private static final Due due = new Due();

    public static void main(String[] args) {
        jobs();
        parts();
        partsAreAtMostSix();
        sixPartsStandByThemselves();
        sets();
        setTakesTheWeek();
        changes();
        moves();
        movesOnlyWhatIsMarked();
        shareIsExact();
        aShareOfNothing();
        latestIsNotOvertaken();
        movesFromTheLatest();
        ratesAreAtMostForty();
        rateAndWorthWrong();
        weeks();
        due.end();
    }

    private static void jobs() {
        BenchTimes x = new BenchTimes();
        for (int i = 0; i < 8; i++) {
            due.is("job", i, x.job());
        }
        due.is("job, full", Due.FULL, x.job());
        due.is("count", 8, x.count(3));
        due.is("found FULL", 1, x.found(4));
    }

    private static void parts() {
        BenchTimes x = new BenchTimes();
        x.element(0);
        x.element(0);
        due.is("no job", Due.BEYOND, x.part(0, 0, 1));
        x.job();
        due.is("job -1", Due.BEYOND, x.part(-1, 0, 1));
        due.is("job 1", Due.BEYOND, x.part(1, 0, 1));
        due.is("element -1", Due.BEYOND, x.part(0, -1, 1));
        due.is("element 2", Due.BEYOND, x.part(0, 2, 1));
        due.is("often 0", Due.BEYOND, x.part(0, 0, 0));
        due.is("often 10", Due.BEYOND, x.part(0, 0, 10));
        due.is("part", 1, x.part(0, 0, 9));
        due.is("it is there", Due.STATE, x.part(0, 0, 1));
        due.is("it is there, often 0", Due.BEYOND, x.part(0, 0, 0));
        x.cycle(0, 0, 100, 100);
        due.is("set", 990, x.set(0));
        due.is("it has a rate", Due.STATE, x.part(0, 1, 1));
        x.job();
        due.is("the same element in another job", 1, x.part(1, 0, 2));
        due.is("found STATE", 2, x.found(3));
    }

    private static void partsAreAtMostSix() {
        BenchTimes x = new BenchTimes();
        x.job();
        x.job();
        for (int i = 0; i < 7; i++) {
            x.element(0);
        }
        for (int i = 0; i < 6; i++) {
            due.is("part", i + 1, x.part(0, i, 1 + i));
        }
        due.is("part, full", Due.FULL, x.part(0, 6, 1));
        due.is("part, full and there", Due.STATE, x.part(0, 5, 1));
        due.is("part of the next job", 1, x.part(1, 6, 1));
        for (int i = 0; i < 6; i++) {
            x.cycle(i, 0, 100, 100 * (i + 1));
        }
        due.is("set", 110 * (1 + 4 + 9 + 16 + 25 + 36), x.set(0));
        due.is("the sixth", 660, x.worth(0, 0, 5));
        due.is("the seventh", Due.BEYOND, x.worth(0, 0, 6));
        due.is("the next job's element has no cycles", Due.NONE, x.set(1));
    }

    private static void sixPartsStandByThemselves() {
        BenchTimes x = new BenchTimes();
        x.job();
        x.job();
        for (int i = 0; i < 7; i++) {
            x.element(0);
            x.cycle(i, 0, 100, 100);
            x.part(i / 6, i, 1);
        }
        due.is("set", 660, x.set(0));
        due.is("nothing of it is marked", Due.STATE, x.move(0));
        due.is("set", 110, x.set(1));
        x.change(6);
        due.is("nothing of it is marked", Due.STATE, x.move(0));
        x.change(5);
        due.is("move", 660, x.move(0));
        due.is("move", 110, x.move(1));
    }

    private static void sets() {
        BenchTimes x = new BenchTimes();
        due.is("no job", Due.BEYOND, x.set(0));
        x.job();
        due.is("set(-1)", Due.BEYOND, x.set(-1));
        due.is("set(1)", Due.BEYOND, x.set(1));
        due.is("no parts", Due.STATE, x.set(0));
        x.element(0);
        x.element(1);
        x.part(0, 0, 2);
        x.part(0, 1, 3);
        due.is("no cycles", Due.NONE, x.set(0));
        x.cycle(0, 0, 100, 100);
        due.is("no cycles of one", Due.NONE, x.set(0));
        due.is("no rates", 0, x.count(4));
        due.is("no rate", Due.NONE, x.rate(0, 0));
        x.cycle(1, 0, 100, 100);
        due.is("set", 2 * 110 + 3 * 115, x.set(0));
        due.is("rates", 1, x.count(4));
        due.is("again", Due.STATE, x.set(0));
        due.is("worth", 110, x.worth(0, 0, 0));
        due.is("worth", 115, x.worth(0, 500, 1));
        x.allow(50, 0);
        x.cycle(0, 0, 100, 120);
        due.is("a rate stays", 565, x.rate(0, 0));
        due.is("a worth stays", 110, x.worth(0, 0, 0));
    }

    private static void setTakesTheWeek() {
        BenchTimes x = new BenchTimes();
        x.element(0);
        x.cycle(0, 0, 100, 100);
        x.job();
        x.part(0, 0, 1);
        x.week(7);
        due.is("set", 110, x.set(0));
        due.is("ahead of it", Due.NONE, x.rate(0, 6));
        due.is("worth ahead of it", Due.NONE, x.worth(0, 6, 0));
        due.is("from then on", 110, x.rate(0, 7));
        due.is("later", 110, x.rate(0, 500));
    }

    private static void changes() {
        BenchTimes x = new BenchTimes();
        due.is("no element", Due.BEYOND, x.change(0));
        for (int i = 0; i < 3; i++) {
            x.element(0);
            x.cycle(i, 0, 100, 100);
            x.job();
        }
        due.is("change(-1)", Due.BEYOND, x.change(-1));
        due.is("change(3)", Due.BEYOND, x.change(3));
        x.part(0, 0, 1);
        x.part(1, 0, 1);
        x.part(1, 1, 1);
        x.part(2, 0, 1);
        due.is("no job has a rate", 0, x.change(0));
        x.set(0);
        x.set(1);
        due.is("two of three have one", 2, x.change(0));
        due.is("one", 1, x.change(1));
        due.is("none", 0, x.change(2));
        x.set(2);
        due.is("told ahead of the rate", Due.STATE, x.move(2));
        due.is("told behind it", 110, x.move(0));
        due.is("told behind it", 220, x.move(1));
        due.is("marks are gone", Due.STATE, x.move(0));
        due.is("marks are gone", Due.STATE, x.move(1));
        due.is("three", 3, x.change(0));
    }

    private static void moves() {
        BenchTimes x = new BenchTimes();
        due.is("no job", Due.BEYOND, x.move(0));
        x.job();
        due.is("move(-1)", Due.BEYOND, x.move(-1));
        due.is("move(1)", Due.BEYOND, x.move(1));
        due.is("no rate", Due.STATE, x.move(0));
        x.element(0);
        x.part(0, 0, 1);
        x.cycle(0, 0, 100, 100);
        due.is("no rate", Due.STATE, x.move(0));
        x.set(0);
        due.is("nothing marked", Due.STATE, x.move(0));
        x.change(0);
        x.cycle(0, 0, 100, 80);
        x.week(3);
        due.is("move", 88 + 11, x.move(0));
        due.is("rates", 2, x.count(4));
        due.is("not yet", 110, x.rate(0, 6));
        due.is("KEEP weeks on", 99, x.rate(0, 7));
        due.is("worth not yet", 110, x.worth(0, 6, 0));
        due.is("worth", 99, x.worth(0, 7, 0));
        due.reads(x, "keep 0;", 1);
        x.change(0);
        x.allow(0, 0);
        x.week(8);
        due.is("move", 90, x.move(0));
        due.is("as it was", 99, x.rate(0, 7));
        due.is("at once", 90, x.rate(0, 8));
        due.reads(x, "keep 52;", 1);
        x.week(500);
        x.change(0);
        x.allow(50, 0);
        due.is("move", 135, x.move(0));
        due.is("no week is so late", 90, x.rate(0, 500));
        due.is("found STATE", 3, x.found(3));
    }

    private static void movesOnlyWhatIsMarked() {
        BenchTimes x = new BenchTimes();
        for (int i = 0; i < 3; i++) {
            x.element(0);
            x.cycle(i, 0, 100, 100);
        }
        x.job();
        x.part(0, 2, 2);
        x.part(0, 0, 1);
        x.part(0, 1, 1);
        due.is("set", 440, x.set(0));
        x.allow(20, 0);
        x.change(0);
        due.is("one of three", 220 + 120 + 110, x.move(0));
        due.is("worth 0", 110, x.worth(0, 4, 0));
        due.is("worth 1", 120, x.worth(0, 4, 1));
        due.is("worth 2", 110, x.worth(0, 4, 2));
        x.allow(30, 0);
        x.change(2);
        x.change(1);
        due.is("two of three", 260 + 120 + 130, x.move(0));
    }

    private static void shareIsExact() {
        BenchTimes x = new BenchTimes();
        x.allow(0, 0);
        x.element(0);
        x.element(0);
        x.cycle(0, 0, 100, 10);
        x.cycle(1, 0, 100, 91);
        x.job();
        x.part(0, 0, 1);
        x.part(0, 1, 1);
        due.is("set", 101, x.set(0));
        x.change(0);
        due.is("10 of 101 are less than 10 hundredths", Due.STATE, x.move(0));
        due.reads(x, "share 9;", 1);
        due.is("the mark is there still", 101, x.move(0));
        due.reads(x, "share 90;", 1);
        x.change(1);
        due.is("91 of 101 are 90 hundredths", 101, x.move(0));
        due.reads(x, "share 100;", 1);
        x.change(1);
        due.is("not all", Due.STATE, x.move(0));
        x.change(0);
        due.is("all", 101, x.move(0));
        due.reads(x, "share 0;", 1);
        due.is("nothing is marked", Due.STATE, x.move(0));
        BenchTimes y = new BenchTimes();
        y.allow(0, 0);
        y.element(0);
        y.element(0);
        y.cycle(0, 0, 100, 10);
        y.cycle(1, 0, 100, 10);
        y.job();
        y.part(0, 0, 1);
        y.part(0, 1, 9);
        y.set(0);
        y.change(0);
        due.is("10 of 100 are 10 hundredths", 100, y.move(0));
        due.reads(y, "share 90;", 1);
        y.change(1);
        due.is("9 times 10 of 100 are 90 hundredths", 100, y.move(0));
        due.reads(y, "share 91;", 1);
        y.change(1);
        due.is("but not 91", Due.STATE, y.move(0));
    }

    private static void aShareOfNothing() {
        BenchTimes x = new BenchTimes();
        x.element(0);
        x.element(0);
        x.cycle(0, 0, 50, 1);
        x.cycle(1, 0, 100, 100);
        x.job();
        x.job();
        x.part(0, 0, 9);
        due.is("a RATE of 0", 0, x.set(0));
        due.is("it is in force", 0, x.rate(0, 0));
        x.change(0);
        due.is("0 of 0 is enough", 0, x.move(0));
        x.part(1, 0, 1);
        x.part(1, 1, 1);
        x.set(1);
        x.change(0);
        due.is("0 of 110 is too little", Due.STATE, x.move(1));
        due.reads(x, "share 0;", 1);
        due.is("with a SHARE of 0 it is enough", 110, x.move(1));
    }

    private static void latestIsNotOvertaken() {
        BenchTimes x = new BenchTimes();
        x.allow(0, 0);
        x.element(0);
        x.cycle(0, 0, 100, 100);
        x.job();
        x.part(0, 0, 1);
        x.set(0);
        due.reads(x, "keep 20;", 1);
        x.change(0);
        x.allow(10, 0);
        due.is("from 20 on", 110, x.move(0));
        due.reads(x, "keep 5;", 1);
        x.change(0);
        x.allow(20, 0);
        due.is("from 20 on, too", 120, x.move(0));
        due.is("5", 100, x.rate(0, 5));
        due.is("19", 100, x.rate(0, 19));
        due.is("20: the one made last", 120, x.rate(0, 20));
        due.is("20: its worth", 120, x.worth(0, 20, 0));
        x.week(16);
        x.change(0);
        x.allow(30, 0);
        x.move(0);
        due.is("20", 120, x.rate(0, 20));
        due.is("21", 130, x.rate(0, 21));
    }

    private static void movesFromTheLatest() {
        BenchTimes x = new BenchTimes();
        x.allow(0, 0);
        x.element(0);
        x.element(0);
        x.cycle(0, 0, 100, 100);
        x.cycle(1, 0, 100, 100);
        x.job();
        x.part(0, 0, 1);
        x.part(0, 1, 1);
        x.set(0);
        x.change(0);
        x.allow(50, 0);
        due.is("not in force yet", 250, x.move(0));
        x.change(1);
        x.allow(20, 0);
        due.is("but the latest", 270, x.move(0));
        due.is("0", 200, x.rate(0, 0));
        due.is("4", 270, x.rate(0, 4));
    }

    private static void ratesAreAtMostForty() {
        BenchTimes x = Due.withJobs(2);
        x.element(0);
        x.job();
        x.part(2, 2, 1);
        for (int i = 2; i < 40; i++) {
            x.change(i % 2);
            due.is("move", 110, x.move(i % 2));
        }
        due.is("rates", 40, x.count(4));
        due.is("move, nothing marked", Due.STATE, x.move(0));
        x.change(0);
        due.is("move, full", Due.FULL, x.move(0));
        due.is("move, full again: the mark stays", Due.FULL, x.move(0));
        due.is("set, no cycles", Due.NONE, x.set(2));
        x.cycle(2, 0, 100, 100);
        due.is("set, full", Due.FULL, x.set(2));
        due.is("rates", 40, x.count(4));
        due.is("part, no rate", Due.STATE, x.part(2, 2, 1));
    }

    private static void rateAndWorthWrong() {
        BenchTimes x = Due.withJobs(1);
        x.job();
        x.part(1, 0, 1);
        due.is("rate(-1, 0)", Due.BEYOND, x.rate(-1, 0));
        due.is("rate(2, 0)", Due.BEYOND, x.rate(2, 0));
        due.is("rate(0, -1)", Due.BEYOND, x.rate(0, -1));
        due.is("rate(0, 501)", Due.BEYOND, x.rate(0, 501));
        due.is("rate(0, 500)", 110, x.rate(0, 500));
        due.is("rate(1, 0)", Due.NONE, x.rate(1, 0));
        due.is("worth(-1, 0, 0)", Due.BEYOND, x.worth(-1, 0, 0));
        due.is("worth(2, 0, 0)", Due.BEYOND, x.worth(2, 0, 0));
        due.is("worth(0, -1, 0)", Due.BEYOND, x.worth(0, -1, 0));
        due.is("worth(0, 501, 0)", Due.BEYOND, x.worth(0, 501, 0));
        due.is("worth(0, 0, -1)", Due.BEYOND, x.worth(0, 0, -1));
        due.is("worth(0, 0, 1)", Due.BEYOND, x.worth(0, 0, 1));
        due.is("worth(1, 0, 0)", Due.NONE, x.worth(1, 0, 0));
        due.is("worth(1, 0, 1)", Due.BEYOND, x.worth(1, 0, 1));
    }

    private static void weeks() {
        BenchTimes x = new BenchTimes();
        due.is("week(-1)", Due.BEYOND, x.week(-1));
        due.is("week(501)", Due.BEYOND, x.week(501));
        due.is("week(0)", 0, x.week(0));
        due.is("week(10)", 10, x.week(10));
        due.is("week(9)", Due.BEYOND, x.week(9));
        due.is("it stays", 10, x.count(5));
        due.is("week(10)", 0, x.week(10));
        due.is("week(500)", 490, x.week(500));
        due.is("it is", 500, x.count(5));
        due.is("week(0)", Due.BEYOND, x.week(0));
    }
}
