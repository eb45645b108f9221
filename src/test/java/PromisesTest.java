import java.util.function.IntSupplier;

/** The 35 promises in the document's order, each quoted whole: what it answers, and its findings one behind the other. */
public final class PromisesTest {
    private static final Due due = new Due();

    public static void main(String[] args) {
        aNewObject();
        element();
        as();
        allow();
        film();
        habit();
        cycle();
        normal();
        of();
        job();
        part();
        set();
        change();
        move();
        rate();
        worth();
        week();
        feed();
        read();
        rule();
        work();
        waiting();
        learner();
        earned();
        pay();
        cause();
        pool();
        efficiency();
        looser();
        order();
        slow();
        tell();
        check();
        count();
        found();
        due.end();
    }

    private static void times(int many, IntSupplier call) {
        for (int i = 0; i < many; i++) {
            call.getAsInt();
        }
    }

    private static void aNewObject() {
        due.by("`BenchTimes()`: No ELEMENTS, no JOBS; WEEK 0.");
        BenchTimes x = new BenchTimes();
        for (int what = 0; what <= 9; what++) {
            due.is("count(" + what + ")", 0, x.count(what));
        }
    }

    // ---- elements

    private static void element() {
        due.by("`int element(int kind)`: An ELEMENT: its number. BEYOND. FULL.");
        BenchTimes x = new BenchTimes();
        for (int i = 0; i < 12; i++) {
            due.is("no kind", Due.BEYOND, x.element(i % 2 == 0 ? 4 : -1));
            due.is("its number", i, x.element(i % 4));
        }
        due.is("no kind, and full", Due.BEYOND, x.element(4));
        due.is("full", Due.FULL, x.element(0));
    }

    private static void as() {
        due.by("`int as(int element, int kind)`: An ELEMENT as one of a kind: its ALLOWANCE. BEYOND: there is no such one, or "
                + "kind. KIND: it isn't of that kind, nor of one under it.");
        BenchTimes x = new BenchTimes();
        x.element(2);
        x.allow(8, 4);
        due.is("of a STRAIN", 20, x.as(0, 2));
        due.is("that of a STRAIN, though asked as a HANDLING", 20, x.as(0, 1));
        due.is("that of a STRAIN, though asked as an ELEMENT", 20, x.as(0, 0));
        due.is("no such one", Due.BEYOND, x.as(1, 0));
        due.is("no such kind", Due.BEYOND, x.as(0, 4));
        due.is("it isn't of that kind", Due.KIND, x.as(0, 3));
    }

    private static void allow() {
        due.by("`int allow(int base, int more)`: BASE and MORE: 1. BEYOND.");
        BenchTimes x = new BenchTimes();
        x.element(1);
        due.is("BASE and MORE", 1, x.allow(20, 30));
        due.is("20 and 30", 50, x.as(0, 1));
        due.is("no BASE", Due.BEYOND, x.allow(51, 1));
        due.is("no MORE", Due.BEYOND, x.allow(1, -1));
        due.is("as they were", 50, x.as(0, 1));
    }

    private static void film() {
        due.by("`int film(int rater, int is, int told)`: A FILM: how many. BEYOND. FULL.");
        BenchTimes x = new BenchTimes();
        for (int films = 1; films <= 20; films++) {
            due.is("how many, of all RATERS", films, x.film(films % 4, 80, 90));
        }
        due.is("no RATER, and full", Due.BEYOND, x.film(4, 80, 90));
        due.is("full", Due.FULL, x.film(3, 80, 90));
    }

    private static void habit() {
        due.by("`int habit(int rater)`: HABIT. BEYOND.");
        BenchTimes x = new BenchTimes();
        x.film(2, 80, 95);
        due.is("what it told more", 15, x.habit(2));
        due.is("no RATER", Due.BEYOND, x.habit(4));
        due.is("no RATER", Due.BEYOND, x.habit(-1));
    }

    private static void cycle() {
        due.by("`int cycle(int element, int rater, int pace, int time)`: A CYCLE: how many there are. BEYOND. FULL.");
        BenchTimes x = new BenchTimes();
        x.element(0);
        x.element(0);
        for (int cycles = 1; cycles <= 60; cycles++) {
            due.is("how many, of all ELEMENTS", cycles, x.cycle(cycles % 2, cycles % 4, 90 + cycles, 100 + cycles));
        }
        due.is("no TIME, and full", Due.BEYOND, x.cycle(0, 0, 100, 0));
        due.is("full", Due.FULL, x.cycle(0, 0, 100, 1));
        due.is("CYCLES of one", 30, x.of(0, 1));
    }

    private static void normal() {
        due.by("`int normal(int cycle)`: NORMAL of a CYCLE. BEYOND.");
        BenchTimes x = new BenchTimes();
        x.element(0);
        x.cycle(0, 0, 120, 300);
        x.cycle(0, 1, 80, 300);
        x.film(1, 100, 90);
        due.is("300 times 120", 360, x.normal(0));
        due.is("300 times 90", 270, x.normal(1));
        due.is("no CYCLE", Due.BEYOND, x.normal(2));
    }

    private static void of() {
        due.by("`int of(int element, int what)`: Of an ELEMENT: 0 KIND, 1 CYCLES, 2 KEPT ones, 3 LEVEL, 4 STANDARD, 5 the "
                + "least, 6 the greatest NORMAL that is KEPT. BEYOND: there is no such one, or another what. NONE (2 to 6): "
                + "it has no CYCLES.");
        BenchTimes x = new BenchTimes();
        x.element(3);
        int[] none = {3, 0, Due.NONE, Due.NONE, Due.NONE, Due.NONE, Due.NONE};
        for (int what = 0; what <= 6; what++) {
            due.is("without CYCLES, what " + what, none[what], x.of(0, what));
        }
        int[] times = {210, 180, 900, 201};
        for (int time : times) {
            x.cycle(0, 0, 100, time);
        }
        // 180 201 210: LEVEL 197; with 5 hundredths 206.85.
        int[] some = {3, 4, 3, 197, 207, 180, 210};
        for (int what = 0; what <= 6; what++) {
            due.is("what " + what, some[what], x.of(0, what));
        }
        due.is("no such one", Due.BEYOND, x.of(1, 0));
        due.is("another what", Due.BEYOND, x.of(0, 7));
        due.is("another what", Due.BEYOND, x.of(0, -1));
    }

    // ---- jobs and rates

    private static void job() {
        due.by("`int job()`: A JOB: its number. FULL.");
        BenchTimes x = new BenchTimes();
        for (int i = 0; i < 8; i++) {
            due.is("its number", i, x.job());
        }
        due.is("full", Due.FULL, x.job());
        due.is("they stay eight", 8, x.count(3));
    }

    private static void part() {
        due.by("`int part(int job, int element, int often)`: A PART comes to a JOB: how many it has. BEYOND: there is no such "
                + "JOB, ELEMENT, or often. STATE: it has that ELEMENT, or a RATE. FULL.");
        BenchTimes x = new BenchTimes();
        times(8, () -> x.element(0));
        x.job();
        x.job();
        for (int i = 0; i < 6; i++) {
            due.is("how many it has", i + 1, x.part(0, i, i + 1));
        }
        due.is("no JOB", Due.BEYOND, x.part(2, 6, 1));
        due.is("no ELEMENT", Due.BEYOND, x.part(0, 8, 1));
        due.is("no often, and full", Due.BEYOND, x.part(0, 6, 10));
        due.is("it has it, and full", Due.STATE, x.part(0, 5, 1));
        due.is("full", Due.FULL, x.part(0, 6, 1));
        due.is("of the other JOB", 1, x.part(1, 0, 1));
        x.cycle(0, 0, 100, 100);
        x.set(1);
        due.is("it has a RATE", Due.STATE, x.part(1, 1, 1));
    }

    private static void set() {
        due.by("`int set(int job)`: A RATE is SET: it. BEYOND. STATE: it has one, or no PARTS. NONE: an ELEMENT has no CYCLES. "
                + "FULL.");
        BenchTimes x = Due.withJobs(1);
        x.job();
        due.is("no JOB", Due.BEYOND, x.set(2));
        due.is("it has one", Due.STATE, x.set(0));
        due.is("no PARTS", Due.STATE, x.set(1));
        x.element(2);
        x.part(1, 0, 2);
        x.part(1, 1, 1);
        due.is("no CYCLES", Due.NONE, x.set(1));
        x.cycle(1, 0, 100, 40);
        due.is("220 and 50", 270, x.set(1));
        BenchTimes y = Due.withJobs(1);
        y.element(0);
        y.job();
        y.part(1, 1, 1);
        for (int rates = 1; rates < 40; rates++) {
            y.change(0);
            y.move(0);
        }
        due.is("no CYCLES, and full", Due.NONE, y.set(1));
        y.cycle(1, 0, 100, 40);
        due.is("full", Due.FULL, y.set(1));
        due.is("no RATE came", Due.NONE, y.rate(1, 500));
    }

    private static void change() {
        due.by("`int change(int element)`: An ELEMENT is told CHANGED: of how many JOBS with a RATE it is a PART. BEYOND.");
        BenchTimes x = Due.withJobs(3);
        x.job();
        x.part(3, 2, 1);
        x.part(3, 0, 1);
        due.is("of one with a RATE, and one without", 1, x.change(2));
        x.set(3);
        due.is("of two", 2, x.change(2));
        due.is("of one", 1, x.change(1));
        due.is("no ELEMENT", Due.BEYOND, x.change(3));
    }

    private static void move() {
        due.by("`int move(int job)`: A RATE is MOVED: the new one. BEYOND. STATE: it has none, or nothing of it is MARKED, or "
                + "their SHARE is less. NONE: a MARKED ELEMENT has no CYCLES. FULL.");
        BenchTimes x = Due.withJobs(2);
        x.job();
        x.element(0);
        x.cycle(2, 0, 100, 10);
        x.part(2, 0, 1);
        x.part(2, 2, 1);
        due.is("no JOB", Due.BEYOND, x.move(3));
        due.is("it has none", Due.STATE, x.move(2));
        x.set(2);
        due.is("nothing of it is MARKED", Due.STATE, x.move(2));
        x.change(2);
        due.is("11 of 121 are less than 10 hundredths", Due.STATE, x.move(2));
        x.allow(50, 0);
        x.change(0);
        due.is("150 and 15", 165, x.move(2));
        due.is("it is IN FORCE later", 121, x.rate(2, 3));
        due.is("it is IN FORCE", 165, x.rate(2, 4));
        for (int rates = 4; rates < 40; rates++) {
            x.change(1);
            due.is("150", 150, x.move(1));
        }
        due.is("MARKED, and full", Due.FULL, x.move(0));
        due.is("not MARKED, and full", Due.STATE, x.move(1));
    }

    private static void rate() {
        due.by("`int rate(int job, int week)`: RATE IN FORCE. BEYOND. NONE.");
        BenchTimes x = Due.withJobs(1);
        x.job();
        due.is("in any WEEK", 110, x.rate(0, 321));
        due.is("no JOB", Due.BEYOND, x.rate(2, 0));
        due.is("no WEEK", Due.BEYOND, x.rate(0, 501));
        due.is("no RATE", Due.NONE, x.rate(1, 321));
    }

    private static void worth() {
        due.by("`int worth(int job, int week, int i)`: WORTH of PART i (from 0 on) in the RATE IN FORCE. BEYOND: there is no such "
                + "JOB, WEEK, PART. NONE: no RATE is.");
        BenchTimes x = Due.withJobs(2);
        x.job();
        x.part(2, 1, 2);
        x.part(2, 0, 5);
        x.cycle(1, 0, 100, 120);
        x.week(6);
        due.is("no RATE", Due.NONE, x.worth(2, 6, 1));
        x.set(2);
        due.is("PART 0, which is ELEMENT 1", 121, x.worth(2, 6, 0));
        due.is("PART 1, which is ELEMENT 0", 110, x.worth(2, 6, 1));
        due.is("no PART", Due.BEYOND, x.worth(2, 6, 2));
        due.is("no PART", Due.BEYOND, x.worth(2, 6, -1));
        due.is("no WEEK", Due.BEYOND, x.worth(2, -1, 0));
        due.is("no JOB", Due.BEYOND, x.worth(3, 6, 0));
        due.is("no RATE then", Due.NONE, x.worth(2, 5, 0));
    }

    private static void week() {
        due.by("`int week(int week)`: It is a WEEK: how many went by. BEYOND: it isn't one, or ahead of the WEEK.");
        BenchTimes x = new BenchTimes();
        due.is("twelve went by", 12, x.week(12));
        due.is("thirty more", 30, x.week(42));
        due.is("it is WEEK 42", 42, x.count(5));
        due.is("ahead of the WEEK", Due.BEYOND, x.week(41));
        due.is("it isn't one", Due.BEYOND, x.week(501));
        due.is("it isn't one", Due.BEYOND, x.week(-1));
    }

    // ---- rules

    private static void feed() {
        due.by("`int feed(int b)`: A byte comes to THE TAPE: how many there are. BEYOND: it isn't 0 .. 255. FULL.");
        BenchTimes x = new BenchTimes();
        for (int bytes = 1; bytes <= 60; bytes++) {
            due.is("how many there are", bytes, x.feed(4 * bytes));
        }
        due.is("it isn't 0 .. 255, and full", Due.BEYOND, x.feed(256));
        due.is("full", Due.FULL, x.feed(255));
    }

    private static void read() {
        due.by("`int read()`: THE TAPE, which is empty then, is read: how many RULES it told (they hold from now on); -10 less "
                + "the FAULT (nothing changes but THE TAPE).");
        BenchTimes x = new BenchTimes();
        due.reads(x, "wait 25;keep 7;", 2);
        due.is("WAIT", 25, x.rule(Due.WAIT));
        due.is("KEEP", 7, x.rule(Due.KEEP));
        due.reads(x, "wait 26;keep 8:", -10 - 14);
        due.is("WAIT", 25, x.rule(Due.WAIT));
        due.is("KEEP", 7, x.rule(Due.KEEP));
        due.is("an empty one", 0, x.read());
    }

    private static void rule() {
        due.by("`int rule(int what)`: 0 SHARE, 1 KEEP, 2 WAIT, 3 FREE, 4 SURE. BEYOND: another what.");
        BenchTimes x = new BenchTimes();
        due.reads(x, "share 20;keep 21;wait 22;free 23;sure 24;", 5);
        for (int what = 0; what < 5; what++) {
            due.is("what " + what, 20 + what, x.rule(what));
        }
        due.is("another what", Due.BEYOND, x.rule(5));
        due.is("another what", Due.BEYOND, x.rule(-1));
    }

    // ---- weeks

    private static void work() {
        due.by("`int work(int week, int on, int pieces, int minutes)`: WORK: the row's number. on: 10 times JOB, and WORKER; "
                + "pieces: 1000 times GOOD, and SPOILT; minutes: below 0: as many, WATCHED. BEYOND: there is no such JOB, "
                + "WORKER, WEEK (not behind the WEEK), or pieces, minutes aren't as told. NONE: no RATE is IN FORCE then. FULL.");
        BenchTimes x = Due.withJobs(3);
        x.job();
        due.reads(x, "free 50;", 1);
        due.is("the first row", 0, x.work(0, 26, 10004, 30));
        due.is("the next row", 1, x.work(0, 26, 20000, -40));
        due.is("14 times 110", 15, x.earned(0));
        due.is("on JOB 2, WORKER 6: 15 and 22 by 70", 52, x.efficiency(6, 2));
        due.is("one of two is WATCHED", 0, x.slow(6, 2));
        due.is("no JOB", Due.BEYOND, x.work(0, 46, 1000, 1));
        due.is("no WORKER", Due.BEYOND, x.work(0, 28, 1000, 1));
        due.is("no WEEK yet", Due.BEYOND, x.work(1, 26, 1000, 1));
        due.is("too many pieces", Due.BEYOND, x.work(0, 26, 1000000, 1));
        due.is("pieces below 0", Due.BEYOND, x.work(0, 26, -1, 1));
        due.is("too many MINUTES, and no RATE", Due.BEYOND, x.work(0, 36, 1000, 3001));
        due.is("no RATE", Due.NONE, x.work(0, 36, 1000, 1));
        times(98, () -> x.work(0, 0, 1000, 1));
        due.is("no RATE, and full", Due.NONE, x.work(0, 36, 1000, 1));
        due.is("full", Due.FULL, x.work(0, 26, 1000, 1));
    }

    private static void waiting() {
        due.by("`int wait(int week, int worker, int cause, int minutes)`: WAITING: how many rows. BEYOND. FULL.");
        BenchTimes x = new BenchTimes();
        for (int rows = 1; rows <= 60; rows++) {
            due.is("how many rows", rows, x.wait(0, rows % 8, rows % 4, rows));
        }
        due.is("no WEEK yet, and full", Due.BEYOND, x.wait(1, 0, 0, 1));
        due.is("no WORKER, and full", Due.BEYOND, x.wait(0, 8, 0, 1));
        due.is("no CAUSE, and full", Due.BEYOND, x.wait(0, 0, 4, 1));
        due.is("no MINUTES, and full", Due.BEYOND, x.wait(0, 0, 0, 0));
        due.is("full", Due.FULL, x.wait(0, 0, 0, 1));
    }

    private static void learner() {
        due.by("`int learner(int worker, int job, int week)`: A WORKER began on a JOB in a WEEK (-1: never): what was told. "
                + "BEYOND.");
        BenchTimes x = Due.withJobs(2);
        due.is("nothing was told", -1, x.learner(3, 1, 7));
        due.is("7 was told", 7, x.learner(3, 1, 9));
        due.is("nothing of the other JOB", -1, x.learner(3, 0, -1));
        due.is("no WORKER", Due.BEYOND, x.learner(8, 1, 0));
        due.is("no JOB", Due.BEYOND, x.learner(3, 2, 0));
        due.is("no WEEK", Due.BEYOND, x.learner(3, 1, -2));
        due.is("9 was told", 9, x.learner(3, 1, -1));
        due.is("never was told", -1, x.learner(3, 1, 0));
    }

    private static void earned() {
        due.by("`int earned(int row)`: EARNED by a row. BEYOND.");
        BenchTimes x = Due.withRate(250);
        x.work(0, 0, 7000, 10);
        x.work(0, 1, 8000, 10);
        due.is("7 times 250", 17, x.earned(0));
        due.is("8 times 250", 20, x.earned(1));
        due.is("no row", Due.BEYOND, x.earned(2));
        due.is("no row", Due.BEYOND, x.earned(-1));
    }

    private static void pay() {
        due.by("`int pay(int worker, int week, int what)`: PAY: what 0 all, 1 EARNED, 2 for WAITING, 3 MINUTES of WORK, 4 of "
                + "WAITING. BEYOND: there is no such WORKER, WEEK, or another what.");
        BenchTimes x = Due.withRate(100);
        x.work(0, 5, 30000, 20);
        x.work(0, 5, 31000, 22);
        x.wait(0, 5, 1, 19);
        int[] want = {70, 61, 9, 42, 19};
        for (int what = 0; what <= 4; what++) {
            due.is("what " + what, want[what], x.pay(5, 0, what));
        }
        due.is("no WORKER", Due.BEYOND, x.pay(8, 0, 0));
        due.is("no WEEK", Due.BEYOND, x.pay(5, 501, 0));
        due.is("another what", Due.BEYOND, x.pay(5, 0, 5));
    }

    private static void cause() {
        due.by("`int cause(int cause)`: All WAITING MINUTES of a CAUSE. BEYOND.");
        BenchTimes x = new BenchTimes();
        x.week(8);
        x.wait(0, 1, 2, 10);
        x.wait(8, 1, 2, 20);
        x.wait(8, 7, 2, 30);
        x.wait(8, 7, 0, 5);
        due.is("of all WEEKS and WORKERS", 60, x.cause(2));
        due.is("of another CAUSE", 5, x.cause(0));
        due.is("no CAUSE", Due.BEYOND, x.cause(4));
        due.is("no CAUSE", Due.BEYOND, x.cause(-1));
    }

    private static void pool() {
        due.by("`int pool(int workers, int week, int worker)`: What a WORKER gets of a POOL. BEYOND: workers isn't 1 .. 255, there "
                + "is no such WEEK, or the WORKER isn't of it. NONE: they have no MINUTES.");
        BenchTimes x = Due.withRate(100);
        x.work(0, 0, 50000, 10);
        x.work(0, 2, 40000, 30);
        due.is("90 by 10 of 40, and 1", 23, x.pool(5, 0, 0));
        due.is("90 by 30 of 40", 67, x.pool(5, 0, 2));
        due.is("without MINUTES", 0, x.pool(7, 0, 1));
        due.is("workers", Due.BEYOND, x.pool(256, 0, 0));
        due.is("no WEEK", Due.BEYOND, x.pool(5, 501, 0));
        due.is("it isn't of it", Due.BEYOND, x.pool(5, 0, 1));
        due.is("no MINUTES", Due.NONE, x.pool(10, 0, 1));
    }

    // ---- loose and tight, slow

    private static void efficiency() {
        due.by("`int efficiency(int worker, int job)`: EFFICIENCY. BEYOND. NONE: there are no such rows.");
        BenchTimes x = Due.withRate(100);
        x.job();
        x.work(0, 4, 50000, 60);
        due.is("50 by 60", 83, x.efficiency(4, 0));
        due.is("no WORKER", Due.BEYOND, x.efficiency(8, 0));
        due.is("no JOB", Due.BEYOND, x.efficiency(4, 2));
        due.is("no rows on that JOB", Due.NONE, x.efficiency(4, 1));
        due.is("no rows of that WORKER", Due.NONE, x.efficiency(5, 0));
    }

    private static void looser() {
        due.by("`int looser(int job, int than)`: 1 a JOB is LOOSER than another one BEYOND DOUBT, else 0. BEYOND: there is no such "
                + "one, or they are one.");
        BenchTimes x = Due.withJobs(3);
        for (int worker = 3; worker < 8; worker++) {
            x.work(0, 20 + worker, 50000, 10);
            x.work(0, 10 + worker, 40000, 10);
        }
        due.is("5 of 5", 1, x.looser(2, 1));
        due.is("0 of 5", 0, x.looser(1, 2));
        due.is("0 of 0", 0, x.looser(2, 0));
        due.is("no such one", Due.BEYOND, x.looser(3, 1));
        due.is("no such one", Due.BEYOND, x.looser(1, 3));
        due.is("they are one", Due.BEYOND, x.looser(2, 2));
    }

    private static void order() {
        due.by("`int order(int i)`: JOB i (from 0 on) of THE ORDER. BEYOND: i is below 0. NONE.");
        BenchTimes x = Due.withJobs(4);
        for (int worker = 0; worker < 6; worker++) {
            x.work(0, worker, 10000, 10);
            x.work(0, 20 + worker, 30000, 10);
            x.work(0, 30 + worker, 20000, 10);
        }
        int[] want = {2, 3, 0, Due.NONE};
        for (int i = 0; i < 4; i++) {
            due.is("i " + i, want[i], x.order(i));
        }
        due.is("below 0", Due.BEYOND, x.order(-1));
    }

    private static void slow() {
        due.by("`int slow(int worker, int job)`: 1 a WORKER is SLOW for the watch on a JOB, else 0. BEYOND. NONE: none of its "
                + "rows, or all, are WATCHED.");
        BenchTimes x = Due.withJobs(2);
        int[] minutes = {30, -41, 31, -42, 32, -43};
        for (int m : minutes) {
            x.work(0, 11, 10000, m);
            x.work(0, 12, 10000, -m);
            x.work(0, 13, 10000, Math.abs(m));
            x.work(0, 14, 10000, -Math.abs(m));
        }
        due.is("the three greatest of six are WATCHED", 1, x.slow(1, 1));
        due.is("the three least are", 0, x.slow(2, 1));
        due.is("none of its rows are", Due.NONE, x.slow(3, 1));
        due.is("all are", Due.NONE, x.slow(4, 1));
        due.is("no rows", Due.NONE, x.slow(1, 0));
        due.is("no WORKER", Due.BEYOND, x.slow(8, 1));
        due.is("no JOB", Due.BEYOND, x.slow(1, 2));
    }

    // ---- what is told

    private static void tell() {
        due.by("`int tell(int v)`: One more number waits: how many. FULL: 8 wait.");
        BenchTimes x = new BenchTimes();
        for (int many = 1; many <= 8; many++) {
            due.is("how many", many, x.tell(-5 * many));
        }
        due.is("8 wait", Due.FULL, x.tell(0));
    }

    private static void check() {
        due.by("`int check(int week)`: The numbers that wait (none do then) are PAYS of WORKERS 0, 1, .. in a WEEK: 0 if they are; 1 "
                + "and i for the first (from 0 on) that isn't. BEYOND: there is no such WEEK (they are gone, too).");
        BenchTimes x = Due.withRate(100);
        x.work(0, 0, 90000, 10);
        x.work(0, 2, 70000, 10);
        int[][] told = {{90, 0, 70, 0}, {90, 0, 70, 1}, {90, 0, 69, 0}, {90, 70, 0, 0}, {89, 1, 1, 1}};
        int[] want = {0, 4, 3, 2, 1};
        for (int i = 0; i < told.length; i++) {
            for (int number : told[i]) {
                x.tell(number);
            }
            due.is("check", want[i], x.check(0));
            due.is("none wait then", 0, x.count(9));
        }
        x.tell(1);
        due.is("no WEEK", Due.BEYOND, x.check(501));
        due.is("they are gone, too", 0, x.count(9));
    }

    private static void count() {
        due.by("`int count(int what)`: 0 ELEMENTS, 1 CYCLES, 2 FILMS, 3 JOBS, 4 RATES, 5 the WEEK, 6 rows of WORK, 7 of WAITING, 8 "
                + "bytes of THE TAPE, 9 numbers that wait. BEYOND: another what.");
        BenchTimes x = Due.withJobs(2);
        times(8, () -> x.element(0));
        times(7, () -> x.cycle(0, 0, 100, 100));
        times(8, () -> x.film(0, 100, 100));
        times(5, () -> x.job());
        times(4, () -> x.change(0) + x.move(0));
        x.week(5);
        times(4, () -> x.work(5, 0, 1000, 1));
        times(3, () -> x.wait(5, 0, 0, 1));
        times(2, () -> x.feed(0));
        x.tell(0);
        int[] want = {10, 9, 8, 7, 6, 5, 4, 3, 2, 1};
        for (int what = 0; what <= 9; what++) {
            due.is("what " + what, want[what], x.count(what));
        }
        due.is("another what", Due.BEYOND, x.count(10));
        due.is("another what", Due.BEYOND, x.count(-1));
    }

    private static void found() {
        due.by("`int found(int k)`: How many acts have answered a finding LOW - k (k 1 .. 5); BEYOND: another k (counted, too).");
        BenchTimes x = new BenchTimes();
        x.element(0);
        times(5, () -> x.as(0, 3));
        times(8, () -> x.job());
        times(4, () -> x.job());
        times(3, () -> x.set(0));
        times(2, () -> x.order(0));
        due.is("another k", Due.BEYOND, x.found(6));
        for (int k = 1; k <= 5; k++) {
            due.is("k " + k, k, x.found(k));
        }
    }
}
