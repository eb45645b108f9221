/** Every sentence of promises 32 to 35, and of the terms that all promises go by, that names an edge. */
public final class EdgesToldTest {
    private static final Due due = new Due();

    public static void main(String[] args) {
        numbersAtMost();
        anyNumberWaits();
        noneWaitThen();
        zeroIfTheyAre();
        theFirstThatIsnt();
        paysOfWorkers();
        checkOfNoWeek();
        countOfWhat();
        foundOfWhat();
        foundCountsItself();
        eachFindingByItself();
        aNewObjectHasFoundNothing();
        asManyCallsAsAnObjectIsUsedFor();
        due.end();
    }

    private static void numbersAtMost() {
        due.by("FULL: 8 wait.");
        BenchTimes x = new BenchTimes();
        for (int i = 1; i <= 8; i++) {
            due.is("tell", i, x.tell(0));
        }
        due.is("the ninth", Due.FULL, x.tell(7));
        due.is("once more", Due.FULL, x.tell(7));
        due.is("they stay eight", 8, x.count(9));
        due.is("and what they were", 0, x.check(0));
        due.is("room again", 1, x.tell(0));
    }

    private static void anyNumberWaits() {
        due.by("One more number waits: how many.");
        int[] numbers = {Integer.MIN_VALUE, -1000000001, -1, 0, 1, Integer.MAX_VALUE};
        BenchTimes x = new BenchTimes();
        for (int i = 0; i < numbers.length; i++) {
            due.is("tell " + numbers[i], i + 1, x.tell(numbers[i]));
        }
        for (int k = 1; k <= 5; k++) {
            due.is("no finding", 0, x.found(k));
        }
        for (int number : numbers) {
            BenchTimes y = new BenchTimes();
            y.tell(number);
            due.is("0 alone is the PAY", number == 0 ? 0 : 1, y.check(0));
        }
    }

    private static void noneWaitThen() {
        due.by("The numbers that wait (none do then)");
        BenchTimes x = new BenchTimes();
        x.tell(0);
        x.check(0);
        due.is("they were right", 0, x.count(9));
        x.tell(0);
        x.tell(5);
        x.tell(5);
        due.is("the second isn't", 2, x.check(0));
        due.is("they were wrong", 0, x.count(9));
        due.is("none wait", 0, x.check(0));
        due.is("the next is the first", 1, x.tell(0));
        due.is("and it alone", 0, x.check(0));
    }

    private static void zeroIfTheyAre() {
        due.by("0 if they are");
        for (int many = 0; many <= 8; many++) {
            BenchTimes x = paid();
            for (int worker = 0; worker < many; worker++) {
                x.tell(10 + worker);
            }
            due.is(many + " numbers", 0, x.check(0));
        }
    }

    /** PAYS of 10, 11, .. for WORKERS 0, 1, .. in WEEK 0. */
    private static BenchTimes paid() {
        BenchTimes x = Due.withRate(100);
        for (int worker = 0; worker < 8; worker++) {
            x.work(0, worker, 1000 * (10 + worker), 1);
        }
        return x;
    }

    private static void theFirstThatIsnt() {
        due.by("1 and i for the first (from 0 on) that isn't");
        for (int i = 0; i < 8; i++) {
            BenchTimes x = paid();
            for (int worker = 0; worker < 8; worker++) {
                x.tell(10 + worker + (worker == i ? -1 : 0));
            }
            due.is("that of " + i + " alone isn't", i + 1, x.check(0));
            for (int worker = 0; worker < 8; worker++) {
                x.tell(10 + worker + (worker >= i ? 1 : 0));
            }
            due.is("those from " + i + " on aren't", i + 1, x.check(0));
        }
    }

    private static void paysOfWorkers() {
        due.by("are PAYS of WORKERS 0, 1, .. in a WEEK");
        BenchTimes x = Due.withRate(100);
        x.week(1);
        x.wait(1, 0, 0, 100);
        x.tell(80);
        due.is("what is SURE", 0, x.check(1));
        x.tell(80);
        due.is("another WEEK", 1, x.check(0));
        x.tell(0);
        due.is("the last WEEK", 0, x.check(500));
    }

    private static void checkOfNoWeek() {
        due.by("BEYOND: there is no such WEEK (they are gone, too).");
        due.range("week", 0, 500, v -> new BenchTimes().check(v));
        int[] none = {-1, 501, Integer.MIN_VALUE, Integer.MAX_VALUE};
        for (int week : none) {
            BenchTimes x = new BenchTimes();
            x.tell(5);
            x.tell(6);
            due.is("check", Due.BEYOND, x.check(week));
            due.is("they are gone", 0, x.count(9));
            due.is("none wait", 0, x.check(0));
            due.is("one BEYOND", 1, x.found(1));
            due.is("room for all", 1, x.tell(0));
        }
    }

    private static void countOfWhat() {
        due.by("BEYOND: another what.");
        due.range("what", 0, 9, v -> new BenchTimes().count(v));
    }

    private static void foundOfWhat() {
        due.by("How many acts have answered a finding LOW - k (k 1 .. 5)");
        due.range("k", 1, 5, v -> new BenchTimes().found(v));
    }

    private static void foundCountsItself() {
        due.by("BEYOND: another k (counted, too).");
        BenchTimes x = new BenchTimes();
        due.is("k 0", Due.BEYOND, x.found(0));
        due.is("one", 1, x.found(1));
        due.is("k 6", Due.BEYOND, x.found(6));
        due.is("two", 2, x.found(1));
        due.is("an answer is no finding", 2, x.found(1));
        due.is("least k", Due.BEYOND, x.found(Integer.MIN_VALUE));
        due.is("greatest k", Due.BEYOND, x.found(Integer.MAX_VALUE));
        due.is("four", 4, x.found(1));
        for (int k = 2; k <= 5; k++) {
            due.is("of no other k", 0, x.found(k));
        }
    }

    private static void eachFindingByItself() {
        due.by("LOW - 1 BEYOND, LOW - 2 NONE, LOW - 3 STATE, LOW - 4 FULL, LOW - 5 KIND");
        BenchTimes x = new BenchTimes();
        due.is("BEYOND", -1000000001, x.element(4));
        x.element(0);
        due.is("NONE", -1000000002, x.of(0, 2));
        x.job();
        due.is("STATE", -1000000003, x.set(0));
        for (int i = 0; i < 8; i++) {
            x.tell(0);
        }
        due.is("FULL", -1000000004, x.tell(0));
        due.is("KIND", -1000000005, x.as(0, 3));
        for (int k = 1; k <= 5; k++) {
            due.is("one of k " + k, 1, x.found(k));
        }
    }

    private static void aNewObjectHasFoundNothing() {
        due.by("No ELEMENTS, no JOBS; WEEK 0.");
        BenchTimes x = new BenchTimes();
        x.found(0);
        x.tell(1);
        x.feed('k');
        x.week(9);
        x.allow(1, 1);
        BenchTimes y = new BenchTimes();
        for (int k = 1; k <= 5; k++) {
            due.is("of another object", 0, y.found(k));
        }
        for (int what = 0; what <= 9; what++) {
            due.is("of another object", 0, y.count(what));
        }
        y.element(0);
        due.is("of another object", 10, y.as(0, 0));
    }

    private static void asManyCallsAsAnObjectIsUsedFor() {
        due.by("An object is used for at most 512 calls after it has been made");
        BenchTimes x = new BenchTimes();
        for (int calls = 1; calls < 512; calls++) {
            due.is("call " + calls, Due.BEYOND, x.found(0));
        }
        due.is("the 512th", 511, x.found(1));
        BenchTimes y = Due.withJobs(8);
        for (int calls = 40; calls < 511; calls++) {
            y.work(0, calls % 80, 1000, 1);
        }
        due.is("the 512th", 0, y.order(0));
    }
}
