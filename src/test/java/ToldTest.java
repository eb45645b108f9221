/** Promises 32 to 35. */
public final class ToldTest {
    private static final Due due = new Due();

    public static void main(String[] args) {
        tells();
        checks();
        checksWrong();
        counts();
        founds();
        due.end();
    }

    private static void tells() {
        BenchTimes x = new BenchTimes();
        for (int i = 1; i <= 8; i++) {
            due.is("tell", i, x.tell(i % 2 == 0 ? Integer.MIN_VALUE : Integer.MAX_VALUE));
        }
        due.is("tell, full", Due.FULL, x.tell(0));
        due.is("count", 8, x.count(9));
        due.is("check", 1, x.check(0));
        due.is("none wait", 0, x.count(9));
        due.is("tell", 1, x.tell(-1));
    }

    private static void checks() {
        BenchTimes x = Due.withJobs(1);
        x.week(2);
        for (int worker = 0; worker < 8; worker++) {
            x.work(1, worker, 10000 * (worker + 1), 1);
        }
        due.is("none wait", 0, x.check(1));
        for (int i = 0; i < 8; i++) {
            for (int worker = 0; worker < 8; worker++) {
                x.tell(11 * (worker + 1) + (worker >= i ? 1 : 0));
            }
            due.is("check", i + 1, x.check(1));
        }
        for (int worker = 0; worker < 8; worker++) {
            x.tell(11 * (worker + 1));
        }
        due.is("all are", 0, x.check(1));
        x.tell(11);
        x.tell(22);
        due.is("two are", 0, x.check(1));
        x.tell(0);
        due.is("another week", 0, x.check(2));
        x.tell(11);
        due.is("another week", 1, x.check(2));
        x.tell(0);
        due.is("a week that comes", 0, x.check(500));
        x.wait(2, 0, 0, 10);
        x.tell(8);
        due.is("all of PAY", 0, x.check(2));
    }

    private static void checksWrong() {
        BenchTimes x = new BenchTimes();
        x.tell(5);
        due.is("check(-1)", Due.BEYOND, x.check(-1));
        due.is("they are gone", 0, x.count(9));
        x.tell(5);
        due.is("check(501)", Due.BEYOND, x.check(501));
        due.is("they are gone", 0, x.count(9));
        due.is("check", 0, x.check(0));
        due.is("found", 2, x.found(1));
    }

    private static void counts() {
        BenchTimes x = Due.withJobs(3);
        x.element(0);
        x.cycle(0, 0, 100, 100);
        x.cycle(0, 0, 100, 100);
        for (int i = 0; i < 6; i++) {
            x.film(0, 100, 100);
        }
        x.job();
        x.job();
        x.job();
        x.job();
        x.change(0);
        x.move(0);
        x.change(0);
        x.move(0);
        x.week(8);
        for (int i = 0; i < 9; i++) {
            x.work(0, 0, 0, 1);
        }
        for (int i = 0; i < 10; i++) {
            x.wait(0, 0, 0, 1);
        }
        for (int i = 0; i < 11; i++) {
            x.feed(0);
        }
        x.tell(0);
        int[] want = {4, 5, 6, 7, 5, 8, 9, 10, 11, 1};
        for (int what = 0; what < want.length; what++) {
            due.is("count(" + what + ")", want[what], x.count(what));
        }
        due.is("count(-1)", Due.BEYOND, x.count(-1));
        due.is("count(10)", Due.BEYOND, x.count(10));
    }

    private static void founds() {
        BenchTimes x = new BenchTimes();
        due.is("found(0)", Due.BEYOND, x.found(0));
        due.is("found(6)", Due.BEYOND, x.found(6));
        due.is("found(-1)", Due.BEYOND, x.found(-1));
        due.is("they are counted, too", 3, x.found(1));
        due.is("found doesn't count itself", 3, x.found(1));
        x.element(0);
        x.as(0, 1);
        x.of(0, 2);
        x.of(0, 3);
        x.job();
        for (int i = 0; i < 3; i++) {
            x.set(0);
        }
        for (int i = 0; i < 12; i++) {
            x.tell(0);
        }
        due.is("BEYOND", 3, x.found(1));
        due.is("NONE", 2, x.found(2));
        due.is("STATE", 3, x.found(3));
        due.is("FULL", 4, x.found(4));
        due.is("KIND", 1, x.found(5));
        x.order(-1);
        x.check(-1);
        x.count(-1);
        x.rule(-1);
        due.is("of every call", 7, x.found(1));
        due.is("of another object", 0, new BenchTimes().found(1));
    }
}
