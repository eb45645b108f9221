/** Promises 18 to 20. */
public final class RulesTest {
    private static final Due due = new Due();

    public static void main(String[] args) {
        feeds();
        readsAll();
        readsSome();
        faultsInWords();
        faultsInNumbers();
        faultsInSigns();
        wordsTwice();
        faultsChangeNothing();
        rulesWrong();
        due.end();
    }

    private static void feeds() {
        BenchTimes x = new BenchTimes();
        due.is("feed(-1)", Due.BEYOND, x.feed(-1));
        due.is("feed(256)", Due.BEYOND, x.feed(256));
        for (int i = 1; i <= 60; i++) {
            due.is("feed", i, x.feed(i == 60 ? 255 : 0));
        }
        due.is("feed, full", Due.FULL, x.feed('s'));
        due.is("feed, full and beyond", Due.BEYOND, x.feed(256));
        due.is("count", 60, x.count(8));
        due.is("read", -10, x.read());
        due.is("count", 0, x.count(8));
        due.is("feed", 1, x.feed(0));
    }

    private static void readsAll() {
        BenchTimes x = new BenchTimes();
        due.reads(x, "", 0);
        due.reads(x, "sure 100;free 0;wait 007;keep 52;share 99;", 5);
        int[] want = {99, 52, 7, 0, 100};
        for (int what = 0; what < 5; what++) {
            due.is("rule(" + what + ")", want[what], x.rule(what));
        }
        due.reads(x, "share 000;keep 000;wait 000;free 000;sure 000;", 5);
        for (int what = 0; what < 5; what++) {
            due.is("rule(" + what + ")", 0, x.rule(what));
        }
        due.reads(x, "share 100;keep 052;wait 100;free 100;sure 100;", 5);
        int[] most = {100, 52, 100, 100, 100};
        for (int what = 0; what < 5; what++) {
            due.is("rule(" + what + ")", most[what], x.rule(what));
        }
    }

    private static void readsSome() {
        BenchTimes x = new BenchTimes();
        due.reads(x, "wait 9;", 1);
        due.is("WAIT", 9, x.rule(2));
        due.is("SURE stays", 80, x.rule(4));
        due.reads(x, "sure 1;share 2;", 2);
        due.is("SHARE", 2, x.rule(0));
        due.is("SURE", 1, x.rule(4));
        due.is("WAIT stays", 9, x.rule(2));
        due.is("KEEP stays", 4, x.rule(1));
        due.is("FREE stays", 3, x.rule(3));
    }

    private static void faultsInWords() {
        BenchTimes x = new BenchTimes();
        due.reads(x, "x", -10);
        due.reads(x, " share 1;", -10);
        due.reads(x, "Share 1;", -10);
        due.reads(x, "s", -11);
        due.reads(x, "sa", -11);
        due.reads(x, "sh", -12);
        due.reads(x, "shx", -12);
        due.reads(x, "sux", -12);
        due.reads(x, "share", -15);
        due.reads(x, "shares 1;", -15);
        due.reads(x, "keeq 1;", -13);
        due.reads(x, "wat 1;", -12);
        due.reads(x, "fre", -13);
        due.reads(x, "keep 1; wait 1;", -17);
        due.reads(x, "keep 1;keep 1;", -17);
        due.reads(x, "keep 1;\n", -17);
    }

    private static void faultsInNumbers() {
        BenchTimes x = new BenchTimes();
        due.reads(x, "share ;", -16);
        due.reads(x, "share ", -16);
        due.reads(x, "share -1;", -16);
        due.reads(x, "share 1", -17);
        due.reads(x, "share 1x", -17);
        due.reads(x, "share 100", -19);
        due.reads(x, "share 0001;", -19);
        due.reads(x, "share 101;", -19);
        due.reads(x, "share 999;", -19);
        due.reads(x, "share 9999;", -19);
        due.reads(x, "keep 53;", -17);
        due.reads(x, "keep 53", -17);
        due.reads(x, "keep 053;", -18);
        due.reads(x, "keep 100;", -18);
        due.reads(x, "keep 9", -16);
        due.reads(x, "wait 101;", -18);
        due.reads(x, "free 101;", -18);
        due.reads(x, "sure 101;", -18);
        due.reads(x, "sure 1;keep 99;", -24);
        due.is("nothing changed", 10, x.rule(0));
        due.is("nothing changed", 4, x.rule(1));
    }

    private static void faultsInSigns() {
        BenchTimes x = new BenchTimes();
        due.reads(x, "keep", -14);
        due.reads(x, "keep1;", -14);
        due.reads(x, "keep  1;", -15);
        due.reads(x, "keep\t1;", -14);
        due.reads(x, "keep 1 ;", -16);
        due.reads(x, "keep 1,", -16);
        due.reads(x, "keep 1;;", -17);
    }

    private static void wordsTwice() {
        BenchTimes x = new BenchTimes();
        due.reads(x, "free 1;free 1;", -17);
        due.reads(x, "share 1;share 1;", -19);
        due.reads(x, "sure 1;sure 1;", -18);
        due.reads(x, "sure 1;sh", -19);
        due.reads(x, "sure 1;share 1;s", -25);
        due.reads(x, "sure 1;share 1;keep 1;free 1;wait 1;", 5);
        due.reads(x, "sure 1;share 1;keep 1;free 1;wait 1;w", -46);
        due.reads(x, "keep 2;", 1);
        due.reads(x, "keep 3;", 1);
        due.is("KEEP", 3, x.rule(1));
    }

    private static void faultsChangeNothing() {
        BenchTimes x = new BenchTimes();
        due.reads(x, "share 1;keep 1;wait 1;free 1;sure 1", -45);
        int[] first = {10, 4, 50, 3, 80};
        for (int what = 0; what < 5; what++) {
            due.is("rule(" + what + ")", first[what], x.rule(what));
        }
        for (int k = 1; k <= 5; k++) {
            due.is("a fault is no finding", 0, x.found(k));
        }
        due.reads(x, "keep 1;", 1);
        due.is("what a faulty text told is forgotten", 10, x.rule(0));
        due.is("KEEP", 1, x.rule(1));
    }

    private static void rulesWrong() {
        BenchTimes x = new BenchTimes();
        due.is("rule(-1)", Due.BEYOND, x.rule(-1));
        due.is("rule(5)", Due.BEYOND, x.rule(5));
        due.is("found", 2, x.found(1));
    }
}
