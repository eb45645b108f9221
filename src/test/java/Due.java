/** Compares answers with those that are due; a test makes one and ends with it. */
final class Due {
    static final int BEYOND = -1000000001;
    static final int NONE = -1000000002;
    static final int STATE = -1000000003;
    static final int FULL = -1000000004;
    static final int KIND = -1000000005;

    static final int SHARE = 0;
    static final int KEEP = 1;
    static final int WAIT = 2;
    static final int FREE = 3;
    static final int SURE = 4;

    private int wrong;

    void is(String what, int want, int got) {
        if (want != got) {
            wrong++;
            System.out.println(what + " answered " + got + ", due is " + want);
        }
    }

    /** Feeds a text to THE TAPE, sign by sign. */
    static void feed(BenchTimes x, String text) {
        for (int i = 0; i < text.length(); i++) {
            x.feed(text.charAt(i));
        }
    }

    void reads(BenchTimes x, String text, int want) {
        feed(x, text);
        is("read() of '" + text + "'", want, x.read());
        is("bytes behind read() of '" + text + "'", 0, x.count(8));
    }

    /** One ELEMENT with STANDARD 110 (LEVEL 100) and a JOB of it with a RATE, for each of many. */
    static BenchTimes withJobs(int many) {
        BenchTimes x = new BenchTimes();
        for (int i = 0; i < many; i++) {
            x.element(0);
            x.cycle(i, 0, 100, 100);
            x.job();
            x.part(i, i, 1);
            x.set(i);
        }
        return x;
    }

    void end() {
        System.out.println(wrong == 0 ? "as due" : wrong + " answers are not as due");
        if (wrong != 0) {
            System.exit(1);
        }
    }
}
