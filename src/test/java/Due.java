import java.util.function.IntUnaryOperator;

/** Compares answers with those that are due; a test makes one and ends with it. */
final class Due {
    static final int BEYOND = -1000000001;
    static final int NONE = -1000000002;
    static final int STATE = -1000000003;
    static final int FULL = -1000000004;
    static final int KIND = -1000000005;

    static final int SHARE = 0;
    static final int KEEP = 1;
    static final int WAIT = 2;
    static final int FREE = 3;
    static final int SURE = 4;

    private int wrong;
    private String words = "";

    /** The words of the document by which the next answers are due. */
    void by(String document) {
        words = document.isEmpty() ? "" : " (" + document + ")";
    }

    void is(String what, int want, int got) {
        if (want != got) {
            wrong++;
            System.out.println(what + " answered " + got + ", due is " + want + words);
        }
    }

    void isNot(String what, int no, int got) {
        if (no == got) {
            wrong++;
            System.out.println(what + " answered " + got + ", which is not due" + words);
        }
    }

    /** BEYOND below the least and above the most, near and as far as an int goes, and nowhere between. */
    void range(String what, int least, int most, IntUnaryOperator call) {
        int[] out = {least - 1, most + 1, Integer.MIN_VALUE, Integer.MIN_VALUE + 1, Integer.MAX_VALUE};
        for (int v : out) {
            is(what + " " + v, BEYOND, call.applyAsInt(v));
        }
        for (int v = least; v <= most; v += Math.max(1, Math.min(most - v, (most - least) / 50))) {
            isNot(what + " " + v, BEYOND, call.applyAsInt(v));
        }
    }

    /** Feeds a text to THE TAPE, sign by sign. */
    static void feed(BenchTimes x, String text) {
        for (int i = 0; i < text.length(); i++) {
            x.feed(text.charAt(i));
        }
    }

    void reads(BenchTimes x, String text, int want) {
        feed(x, text);
        is("read() of '" + text + "'", want, x.read());
        is("bytes behind read() of '" + text + "'", 0, x.count(8));
    }

    /** One ELEMENT with STANDARD 110 (LEVEL 100) and a JOB of it with a RATE, for each of many. */
    static BenchTimes withJobs(int many) {
        BenchTimes x = new BenchTimes();
        for (int i = 0; i < many; i++) {
            x.element(0);
            x.cycle(i, 0, 100, 100);
            x.job();
            x.part(i, i, 1);
            x.set(i);
        }
        return x;
    }

    /** A JOB 0 whose RATE is a STANDARD without ALLOWANCE (1 .. 999). */
    static BenchTimes withRate(int rate) {
        BenchTimes x = new BenchTimes();
        x.allow(0, 0);
        x.element(0);
        x.cycle(0, 0, 100, rate);
        x.job();
        x.part(0, 0, 1);
        x.set(0);
        return x;
    }

    void end() {
        System.out.println(wrong == 0 ? "as due" : wrong + " answers are not as due");
        if (wrong != 0) {
            System.exit(1);
        }
    }
}
