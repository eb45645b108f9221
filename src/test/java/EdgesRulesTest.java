/** Every sentence of promises 18 to 20, and of the terms that they go by, that names an edge. */
public final class EdgesRulesTest {
    private static final Due due = new Due();
    private static final String[] WORDS = {"share", "keep", "wait", "free", "sure"};
    private static final int[] FIRST = {10, 4, 50, 3, 80};
    private static final int[] MOST = {100, 52, 100, 100, 100};
    private static final String LONGEST = "share 100;keep 052;wait 100;free 100;sure 100;";

    public static void main(String[] args) {
        bytes();
        tapeAtMost();
        rulesAtFirst();
        leastAndMostOfEach();
        oneToThreeDigits();
        moreThanTold();
        tooGreatBehindWhatStands();
        anEmptyTape();
        eachWordAlone();
        allInAnyOrder();
        endsTooEarly();
        endsTooEarlyWhereMoreWas();
        firstWrongByte();
        wordsWithTheSameBeginning();
        eachWordOnce();
        nothingBehindAllWords();
        aFullTape();
        tapeIsEmptyThen();
        theyHoldFromNowOn();
        nothingChangesButTheTape();
        faultsAreNoFindings();
        ruleOfWhat();
        due.end();
    }

    private static void allAre(BenchTimes x, String when, int... want) {
        for (int what = 0; what < 5; what++) {
            due.is(WORDS[what] + " " + when, want[what], x.rule(what));
        }
    }

    private static int readOf(String text) {
        BenchTimes x = new BenchTimes();
        Due.feed(x, text);
        return x.read();
    }

    private static void bytes() {
        due.by("BEYOND: it isn't 0 .. 255. FULL.");
        due.range("byte", 0, 255, v -> new BenchTimes().feed(v));
        BenchTimes x = new BenchTimes();
        x.feed(256 + 'k');
        due.is("none came", 0, x.count(8));
        x.feed('k' - 256);
        due.is("none came", 0, x.count(8));
    }

    private static void tapeAtMost() {
        due.by("THE TAPE (bytes, at most 60)");
        BenchTimes x = new BenchTimes();
        for (int i = 1; i <= 60; i++) {
            due.is("feed", i, x.feed(255));
        }
        due.is("the next one", Due.FULL, x.feed(0));
        due.is("once more", Due.FULL, x.feed(255));
        due.is("BEYOND is asked first", Due.BEYOND, x.feed(-1));
        due.is("BEYOND is asked first", Due.BEYOND, x.feed(256));
        due.is("they stay sixty", 60, x.count(8));
        x.read();
        due.is("room again", 1, x.feed(0));
    }

    private static void rulesAtFirst() {
        due.by("SHARE (0 .. 100; 10 at first), KEEP (0 .. 52; 4), WAIT (0 .. 100; 50), FREE (0 .. 100; 3), "
                + "SURE (0 .. 100; 80)");
        allAre(new BenchTimes(), "at first", FIRST);
    }

    private static void leastAndMostOfEach() {
        due.by("SHARE (0 .. 100; 10 at first), KEEP (0 .. 52; 4), WAIT (0 .. 100; 50), FREE (0 .. 100; 3), "
                + "SURE (0 .. 100; 80)");
        for (int what = 0; what < 5; what++) {
            BenchTimes x = new BenchTimes();
            for (int n = 0; n <= MOST[what]; n += MOST[what] / 2) {
                due.reads(x, WORDS[what] + " " + n + ";", 1);
                due.is(WORDS[what], n, x.rule(what));
            }
        }
    }

    private static void oneToThreeDigits() {
        due.by("N: 1 to 3 digits, no more than told here");
        for (int what = 0; what < 5; what++) {
            String begun = WORDS[what] + " ";
            int place = begun.length();
            BenchTimes x = new BenchTimes();
            due.reads(x, begun + ";", -10 - place);
            due.is("no digit changes nothing", FIRST[what], x.rule(what));
            due.reads(x, begun + "5;", 1);
            due.is("one digit", 5, x.rule(what));
            due.reads(x, begun + "06;", 1);
            due.is("two digits", 6, x.rule(what));
            due.reads(x, begun + "007;", 1);
            due.is("three digits", 7, x.rule(what));
            due.reads(x, begun + "000;", 1);
            due.is("three digits", 0, x.rule(what));
            due.reads(x, begun + "0008;", -10 - place - 3);
            due.is("four digits change nothing", 0, x.rule(what));
        }
    }

    private static void moreThanTold() {
        due.by("of a N that is too great the place behind it");
        for (int what = 0; what < 5; what++) {
            String begun = WORDS[what] + " ";
            int place = begun.length();
            BenchTimes x = new BenchTimes();
            int digits = what == 1 ? 2 : 3;
            due.reads(x, begun + (MOST[what] + 1) + ";", -10 - place - digits);
            due.reads(x, begun + (MOST[what] + 1), -10 - place - digits);
            due.reads(x, begun + (MOST[what] + 1) + "x", -10 - place - digits);
            due.reads(x, begun + "999;", -10 - place - 3);
            due.reads(x, begun + "9999;", -10 - place - 3);
            allAre(x, "as it was", FIRST);
        }
        due.is("two digits, and it ends", -17, readOf("keep 53"));
        due.is("zeros ahead", -18, readOf("keep 053;"));
        due.is("a third digit is of N", -18, readOf("keep 530;"));
        due.is("one digit may grow", -16, readOf("keep 9"));
    }

    private static void tooGreatBehindWhatStands() {
        due.by("of a N that is too great the place behind it");
        due.is("the second clause", -25, readOf("keep 1;sure 101;free 999;"));
        due.is("the last clause", -55, readOf("share 100;keep 052;wait 100;free 100;sure 101;"));
        due.is("ahead of a wrong byte", -18, readOf("wait 101x"));
        due.is("behind a wrong byte", -14, readOf("wait;wait 101;"));
    }

    private static void anEmptyTape() {
        due.by("how many RULES it told");
        BenchTimes x = new BenchTimes();
        due.is("nothing", 0, x.read());
        due.is("nothing again", 0, x.read());
        allAre(x, "as it was", FIRST);
    }

    private static void eachWordAlone() {
        due.by("how many RULES it told");
        for (int what = 0; what < 5; what++) {
            BenchTimes x = new BenchTimes();
            due.reads(x, WORDS[what] + " 21;", 1);
            for (int other = 0; other < 5; other++) {
                due.is("rule " + other, other == what ? 21 : FIRST[other], x.rule(other));
            }
        }
    }

    private static void allInAnyOrder() {
        due.by("WORD: share, keep, wait, free, sure");
        for (int first = 0; first < 5; first++) {
            StringBuilder text = new StringBuilder();
            for (int i = 0; i < 5; i++) {
                text.append(WORDS[(first + 4 * i) % 5]).append(' ').append(10 + (first + 4 * i) % 5).append(';');
            }
            BenchTimes x = new BenchTimes();
            due.reads(x, text.toString(), 5);
            allAre(x, "of five", 10, 11, 12, 13, 14);
        }
    }

    private static void endsTooEarly() {
        due.by("how many there are, if it ends too early");
        int clauses = 0;
        for (int length = 0; length <= LONGEST.length(); length++) {
            String text = LONGEST.substring(0, length);
            boolean whole = length == 0 || text.endsWith(";");
            clauses += text.endsWith(";") ? 1 : 0;
            due.is("'" + text + "'", whole ? clauses : -10 - length, readOf(text));
        }
    }

    private static void endsTooEarlyWhereMoreWas() {
        due.by("THE TAPE, which is empty then, is read");
        BenchTimes x = new BenchTimes();
        int calls = 0;
        for (int length = 1; length < LONGEST.length(); length++) {
            if (calls + LONGEST.length() + length + 2 > 512) {
                x = new BenchTimes();
                calls = 0;
            }
            Due.feed(x, LONGEST);
            due.is("all of it", 5, x.read());
            String text = LONGEST.substring(0, length);
            Due.feed(x, text);
            int clauses = (int) text.chars().filter(c -> c == ';').count();
            due.is("'" + text + "' where more was", text.endsWith(";") ? clauses : -10 - length, x.read());
            calls += LONGEST.length() + length + 2;
        }
    }

    private static void firstWrongByte() {
        due.by("the place of the first byte with which no such text begins");
        char[] wrong = {0, 9, 10, 'x', 'S', '/', ':', '<', 128, 255};
        for (int place = 0; place <= LONGEST.length(); place++) {
            for (char sign : wrong) {
                String behind = LONGEST.substring(Math.min(place + 1, LONGEST.length()));
                String text = LONGEST.substring(0, place) + sign + behind;
                due.is("byte " + (int) sign + " at " + place, -10 - place, readOf(text));
            }
        }
    }

    private static void wordsWithTheSameBeginning() {
        due.by("the place of the first byte with which no such text begins");
        due.is("s may be two words", -11, readOf("s"));
        due.is("sh is one", -12, readOf("shure 1;"));
        due.is("su is the other", -12, readOf("suare 1;"));
        due.is("st is none", -11, readOf("star 1;"));
        due.is("a blank ahead", -10, readOf(" keep 1;"));
        due.is("two blanks", -15, readOf("keep  1;"));
        due.is("a blank behind N", -16, readOf("keep 1 ;"));
        due.is("a blank behind a clause", -17, readOf("keep 1; "));
        due.is("a sign ahead of N", -15, readOf("keep +1;"));
        due.is("a semicolon alone", -10, readOf(";"));
        due.is("another semicolon", -17, readOf("keep 1;;"));
    }

    private static void eachWordOnce() {
        due.by("Each WORD once at most.");
        // Only 's' may begin two words; else the first byte of a word that was told is the wrong one.
        due.is("share", -19, readOf("share 1;share 1;"));
        due.is("keep", -17, readOf("keep 1;keep 1;"));
        due.is("wait", -17, readOf("wait 1;wait 1;"));
        due.is("free", -17, readOf("free 1;free 1;"));
        due.is("sure", -18, readOf("sure 1;sure 1;"));
        due.is("both with s", -25, readOf("share 1;sure 1;share 1;"));
        due.is("both with s", -25, readOf("sure 1;share 1;sure 1;"));
        due.is("one between", -24, readOf("keep 1;wait 1;keep 1;"));
        BenchTimes x = new BenchTimes();
        due.reads(x, "keep 1;", 1);
        due.reads(x, "keep 2;", 1);
        due.is("once in each text", 2, x.rule(1));
    }

    private static void nothingBehindAllWords() {
        due.by("Each WORD once at most.");
        due.is("all words", 5, readOf(LONGEST));
        for (String word : WORDS) {
            due.is(word + " again", -10 - LONGEST.length(), readOf(LONGEST + word + " 1;"));
        }
    }

    private static void aFullTape() {
        due.by("THE TAPE (bytes, at most 60)");
        BenchTimes x = new BenchTimes();
        Due.feed(x, LONGEST + "12345678901234");
        due.is("full", 60, x.count(8));
        due.is("the byte behind all words", -56, x.read());
        BenchTimes y = new BenchTimes();
        Due.feed(y, "x" + LONGEST + LONGEST);
        due.is("what comes to a full one is not there", 60, y.count(8));
        due.is("the first byte", -10, y.read());
    }

    private static void tapeIsEmptyThen() {
        due.by("THE TAPE, which is empty then, is read");
        BenchTimes x = new BenchTimes();
        Due.feed(x, "keep 9;");
        due.is("read", 1, x.read());
        due.is("empty", 0, x.count(8));
        due.is("nothing to read", 0, x.read());
        Due.feed(x, "keep 8");
        due.is("a fault", -16, x.read());
        due.is("empty behind a fault, too", 0, x.count(8));
        due.is("the first byte comes to place 0", 1, x.feed(';'));
        due.is("what was there is gone", -10, x.read());
        due.is("KEEP", 9, x.rule(1));
    }

    private static void theyHoldFromNowOn() {
        due.by("how many RULES it told (they hold from now on)");
        BenchTimes x = Due.withRate(100);
        x.work(0, 0, 10010, 10);
        x.wait(0, 0, 0, 10);
        due.is("by FREE 3", 10, x.pay(0, 0, 1));
        due.is("by WAIT 50", 5, x.pay(0, 0, 2));
        due.is("by SURE 80", 16, x.pay(0, 0, 0));
        Due.feed(x, "free 100;wait 100;sure 0;");
        due.is("fed alone", 10, x.pay(0, 0, 1));
        x.read();
        due.is("by FREE 100", 20, x.pay(0, 0, 1));
        due.is("by WAIT 100", 10, x.pay(0, 0, 2));
        due.is("by SURE 0", 30, x.pay(0, 0, 0));
    }

    private static void nothingChangesButTheTape() {
        due.by("-10 less the FAULT (nothing changes but THE TAPE)");
        String[] faulty = {"share 1;keep 1;wait 1;free 1;sure 1", "share 1;keep 53;", "sure 1;sure 2;", "keep 1;x"};
        int[] want = {-45, -25, -18, -17};
        for (int i = 0; i < faulty.length; i++) {
            BenchTimes x = new BenchTimes();
            due.reads(x, faulty[i], want[i]);
            allAre(x, "as it was", FIRST);
            due.is("empty", 0, x.count(8));
            due.reads(x, "wait 2;", 1);
            allAre(x, "but for WAIT", 10, 4, 2, 3, 80);
        }
    }

    private static void faultsAreNoFindings() {
        due.by("FINDINGS are answers below -1000000000");
        BenchTimes x = new BenchTimes();
        due.reads(x, "x", -10);
        due.reads(x, LONGEST + "x", -56);
        for (int k = 1; k <= 5; k++) {
            due.is("found " + k, 0, x.found(k));
        }
    }

    private static void ruleOfWhat() {
        due.by("BEYOND: another what.");
        due.range("what", 0, 4, v -> new BenchTimes().rule(v));
    }
}
