/** Section 1 of the document, sentence by sentence: each bound, the last that may be and the first that may not. */
public final class TextEdgesTest {
    private static final String STATE = "s9 0 0 0 0;", TRIAL = "t0 1 1;", DEED = "d0 0;";

    private static void due(String call, long got, long want) {
        Check.due(call, got, want);
    }

    /** A text without a fault: how many items. */
    private static void items(String text, int want) {
        LaterJury x = new LaterJury();
        Check.type(x, text);
        due("court() of '" + text + "'", x.court(), want);
        due("bytes behind '" + text + "'", x.count(9), 0);
    }

    private static void fault(String text, int place) {
        LaterJury x = new LaterJury();
        Check.type(x, text);
        due("court() of '" + text + "'", x.court(), -10 - place);
        due("bytes behind '" + text + "'", x.count(9), text.length());
    }

    private static String times(int times, String item) {
        return item.repeat(times);
    }

    // ---- YEARS 0 .. n - 1 (n 2 .. 16; 12 at first)

    private static void yearsAtLeast() {
        items("y2;", 1);
        fault("y1;", 1);
        fault("y0;", 1);
    }

    private static void yearsAtMost() {
        items("y16;", 1);
        fault("y17;", 1);
    }

    private static void lastYear(LaterJury x, int last) {
        due("count(0)", x.count(0), last + 1);
        due("who(" + last + ")", x.who(last), 1);
        due("who(" + (last + 1) + ")", x.who(last + 1), -1);
        due("self(0, " + last + ")", x.self(0, last), 0);
        due("self(0, " + (last + 1) + ")", x.self(0, last + 1), -1);
        due("does(" + last + ", 0)", x.does(last, 0), 1);
        due("does(" + (last + 1) + ", 0)", x.does(last + 1, 0), -1);
        due("saw(" + last + ", 0)", x.saw(last, 0), 1);
        due("saw(" + (last + 1) + ", 0)", x.saw(last + 1, 0), -1);
        for (int far : new int[] {16, 99, Integer.MAX_VALUE, -1, Integer.MIN_VALUE}) {
            due("does(" + far + ", 0)", x.does(far, 0), -1);
            due("saw(" + far + ", 0)", x.saw(far, 0), -1);
            due("who(" + far + ")", x.who(far), -1);
            due("self(0, " + far + ")", x.self(0, far), -1);
        }
    }

    private static void yearsAreBelowN() {
        lastYear(Check.told("y2;" + STATE + DEED), 1);
        lastYear(Check.told("y16;" + STATE + DEED), 15);
        lastYear(Check.told(STATE + DEED), 11);
        due("new: who(11)", new LaterJury().who(11), 0);
        due("new: who(12)", new LaterJury().who(12), -1);
    }

    // ---- STATES (6 of them at most)

    private static void sixStates() {
        LaterJury x = Check.told(times(6, STATE));
        due("count(1)", x.count(1), 6);
        due("state(5, 0)", x.state(5, 0), 0);
        due("state(6, 0)", x.state(6, 0), -1000000);
        fault(times(6, STATE) + STATE, 66);
        // the seventh's letters can't stand, whatever comes behind them
        fault(times(6, STATE) + "s", 66);
    }

    private static void leanLessNine() {
        due("LEAN of s0", Check.told("s0 0 0 0 0;").state(0, 0), -9);
        due("LEAN of s9", Check.told("s9 0 0 0 0;").state(0, 0), 0);
        due("LEAN of s18", Check.told("s18 0 0 0 0;").state(0, 0), 9);
        fault("s19 0 0 0 0;", 1);
    }

    private static void deadOrNot() {
        due("DEAD 0", Check.told("s9 0 0 0 0;").state(0, 1), 0);
        due("DEAD 1", Check.told("s9 1 0 0 0;").state(0, 1), 1);
        fault("s9 2 0 0 0;", 3);
    }

    private static void becomesZeroToFive() {
        LaterJury x = Check.told("s9 0 5 0 5;s9 0 0 5 0;");
        int[][] want = {{5, 0, 5}, {0, 5, 0}};
        for (int s = 0; s < 2; s++) {
            for (int what = 2; what <= 4; what++) {
                due("state(" + s + ", " + what + ")", x.state(s, what), want[s][what - 2]);
            }
        }
        fault("s9 0 6 0 0;", 5);
        fault("s9 0 0 6 0;", 7);
        fault("s9 0 0 0 6;", 9);
    }

    // ---- a STATE that is not told at the end: it stays

    private static void notToldStaysWithoutVerdict() {
        LaterJury x = Check.told("y3;s9 0 1 0 0;s9 0 2 0 0;");
        due("as told", x.state(1, 2), 2);
        due("self(0, 1)", x.self(0, 1), 1);
        due("self(0, 2)", x.self(0, 2), 1);
    }

    /** GUILTY of 0 names 2, which is not told: guilty leaves 0, that leans below 0, so guilty is so. */
    private static void notToldStaysBehindGuilty() {
        LaterJury x = Check.told("y3;s8 0 0 2 1;s8 0 1 1 1;t0 1 2;");
        due("lives()", x.lives(), 1);
        due("verdict(0, 0)", x.verdict(0, 0), 1);
        due("self(0, 1)", x.self(0, 1), 0);
        due("self(0, 2)", x.self(0, 2), 0);
    }

    private static void notToldStaysBehindAcquitted() {
        LaterJury x = Check.told("y3;s9 0 1 1 5;s9 0 1 1 1;t0 1 2;");
        due("lives()", x.lives(), 1);
        due("verdict(0, 0)", x.verdict(0, 0), 2);
        due("self(0, 1)", x.self(0, 1), 0);
        due("self(0, 2)", x.self(0, 2), 1);
    }

    /** What counts is the end of the text, not where the state stands in it. */
    private static void toldLaterIsTold() {
        LaterJury x = Check.told("y3;s9 0 1 0 0;q1;s9 0 2 0 0;d0 0;s9 0 2 2 2;");
        due("self(0, 1)", x.self(0, 1), 1);
        due("self(0, 2)", x.self(0, 2), 2);
    }

    // ---- BEGIN (0 .. 5; 0 at first; one that is not told: 0)

    private static void begin(String text, int want) {
        LaterJury x = Check.told(text);
        due("count(5) of " + text, x.count(5), want);
        due("self(0, 0) of " + text, x.self(0, 0), want);
        due("who(0) of " + text, x.who(0), 1 << want);
    }

    private static void beginIsToldOrZero() {
        begin(times(6, STATE), 0);
        begin("b0;" + times(6, STATE), 0);
        begin("b5;" + times(6, STATE), 5);
        begin("b5;" + times(5, STATE), 0);
        begin("b4;" + times(5, STATE), 4);
        begin(STATE + "b1;", 0);
        begin(STATE + "b1;" + STATE, 1);
        due("no states", Check.told("b1;").count(5), 0);
        fault("b6;", 1);
    }

    // ---- TRIALS (3 of them at most), in rising YEARS Y; Y less than A, A no more than B, B a YEAR

    private static void threeTrials() {
        LaterJury x = Check.told("t0 1 1;t1 2 2;t2 3 3;");
        due("count(2)", x.count(2), 3);
        due("trial(2, 0)", x.trial(2, 0), 2);
        due("trial(3, 0)", x.trial(3, 0), -1);
        fault("t0 1 1;t1 2 2;t2 3 3;t3 4 4;", 21);
        fault("t0 1 1;t1 2 2;t2 3 3;t", 21);
    }

    private static void risingYears() {
        items("t3 4 4;t4 5 5;", 2);
        fault("t3 4 4;t3 5 5;", 8);
        fault("t3 4 4;t2 5 5;", 8);
        // no less than the latest one, not than the first
        fault("t0 1 1;t5 6 6;t5 7 7;", 15);
        fault("t0 1 1;t5 6 6;t1 7 7;", 15);
        // juries need not rise
        items("t0 9 9;t1 2 2;", 2);
    }

    private static void yearLessThanFirstJuror() {
        items("t3 4 4;", 1);
        fault("t3 3 4;", 3);
        fault("t3 0 4;", 3);
        // the years of the trial itself, not of the one ahead
        fault("t0 1 1;t3 3 4;", 10);
    }

    private static void firstJurorNoLaterThanLast() {
        items("t3 5 5;", 1);
        fault("t3 5 4;", 5);
        fault("t3 5 0;", 5);
    }

    private static void lastJurorIsAYear() {
        items("t0 1 11;", 1);
        fault("t0 1 12;", 5);
        items("y16;t0 1 15;", 2);
        fault("y16;t0 1 16;", 9);
        items("y2;t0 1 1;", 2);
        fault("y2;t0 1 2;", 8);
    }

    /** Where no jury could come any more the NUMBER that leaves no room for it can't stand. */
    private static void roomForAJury() {
        items("t10 11 11;", 1);
        fault("t11 11 11;", 1);
        fault("t10 12 12;", 4);
        items("y16;t14 15 15;", 2);
        fault("y16;t15 15 15;", 5);
        fault("y2;t1 1 1;", 4);
    }

    // ---- QUORUM (1 .. 9; 1 at first)

    private static void quorumOneToNine() {
        due("at first", Check.told(STATE).count(6), 1);
        due("q1", Check.told("q1;").count(6), 1);
        due("q9", Check.told("q9;").count(6), 9);
        fault("q0;", 1);
        fault("q10;", 1);
    }

    // ---- DEEDS (4 kinds at most; 0 .. 5 each)

    private static void fourDeeds() {
        LaterJury x = Check.told("d0 5;d5 0;d0 0;d5 5;");
        due("count(3)", x.count(3), 4);
        due("deed(3, 1)", x.deed(3, 1), 5);
        due("deed(4, 0)", x.deed(4, 0), -1);
        fault(times(5, DEED), 20);
        fault(times(4, DEED) + "d", 20);
        fault("d6 0;", 1);
        fault("d0 6;", 3);
    }

    // ---- a text (200 bytes at most)

    private static void twoHundredBytes() {
        String full = "y3;" + times(6, STATE) + "t0 1 1;b0;q1;" + times(4, DEED);
        items(full + " ".repeat(200 - full.length()), 14);
        items(" ".repeat(200 - full.length()) + full, 14);
        items(" ".repeat(200), 0);
        fault(" ".repeat(199) + "b", 200);
        fault(" ".repeat(199) + "x", 199);
        fault(" ".repeat(197) + "b0 ", 200);
        fault(" ".repeat(198) + "b0", 200);
        LaterJury x = new LaterJury();
        Check.type(x, " ".repeat(197) + "b0;");
        due("a 201st byte", x.type('x'), -3);
        due("court() of 200 bytes", x.court(), 1);
        due("the text is empty", x.type(' '), 1);
    }

    /** What stood in a longer text is not read behind the end of a shorter one. */
    private static void nothingOfAnEarlierText(String earlier, String text, int want) {
        LaterJury x = new LaterJury();
        Check.type(x, earlier);
        due("clear() of '" + earlier + "'", x.clear(), earlier.length());
        Check.type(x, text);
        due("court() of '" + text + "' behind '" + earlier + "'", x.court(), want);
    }

    private static void shorterThanTheEarlierText() {
        nothingOfAnEarlierText("b000;", "b0", -12);
        nothingOfAnEarlierText("b0;;", "b0", -12);
        nothingOfAnEarlierText("bbb", "b", -11);
        nothingOfAnEarlierText("y3;#", "y3;", 1);
        nothingOfAnEarlierText("y3;y4;", "", 0);
        nothingOfAnEarlierText("y3;   x", "y3; ", 1);
    }

    // ---- blanks (32) between TOKENS

    private static void blanks() {
        items("", 0);
        items(" ", 0);
        items("   y   3   ;   ", 1);
        items("s9 0 0 0 0;t0 1 1;d0 0;", 3);
        items("s   9   0   0   0   0   ;", 1);
        // without blanks numbers are one NUMBER
        fault("s90000;", 1);
        fault("s9 00 0 0;", 3);
        fault("t12 3;", 1);
        fault("y1 6;", 1);
    }

    // ---- y N (years; ahead of all t); y, b, q once each at most

    private static void yearsAheadOfTrials() {
        items(STATE + DEED + "b0;q1;y3;" + TRIAL, 6);
        fault(TRIAL + "y3;", 7);
        fault(TRIAL + "y12;", 7);
        fault("y3;" + TRIAL + "y3;", 10);
        // a trial is by the years told ahead of it
        items("y16;t14 15 15;", 2);
        fault("t14 15 15;y16;", 1);
    }

    private static void onceEach() {
        fault("y3;y3;", 3);
        fault("y3;" + STATE + "y3;", 14);
        fault("b0;b0;", 3);
        fault("b0;" + TRIAL + "b0;", 10);
        fault("q1;q1;", 3);
        fault("q1;" + DEED + "q1;", 8);
        items("y3;b0;q1;", 3);
        items("q1;b5;y16;", 3);
        // told in an earlier text is not told again
        LaterJury x = Check.told("y3;b0;q2;");
        Check.type(x, "y3;b0;q2;");
        due("court() once more", x.court(), 3);
    }

    // ---- TOKENS are letters a .. z side by side, NUMBERS and ;

    private static void lettersThatBeginNoItem() {
        for (char c = 'a'; c <= 'z'; c++) {
            if ("ysbtqd".indexOf(c) < 0) {
                fault("b0;" + c + "1;", 3);
            } else {
                fault("b0;" + c, c == 'b' ? 3 : 4);
            }
        }
        fault("yy3;", 0);
        fault("ya;", 0);
        fault("yz3;", 0);
        fault("sb;", 0);
        fault("y3;bq1;", 3);
        fault("y3;td0 1 1;", 3);
    }

    private static void bytesThatBeginNoToken() {
        for (int c = 0; c < 256; c++) {
            boolean begins = c == ' ' || c == ';' || c >= '0' && c <= '9' || c >= 'a' && c <= 'z';
            if (!begins) {
                fault("b0;" + (char) c, 3);
                fault("b" + (char) c + "0;", 1);
                fault("b0" + (char) c + ";", 2);
            }
        }
    }

    private static void tokensOutOfPlace() {
        fault(";", 0);
        fault("7;", 0);
        fault("b;", 1);
        fault("b b;", 2);
        fault("b0 0;", 3);
        fault("b0b;", 2);
        fault("y3q1;", 2);
        fault("y3;s9z;", 5);
        fault("b0;;", 3);
        fault("b0;0;", 3);
        fault("s9 0 0 0;", 8);
        fault("s9 0 0 0 0 0;", 11);
        fault("t0 1;", 4);
        fault("t0 1 1 1;", 7);
        fault("d0;", 2);
        fault("d0 0 0;", 5);
    }

    // ---- a NUMBER above 99 or with a 0 ahead of others

    private static void numbersTooGreat() {
        fault("b99;", 1);
        fault("b100;", 1);
        fault("b  100;", 3);
        // as 32 or 64 bits these would be 3
        fault("y4294967299;", 1);
        fault("y18446744073709551619;", 1);
        // as one byte this would be 3
        fault("y259;", 1);
        fault("b" + "0".repeat(50) + ";", 1);
        fault("b" + "9".repeat(150) + ";", 1);
        // where no NUMBER can stand its place is the same
        fault("100", 0);
        fault("b0 100", 3);
    }

    private static void zeroAhead() {
        items("b0;", 1);
        items("y10;", 1);
        fault("b00;", 1);
        fault("b01;", 1);
        fault("b0 01;", 3);
        fault("s09 0 0 0 0;", 1);
        fault("s9 0 0 0 00;", 9);
        fault("y012;", 1);
    }

    // ---- the text's length, if it ends too early

    private static void endsTooEarly() {
        for (String item : new String[] {"y3;", STATE, "b0;", "t0 1 11;", "q1;", DEED}) {
            for (int size = 1; size < item.length(); size++) {
                fault(item.substring(0, size), size);
                fault(item.substring(0, size) + "  ", size + 2);
                fault("  " + item.substring(0, size), size + 2);
            }
            items(item, 1);
        }
        // a NUMBER that may not be is a fault, though the text ends there
        fault("b6", 1);
        fault("t0 0", 3);
        fault("b00", 1);
    }

    // ---- FAULT: the first TOKEN

    private static void firstOfSeveralFaults() {
        fault("b6;#", 1);
        fault("#b6;", 0);
        fault("b6", 1);
        fault("b0;b7;", 3);
        fault("y17;" + TRIAL + "y3;", 1);
        fault("s19 2 6 6 6", 1);
        fault("s9 2 6 6 6", 3);
    }

    public static void main(String[] args) {
        yearsAtLeast();
        yearsAtMost();
        yearsAreBelowN();
        sixStates();
        leanLessNine();
        deadOrNot();
        becomesZeroToFive();
        notToldStaysWithoutVerdict();
        notToldStaysBehindGuilty();
        notToldStaysBehindAcquitted();
        toldLaterIsTold();
        beginIsToldOrZero();
        threeTrials();
        risingYears();
        yearLessThanFirstJuror();
        firstJurorNoLaterThanLast();
        lastJurorIsAYear();
        roomForAJury();
        quorumOneToNine();
        fourDeeds();
        twoHundredBytes();
        shorterThanTheEarlierText();
        blanks();
        yearsAheadOfTrials();
        onceEach();
        lettersThatBeginNoItem();
        bytesThatBeginNoToken();
        tokensOutOfPlace();
        numbersTooGreat();
        zeroAhead();
        endsTooEarly();
        firstOfSeveralFaults();
        Check.end();
    }
}
